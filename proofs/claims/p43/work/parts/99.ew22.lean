/-! sand -/
theorem kcR2_s : ((List.range 8).all fun g => (List.range 2).all fun u => (List.range 2).all fun t => ssubB (kcR2_m g u) (MC t u)) = true := by decide
theorem zv_scr : zcvB 107 43 8 2 108 = true := by decide +kernel
theorem zRunL {l : Launch} {Γ : zG} {d t u : Nat} (ht : t < 2) (hu : u < 2) {Kp : Option Value → zH → Prop} {N : zN} {S : zS} {o : Nat → Int} {h0 : zH} (hT : TB N S) (hO : OB o) : ∀ (m g : Nat) (lo : zL) (h : zH) (s : zSt) (n : Int), g + m = S 1 → SB n s → n + m ≤ 2000000000 → CI t u N S o s h0 h → zget lo 0 = some (.ref 61) → zget lo 1 = some (.ref (12 * u + 43)) → zI lo 2 (g : Int) →
    (∀ h', CI t u N S o (itG (rnG N S o) m g s) h0 h' → Kp none h') → zX l Γ false (d + 4) (zhd 107) (zMQ' Γ false (zhd 107) Kp) 0 0 2 lo [] h
  | 0, g, lo, h, s, n, hr, hB, hn, I, l0, l1, l2, hE => by
    have b := hT.1.2.1
    exact kcR3 (d := d + 3) (by omega) ht hu (ri := (g : Int)) (n := (S 1 : Int)) I.1 ⟨by omega, by omega⟩ ⟨by omega, by omega⟩ l0 l1 l2 I.2.2.1.1.1.2.1.2.1 I.2.2.1.2.1 (by omega) (fun h' i1 m1 => hE h' (I.nil ht hu i1 m1))
  | m + 1, g, lo, h, s, n, hr, hB, hn, I, l0, l1, l2, hE => by
    have b := hT.1.2.1
    have g8 : g < 8 := by omega
    obtain ⟨c0, c1, c3, -⟩ := I.2.2.2.1 g g8
    obtain ⟨b0, b1, -, b3, -⟩ := hB.1 g g8
    have fb := flG_b (s := s) hT hO (g := g) (by omega)
    have hB' := rnG_b hT hO hB (g := g) (by omega)
    have nx : ∀ (lo' : zL) (h' : zH) (s' : zSt), CI t u N S o s' h0 h' → s' = rnG N S o s g → zget lo' 0 = some (.ref 61) → zget lo' 1 = some (.ref (12 * u + 43)) → zI lo' 2 ((g : Int) + 1) → zX l Γ false (d + 4) (zhd 107) (zMQ' Γ false (zhd 107) Kp) 0 0 2 lo' [] h' := fun lo' h' s' I1 es g0 g1 g2 =>
      zRunL ht hu hT hO m (g + 1) lo' h' s' (n + 1) (by omega) (by rw [es]; exact hB') (by omega) I1 g0 g1 (by rw [Int.natCast_add]; exact g2) (fun h' I' => hE h' (by
        show CI t u N S o (itG (rnG N S o) m (g + 1) (rnG N S o s g)) h0 h'
        rw [← es]
        exact I'))
    refine kcR1 (d := d + 3) (by omega) g8 ht hu (n := (S 1 : Int)) (a := s 0 g) I.1 ⟨by omega, by omega⟩ b0 l0 l1 l2 I.2.2.1.1.1.2.1.2.1 c0 I.2.2.1.2.1 (fun lo' h' i1 m1 e g0 g1 g2 => ?_) (fun lo' h' y0 y3 i1 m1 e g0 g1 g2 hy0 hy3 => ?_)
    · refine nx lo' h' s (I.nil ht hu i1 m1) ?_ g0 g1 g2
      have x0 := lsG_b (s 0 g) (flG N S o s g)
      have x1 := lsG_b 999 (s 1 g + 0)
      have ex : lsG (s 0 g) (flG N S o s g) = 0 := by omega
      unfold rnG
      rw [ex]
      unfold rnS
      rw [stS_id (k := 3), stS_id (k := 1), stS_id (k := 0)]
      · omega
      · show lsG 999 (s 1 g + 0) = s 1 g
        omega
      · show _ = s 3 g
        rw [if_neg (by omega)]
    · have I1 := I.nil ht hu i1 m1
      refine zcallR (mi := 107) (as := [.int y0, .ref (12 * u + 43)]) (rest := [.int y3]) (q0 := 61) zv_scr rfl (Nat.le_of_ble_eq_true rfl) (shK I1.1) ?_
      refine (zFlwC ht hu hT hO I1 (g := g) (by omega) hy0).mono (fun v h2 hv => ?_)
      obtain ⟨y, rfl, hy, I2⟩ := hv
      obtain ⟨k0, k1, k3, -⟩ := I2.2.2.2.1 g g8
      have x0 := lsG_b (s 0 g) (flG N S o s g)
      have x1 := lsG_b 999 (s 1 g + lsG (s 0 g) (flG N S o s g))
      have er : rnG N S o s g = rnS s g (lsG (s 0 g) (flG N S o s g)) := rfl
      have fin : ∀ (lo3 : zL) (h3 : zH), sInv swC h3 → sMd (kcR2_m g u) h2 h3 → pI h3 (12 * u + 46) g = (if s 0 g ≠ 0 ∧ s 0 g - lsG (s 0 g) (flG N S o s g) = 0 then s 3 g + 1 else s 3 g) → pI h3 (12 * u + 45) g = lsG 999 (s 1 g + lsG (s 0 g) (flG N S o s g)) → pI h3 (12 * u + 44) g = s 0 g - lsG (s 0 g) (flG N S o s g) → zget lo3 0 = some (.ref 61) → zget lo3 1 = some (.ref (12 * u + 43)) → zI lo3 2 ((g : Int) + 1) → zX l Γ false (d + 4) (zhd 107) (zMQ' Γ false (zhd 107) Kp) 0 0 2 lo3 [] h3 := fun lo3 h3 i3 m3 e3 e1 e0 z0 z1 z2 => by
        refine nx lo3 h3 _ ?_ er.symm z0 z1 z2
        exact I2.to ht hu i3 (m3.sub (zall_r (zall_r (zall_r kcR2_s g8) hu) ht)) (CS.mk (upS (s := s) (fun j hj hn => (pI_md m3 (smemc (by omega) (smemc (by omega) (smemc (by omega) smem0)))).trans (I2.2.2.2.1 j hj).1) e0) (upS (s := stS s 0 g (s 0 g - lsG (s 0 g) (flG N S o s g))) (fun j hj hn => (pI_md m3 (smemc (by omega) (smemc (by omega) (smemc (by omega) smem0)))).trans (I2.2.2.2.1 j hj).2.1) e1) (upS (s := stS (stS s 0 g (s 0 g - lsG (s 0 g) (flG N S o s g))) 1 g (lsG 999 (s 1 g + lsG (s 0 g) (flG N S o s g)))) (fun j hj hn => (pI_md m3 (smemc (by omega) (smemc (by omega) (smemc (by omega) smem0)))).trans (I2.2.2.2.1 j hj).2.2.1) e3) (I2.2.2.2.k4 m3 (fun j => smemc (by omega) (smemc (by omega) (smemc (by omega) smem0)))) (I2.2.2.2.k5 m3 (fun j => smemc (by omega) (smemc (by omega) (smemc (by omega) smem0)))) (I2.2.2.2.k6 m3 (fun j hj => smemc (by omega) (smemc (by omega) (smemc (by omega) smem0)))) (I2.2.2.2.k2 m3 (smemc (by omega) (smemc (by omega) (smemc (by omega) smem0)))))
      refine kcR2 (d := d + 3) (by omega) g8 hu (x := flG N S o s g) (a2 := s 0 g) (a := s 0 g) (b := s 1 g) (em := s 3 g) I2.1 fb b0 b0 b1 ⟨by omega, by omega⟩ g0 g1 g2 hy hy3 k0 k1 k3 (fun lo3 h3 i3 m3 c1 c2 c3 v3 v1 v0 z0 z1 z2 => ?_) (fun lo3 h3 i3 m3 c1 c2 c3 v1 v0 v3 z0 z1 z2 => ?_) (fun lo3 h3 i3 m3 c1 c2 c3 v3 v1 v0 z0 z1 z2 => ?_) (fun lo3 h3 i3 m3 c1 c2 c3 v1 v0 v3 z0 z1 z2 => ?_) (fun lo3 h3 i3 m3 c1 c2 c3 v3 v1 v0 z0 z1 z2 => ?_) (fun lo3 h3 i3 m3 c1 c2 c3 v1 v0 v3 z0 z1 z2 => ?_) (fun lo3 h3 i3 m3 c1 c2 c3 v3 v1 v0 z0 z1 z2 => ?_) (fun lo3 h3 i3 m3 c1 c2 c3 v1 v0 v3 z0 z1 z2 => ?_)
      · exact fin lo3 h3 i3 m3 (by rw [if_pos (by omega)]; exact v3) (by omega) (by omega) z0 z1 z2
      · exact fin lo3 h3 i3 m3 (by rw [if_neg (by omega)]; exact v3) (by omega) (by omega) z0 z1 z2
      · exact fin lo3 h3 i3 m3 (by rw [if_pos (by omega)]; exact v3) (by omega) (by omega) z0 z1 z2
      · exact fin lo3 h3 i3 m3 (by rw [if_neg (by omega)]; exact v3) (by omega) (by omega) z0 z1 z2
      · exact fin lo3 h3 i3 m3 (by rw [if_pos (by omega)]; exact v3) (by omega) (by omega) z0 z1 z2
      · exact fin lo3 h3 i3 m3 (by rw [if_neg (by omega)]; exact v3) (by omega) (by omega) z0 z1 z2
      · exact fin lo3 h3 i3 m3 (by rw [if_pos (by omega)]; exact v3) (by omega) (by omega) z0 z1 z2
      · exact fin lo3 h3 i3 m3 (by rw [if_neg (by omega)]; exact v3) (by omega) (by omega) z0 z1 z2
theorem zRunC {l : Launch} {Γ : zG} {d t u : Nat} (ht : t < 2) (hu : u < 2) {N : zN} {S : zS} {o : Nat → Int} {s : zSt} {h0 h : zH} {n : Int} (hT : TB N S) (hO : OB o) (hB : SB n s) (hn : n ≤ 1999999000) (I : CI t u N S o s h0 h) : zSem l Γ false (d + 4) (zhd 107) [.ref 61, .ref (12 * u + 43)] h (fun r h' => r = none ∧ CI t u N S o (itG (rnG N S o) (S 1) 0 s) h0 h') := by
  have b := hT.1.2.1
  refine kcR0 (d := d + 3) (by omega) hu I.1 (fun lo' h' i1 m1 g0 g1 g2 => ?_)
  exact zRunL ht hu hT hO (S 1) 0 lo' h' s n (by omega) hB (by omega) (I.nil ht hu i1 m1) g0 g1 g2 (fun h' I' => ⟨rfl, I'⟩)
/-! wind -/
theorem kcW3_s : ((List.range 8).all fun g => (List.range 2).all fun u => (List.range 2).all fun t => ssubB (kcW3_m g u) (MC t u)) = true := by decide
theorem zv_scw1 : zcvB 109 40 8 2 87 = true := by decide +kernel
theorem zv_scw2 : zcvB 109 63 6 1 89 = true := by decide +kernel
theorem zWndL {l : Launch} {Γ : zG} {d t u : Nat} (ht : t < 2) (hu : u < 2) {Kp : Option Value → zH → Prop} {N : zN} {S : zS} {o : Nat → Int} {h0 : zH} (hT : TB N S) (hO : OB o) (h9 : S (7 + 2) ≠ 0) {n : Int} : ∀ (m g : Nat) (lo : zL) (h : zH) (s : zSt), g + m = S 1 → SB n s → CI t u N S o s h0 h → zget lo 0 = some (.ref 61) → zget lo 1 = some (.ref (12 * u + 43)) → zI lo 2 (g : Int) →
    (∀ h', CI t u N S o (itG (wnG N S o) m g s) h0 h' → Kp none h') → zX l Γ false (d + 3) (zhd 109) (zMQ' Γ false (zhd 109) Kp) 0 0 17 lo [] h
  | 0, g, lo, h, s, hr, hB, I, l0, l1, l2, hE => by
    have b := hT.1.2.1
    exact kcW4 (d := d + 2) (by omega) ht hu (ri := (g : Int)) (n := (S 1 : Int)) I.1 ⟨by omega, by omega⟩ ⟨by omega, by omega⟩ l0 l1 l2 I.2.2.1.1.1.2.1.2.1 I.2.2.1.2.1 (by omega) (fun h' i1 m1 => hE h' (I.nil ht hu i1 m1))
  | m + 1, g, lo, h, s, hr, hB, I, l0, l1, l2, hE => by
    have b := hT.1.2.1
    have g8 : g < 8 := by omega
    obtain ⟨b0, b1, -, b3, -⟩ := hB.1 g g8
    have hB' := wnG_b (N := N) (S := S) (o := o) hB g8
    refine kcW1 (d := d + 2) (by omega) ht hu (ri := (g : Int)) (n := (S 1 : Int)) I.1 ⟨by omega, by omega⟩ ⟨by omega, by omega⟩ l0 l1 l2 I.2.2.1.1.1.2.1.2.1 I.2.2.1.2.1 (by omega) (fun lo' h' y0 i1 m1 g0 g1 g2 hy0 => ?_)
    have I1 := I.nil ht hu i1 m1
    refine zcallR (mi := 109) (as := [.int y0, .ref (12 * u + 43)]) (rest := []) (q0 := 61) zv_scw1 rfl (by decide) (shK I1.1) ?_
    refine (zLookC ht hu hT hO I1 (g := g) (by omega) hy0).mono (fun v h2 hv => ?_)
    obtain ⟨rfl, I2, hnm⟩ := hv
    refine kcW2 (d := d + 2) (by omega) g8 ht hu (b := s 1 g) I2.1 b1 g0 g1 g2 (I2.2.2.2.1 g g8).2.1 I2.2.2.1.2.1 (fun lo3 h3 y3 y4 y5 y6 i3 m3 z0 z1 z2 hy3 hy4 hy5 hy6 => ?_)
    have I3 := I2.nil ht hu i3 m3
    refine zcallR (mi := 109) (as := [.int y3]) (rest := [.int y4, .int y5, .int y6, .ref (12 * u + 45)]) (q0 := 17 * t + 20) zv_scw2 rfl (Nat.le_of_ble_eq_true rfl) (shL ht i3) ?_
    refine (zValN ht hu hT I3 (j := 2) (by decide) h9 (nm := nmS N o s g) (fun i hi => (pI_md m3 rfl).trans (hnm i hi)) hy3).mono (fun v h4 hv => ?_)
    obtain ⟨y7, rfl, I4, hb⟩ := hv
    have c := hb.c 0
    have fb := bdV_b (o := lwV N S 2 (nmS N o s g)) (w := 0) (by omega)
    have x0 := lsG_b (bdV (lwV N S 2 (nmS N o s g)) 0) (s 1 g)
    have ew : wnG N S o s g = stS s 1 g (s 1 g - lsG (bdV (lwV N S 2 (nmS N o s g)) 0) (s 1 g)) := rfl
    have fin : ∀ (lo5 : zL) (h5 : zH), sInv swC h5 → sMd (kcW3_m g u) h4 h5 → pI h5 (12 * u + 45) g = s 1 g - lsG (bdV (lwV N S 2 (nmS N o s g)) 0) (s 1 g) → zget lo5 0 = some (.ref 61) → zget lo5 1 = some (.ref (12 * u + 43)) → zI lo5 2 ((g : Int) + 1) → zX l Γ false (d + 3) (zhd 109) (zMQ' Γ false (zhd 109) Kp) 0 0 17 lo5 [] h5 := fun lo5 h5 i5 m5 e1 z0 z1 z2 => by
      refine zWndL ht hu hT hO h9 m (g + 1) lo5 h5 (wnG N S o s g) (by omega) hB' ?_ z0 z1 (by rw [Int.natCast_add]; exact z2) hE
      rw [ew]
      exact I4.to ht hu i5 (m5.sub (zall_r (zall_r (zall_r kcW3_s g8) hu) ht)) (CS.mk (I4.2.2.2.k0 m5 (fun j => smemc (by omega) smem0)) (upS (s := s) (fun j hj hn => (pI_md m5 (smemc (by omega) smem0)).trans (I4.2.2.2.1 j hj).2.1) e1) (I4.2.2.2.k3 m5 (fun j => smemc (by omega) smem0)) (I4.2.2.2.k4 m5 (fun j => smemc (by omega) smem0)) (I4.2.2.2.k5 m5 (fun j => smemc (by omega) smem0)) (I4.2.2.2.k6 m5 (fun j hj => smemc (by omega) smem0)) (I4.2.2.2.k2 m5 (smemc (by omega) smem0)))
    refine kcW3 (d := d + 2) (by omega) g8 hu (y := y7.toInt) (b := s 1 g) I4.1 (i64bd _) b1 z0 z1 z2 rfl hy4 hy5 hy6 (fun lo5 h5 i5 m5 c1 c2 v1 z0 z1 z2 => ?_) (fun lo5 h5 i5 m5 c1 c2 v1 z0 z1 z2 => ?_) (fun lo5 h5 i5 m5 c1 c2 c3 c4 v1 z0 z1 z2 => ?_) (fun lo5 h5 i5 m5 c1 c2 c3 c4 v1 z0 z1 z2 => ?_) (fun lo5 h5 i5 m5 c1 c2 c3 c4 v1 z0 z1 z2 => ?_) (fun lo5 h5 i5 m5 c1 c2 c3 c4 v1 z0 z1 z2 => ?_) (fun lo5 h5 i5 m5 c1 c2 c3 v1 z0 z1 z2 => ?_) (fun lo5 h5 i5 m5 c1 c2 c3 v1 z0 z1 z2 => ?_)
    · exact fin lo5 h5 i5 m5 (by have := c.1 c2; omega) z0 z1 z2
    · exact fin lo5 h5 i5 m5 (by have := c.1 c2; omega) z0 z1 z2
    · exact fin lo5 h5 i5 m5 (by have := (c.2 (by omega)).2.1 (by omega) (by omega); omega) z0 z1 z2
    · exact fin lo5 h5 i5 m5 (by have := (c.2 (by omega)).2.1 (by omega) (by omega); omega) z0 z1 z2
    · exact fin lo5 h5 i5 m5 (by have := (c.2 (by omega)).2.2 (by omega); omega) z0 z1 z2
    · exact fin lo5 h5 i5 m5 (by have := (c.2 (by omega)).2.2 (by omega); omega) z0 z1 z2
    · exact fin lo5 h5 i5 m5 (by have := (c.2 (by omega)).1 (by omega); omega) z0 z1 z2
    · exact fin lo5 h5 i5 m5 (by have := (c.2 (by omega)).1 (by omega); omega) z0 z1 z2
theorem wnG_n {N : zN} {S : zS} {o : Nat → Int} {n : Int} (h9 : S (7 + 2) = 0) (hS : S 1 ≤ 8) : ∀ (m g : Nat) (s : zSt), g + m = S 1 → SB n s → itG (wnG N S o) m g s = s
  | 0, _, _, _, _ => rfl
  | m + 1, g, s, hr, hB => by
    obtain ⟨b0, b1, -, b3, -⟩ := hB.1 g (by omega)
    have e : wnG N S o s g = s := by
      unfold wnG
      rw [lwV_n h9]
      refine stS_id ?_
      have := lsG_b (bdV none 0) (s 1 g)
      have z : bdV none 0 = 0 := rfl
      omega
    show itG (wnG N S o) m (g + 1) (wnG N S o s g) = s
    rw [e]
    exact wnG_n h9 hS m (g + 1) s (by omega) hB
theorem zWndC {l : Launch} {Γ : zG} {d t u : Nat} (ht : t < 2) (hu : u < 2) {N : zN} {S : zS} {o : Nat → Int} {s : zSt} {h0 h : zH} {n : Int} (hT : TB N S) (hO : OB o) (hB : SB n s) (I : CI t u N S o s h0 h) : zSem l Γ false (d + 3) (zhd 109) [.ref 61, .ref (12 * u + 43)] h (fun r h' => r = none ∧ CI t u N S o (itG (wnG N S o) (S 1) 0 s) h0 h') := by
  have b := hT.1.2.1
  have lw := I.2.2.1.1.2.2 2 (by decide)
  refine kcW0 (d := d + 2) (by omega) ht hu (fm := pI h (17 * t + 22) 2) I.1 (I.fb hT (by decide)) rfl I.2.2.1.2.1 (fun lo' h' i1 m1 e g0 g1 g2 => ?_) (fun h' i1 m1 e => ⟨rfl, ?_⟩)
  · exact zWndL ht hu hT hO (fun c => e (lw.mp c)) (S 1) 0 lo' h' s (by omega) hB (I.nil ht hu i1 m1) g0 g1 g2 (fun h' I' => ⟨rfl, I'⟩)
  · rw [wnG_n (lw.mpr e) b (S 1) 0 s (by omega) hB]
    exact I.nil ht hu i1 m1
/-! a minute, and so many of them -/
theorem kcM5_s : ((List.range 2).all fun u => (List.range 2).all fun t => ssubB (kcM5_m u) (MC t u)) = true := by decide
theorem kcM6_s : ((List.range 2).all fun u => (List.range 2).all fun t => ssubB (kcM6_m u) (MC t u)) = true := by decide
theorem zv_scm1 : zcvB 100 17 8 1 101 = true := by decide +kernel
theorem zv_scm2 : zcvB 100 22 8 1 102 = true := by decide +kernel
theorem zv_scm3 : zcvB 100 34 8 1 105 = true := by decide +kernel
theorem zv_scm4 : zcvB 100 39 8 1 107 = true := by decide +kernel
theorem zv_scm5 : zcvB 100 64 8 1 109 = true := by decide +kernel
theorem zPassL {l : Launch} {Γ : zG} {d t u : Nat} (ht : t < 2) (hu : u < 2) {Kp : Option Value → zH → Prop} {N : zN} {S : zS} {o : Nat → Int} {h0 : zH} (hT : TB N S) (hO : OB o) : ∀ (m k : Nat) (lo : zL) (h : zH) (s : zSt) (n : Int), k + m ≤ 200 → SB n s → n + 1989 * m ≤ 1999980000 → CI t u N S o s h0 h → zget lo 0 = some (.ref 61) → zget lo 1 = some (.ref (12 * u + 43)) → zI lo 2 ((k : Int) + m) → zI lo 3 (k : Int) →
    (∀ h', CI t u N S o (mnK N S o m s) h0 h' → Kp none h') → zX l Γ false (d + 5) (zhd 100) (zMQ' Γ false (zhd 100) Kp) 0 0 2 lo [] h
  | 0, k, lo, h, s, n, hk, hB, hn, I, l0, l1, l2, l3, hE => by
    obtain ⟨-, -, o2, -, -, -⟩ := I.2.2.1.2
    exact kcM1 (d := d + 4) (by omega) hu (n := (k : Int) + (0 : Nat)) (k := (k : Int)) (lf := o 1) I.1 ⟨by omega, by omega⟩ ⟨by omega, by omega⟩ (i32e o2) l0 l1 l2 l3 o2 (fun lo' h' i1 m1 e => by omega) (fun lo' h' i1 m1 e => by omega) (fun h' i1 m1 e => hE h' (I.nil ht hu i1 m1))
  | m + 1, k, lo, h, s, n, hk, hB, hn, I, l0, l1, l2, l3, hE => by
    have ob : ∀ {h' : zH} {s' : zSt}, CI t u N S o s' h0 h' → pI h' 61 2 = o 1 := fun I => I.2.2.1.2.2.2.1
    have nb : -2147483648 ≤ (k : Int) + ((m + 1 : Nat) : Int) ∧ (k : Int) + ((m + 1 : Nat) : Int) ≤ 2147483647 := ⟨by omega, by omega⟩
    have kb : 0 ≤ (k : Int) ∧ (k : Int) ≤ 200 := ⟨by omega, by omega⟩
    have B1 := mn1_b (o := o) hT hB
    have B2 := mn2_b (o := o) hT B1
    have B3 := mn3_b (N := N) (S := S) (o := o) B2
    have B4 := mn4_b hT hO B3
    have B5 := mn5_b (o := o) hT B4
    have B6 := mnt_b hT hO hB
    -- the minute counted
    have f6 : ∀ (lo' : zL) (h' : zH) (s5 : zSt) (h2 : zH) (md : sM), s5 = mn5 N S o (itG (rnG N S o) (S 1) 0 (mn3 N S o (itG (pyG N S o) (S 3) 0 (mn1 N S o s)))) → CI t u N S o s5 h0 h2 → sInv swC h' → sMd [(12 * u + 43, 0, 1)] h2 h' → ssubB [(12 * u + 43, 0, 1)] (MC t u) = true → pI h' (12 * u + 43) 0 = s5 6 0 + 1 → zget lo' 0 = some (.ref 61) → zget lo' 1 = some (.ref (12 * u + 43)) → zI lo' 2 ((k : Int) + ((m + 1 : Nat) : Int)) → zI lo' 3 ((k : Int) + 1) → zX l Γ false (d + 5) (zhd 100) (zMQ' Γ false (zhd 100) Kp) 0 0 2 lo' [] h' := fun lo' h' s5 h2 md es I5 i6 m6 hs e g0 g1 g2 g3 => by
      refine zPassL ht hu hT hO m (k + 1) lo' h' (mnt N S o s) (n + 1989) (by omega) B6 (by omega) ?_ g0 g1 (by rw [show ((k + 1 : Nat) : Int) + (m : Int) = (k : Int) + ((m + 1 : Nat) : Int) from by omega]; exact g2) (by rw [Int.natCast_add]; exact g3) hE
      show CI t u N S o (stS (mn5 N S o _) 6 0 (mn5 N S o _ 6 0 + 1)) h0 h'
      rw [← es]
      exact I5.to ht hu i6 (m6.sub hs) (CS.mk (I5.2.2.2.k0 m6 (fun j => smemc (by omega) smem0)) (I5.2.2.2.k1 m6 (fun j => smemc (by omega) smem0)) (I5.2.2.2.k3 m6 (fun j => smemc (by omega) smem0)) (I5.2.2.2.k4 m6 (fun j => smemc (by omega) smem0)) (I5.2.2.2.k5 m6 (fun j => smemc (by omega) smem0)) ⟨e, (pI_md m6 (smemc (by omega) smem0)).trans I5.2.2.2.2.2.1.2.1, (pL_md m6 (smemc (by omega) smem0)).trans I5.2.2.2.2.2.1.2.2⟩ (I5.2.2.2.k2 m6 (smemc (by omega) smem0)))
    -- from 42 on: wind
    have f4 : ∀ (lo' : zL) (h' : zH), CI t u N S o (itG (rnG N S o) (S 1) 0 (mn3 N S o (itG (pyG N S o) (S 3) 0 (mn1 N S o s)))) h0 h' → zget lo' 0 = some (.ref 61) → zget lo' 1 = some (.ref (12 * u + 43)) → zI lo' 2 ((k : Int) + ((m + 1 : Nat) : Int)) → zI lo' 3 (k : Int) → zX l Γ false (d + 5) (zhd 100) (zMQ' Γ false (zhd 100) Kp) 0 0 42 lo' [] h' := fun lo' h' I4 g0 g1 g2 g3 => by
      have c60 := I4.2.2.2.2.2.1.1
      have m60 := B4.2.2.1
      refine kcM5 (d := d + 4) (by omega) hu (n := (k : Int) + ((m + 1 : Nat) : Int)) (k := (k : Int)) (lf := o 1) (m := itG (rnG N S o) (S 1) 0 (mn3 N S o (itG (pyG N S o) (S 3) 0 (mn1 N S o s))) 6 0) I4.1 nb kb (i32e (ob I4)) ⟨by omega, by omega⟩ g0 g1 g2 g3 (ob I4) c60 (fun lo5 h5 i5 m5 e1 e2 z0 z1 z2 z3 => ?_) (fun lo5 h5 w0 i5 m5 e1 e2 e3 e4 z0 z1 z2 z3 => ?_) (fun lo5 h5 w0 i5 m5 e1 e2 e3 e4 z0 z1 z2 z3 => ?_)
      · exact f6 lo5 h5 _ h' [] (if_neg (fun c => c.1 e1)).symm I4 i5 m5 (zall_r (zall_r kcM5_s hu) ht) e2 z0 z1 z2 z3
      · rw [sgd8 ⟨by omega, by omega⟩ (by decide)] at e1
        have I5 : CI t u N S o (itG (rnG N S o) (S 1) 0 (mn3 N S o (itG (pyG N S o) (S 3) 0 (mn1 N S o s)))) h0 h5 := by
          refine I4.to ht hu i5 (m5.sub (zall_r (zall_r kcM5_s hu) ht)) (CS.mk (I4.2.2.2.k0 m5 (fun j => smemc (by omega) smem0)) (I4.2.2.2.k1 m5 (fun j => smemc (by omega) smem0)) (I4.2.2.2.k3 m5 (fun j => smemc (by omega) smem0)) (I4.2.2.2.k4 m5 (fun j => smemc (by omega) smem0)) (I4.2.2.2.k5 m5 (fun j => smemc (by omega) smem0)) ⟨e4, (pI_md m5 (smemc (by omega) smem0)).trans I4.2.2.2.2.2.1.2.1, (pL_md m5 (smemc (by omega) smem0)).trans I4.2.2.2.2.2.1.2.2⟩ (I4.2.2.2.k2 m5 (smemc (by omega) smem0)))
        refine zcallR (mi := 100) (as := [.ref (12 * u + 43)]) (rest := []) (q0 := 61) zv_scm5 rfl (by decide) (shK I5.1) ?_
        refine (zWndC (d := d + 1) ht hu hT hO B4 I5).mono (fun v h6 hv => ?_)
        obtain ⟨rfl, I6⟩ := hv
        have es : itG (wnG N S o) (S 1) 0 (itG (rnG N S o) (S 1) 0 (mn3 N S o (itG (pyG N S o) (S 3) 0 (mn1 N S o s)))) = mn5 N S o (itG (rnG N S o) (S 1) 0 (mn3 N S o (itG (pyG N S o) (S 3) 0 (mn1 N S o s)))) := by
          unfold mn5
          rw [if_pos ⟨e3, by rw [← e1]; exact e2⟩]
        rw [es] at I6
        have b6 := B5.2.2.1
        exact kcM6 (d := d + 4) (by omega) hu (n := (k : Int) + ((m + 1 : Nat) : Int)) (k := (k : Int)) (m := mn5 N S o (itG (rnG N S o) (S 1) 0 (mn3 N S o (itG (pyG N S o) (S 3) 0 (mn1 N S o s)))) 6 0) I6.1 nb kb ⟨by omega, by omega⟩ z0 z1 z2 z3 I6.2.2.2.2.2.1.1 (fun lo7 h7 i7 m7 e7 x0 x1 x2 x3 => f6 lo7 h7 _ h6 [] rfl I6 i7 m7 (zall_r (zall_r kcM6_s hu) ht) e7 x0 x1 x2 x3)
      · rw [sgd8 ⟨by omega, by omega⟩ (by decide)] at e1
        exact f6 lo5 h5 _ h' [] (if_neg (fun c => e3 (by rw [e1]; exact c.2))).symm I4 i5 m5 (zall_r (zall_r kcM5_s hu) ht) e4 z0 z1 z2 z3
    -- sand
    have f3 : ∀ (lo' : zL) (h' : zH), CI t u N S o (mn3 N S o (itG (pyG N S o) (S 3) 0 (mn1 N S o s))) h0 h' → zget lo' 0 = some (.ref 61) → zget lo' 1 = some (.ref (12 * u + 43)) → zI lo' 2 ((k : Int) + ((m + 1 : Nat) : Int)) → zI lo' 3 (k : Int) → zX l Γ false (d + 5) (zhd 100) (zMQ' Γ false (zhd 100) Kp) 0 0 39 lo' [.ref (12 * u + 43), .ref 61] h' := fun lo' h' I3 g0 g1 g2 g3 => by
      refine zcallR (mi := 100) (as := [.ref (12 * u + 43)]) (rest := []) (q0 := 61) zv_scm4 rfl (by decide) (shK I3.1) ?_
      refine (zRunC ht hu hT hO B3 (by omega) I3).mono (fun v h4 hv => ?_)
      obtain ⟨rfl, I4⟩ := hv
      exact f4 lo' h4 I4 g0 g1 g2 g3
    -- from 25 on: damp
    have f2 : ∀ (lo' : zL) (h' : zH), CI t u N S o (itG (pyG N S o) (S 3) 0 (mn1 N S o s)) h0 h' → zget lo' 0 = some (.ref 61) → zget lo' 1 = some (.ref (12 * u + 43)) → zI lo' 2 ((k : Int) + ((m + 1 : Nat) : Int)) → zI lo' 3 (k : Int) → zX l Γ false (d + 5) (zhd 100) (zMQ' Γ false (zhd 100) Kp) 0 0 25 lo' [] h' := fun lo' h' I2 g0 g1 g2 g3 => by
      refine kcM3 (d := d + 4) (by omega) hu (n := (k : Int) + ((m + 1 : Nat) : Int)) (k := (k : Int)) (lf := o 1) I2.1 nb kb (i32e (ob I2)) g0 g1 g2 g3 (ob I2) (fun lo3 h3 i3 m3 e z0 z1 z2 z3 => ?_) (fun lo3 h3 i3 m3 e z0 z1 z2 z3 => ?_)
      · refine f3 lo3 h3 ?_ z0 z1 z2 z3
        unfold mn3
        rw [if_pos e]
        exact I2.nil ht hu i3 m3
      · have I3 := I2.nil ht hu i3 m3
        refine zcallR (mi := 100) (as := [.ref (12 * u + 43)]) (rest := []) (q0 := 61) zv_scm3 rfl (by decide) (shK I3.1) ?_
        refine (zDmpC (d := d + 2) ht hu hT hO I3).mono (fun v h4 hv => ?_)
        obtain ⟨rfl, I4⟩ := hv
        refine kcM4 (d := d + 4) (by omega) hu (n := (k : Int) + ((m + 1 : Nat) : Int)) (k := (k : Int)) I4.1 nb kb z0 z1 z2 z3 (fun lo5 h5 i5 m5 x0 x1 x2 x3 => ?_)
        refine f3 lo5 h5 ?_ x0 x1 x2 x3
        unfold mn3
        rw [if_neg e]
        exact I4.nil ht hu i5 m5
    -- payments
    have f1 : ∀ (lo' : zL) (h' : zH), CI t u N S o (mn1 N S o s) h0 h' → zget lo' 0 = some (.ref 61) → zget lo' 1 = some (.ref (12 * u + 43)) → zI lo' 2 ((k : Int) + ((m + 1 : Nat) : Int)) → zI lo' 3 (k : Int) → zX l Γ false (d + 5) (zhd 100) (zMQ' Γ false (zhd 100) Kp) 0 0 22 lo' [.ref (12 * u + 43), .ref 61] h' := fun lo' h' I1 g0 g1 g2 g3 => by
      refine zcallR (mi := 100) (as := [.ref (12 * u + 43)]) (rest := []) (q0 := 61) zv_scm2 rfl (by decide) (shK I1.1) ?_
      refine (zPayC ht hu hT hO B1 (by omega) I1).mono (fun v h2 hv => ?_)
      obtain ⟨rfl, I2⟩ := hv
      exact f2 lo' h2 I2 g0 g1 g2 g3
    refine kcM1 (d := d + 4) (by omega) hu (n := (k : Int) + ((m + 1 : Nat) : Int)) (k := (k : Int)) (lf := o 1) I.1 nb kb (i32e (ob I)) l0 l1 l2 l3 (ob I) (fun lo' h' i1 m1 e0 e g0 g1 g2 g3 => ?_) (fun lo' h' i1 m1 e0 e g0 g1 g2 g3 => ?_) (fun h' i1 m1 e => by omega)
    · refine f1 lo' h' ?_ g0 g1 g2 g3
      unfold mn1
      rw [if_pos e]
      exact I.nil ht hu i1 m1
    · have I1 := I.nil ht hu i1 m1
      refine zcallR (mi := 100) (as := [.ref (12 * u + 43)]) (rest := []) (q0 := 61) zv_scm1 rfl (by decide) (shK I1.1) ?_
      refine (zTrnC (d := d + 2) ht hu hT I1).mono (fun v h2 hv => ?_)
      obtain ⟨rfl, I2⟩ := hv
      refine kcM2 (d := d + 4) (by omega) hu (n := (k : Int) + ((m + 1 : Nat) : Int)) (k := (k : Int)) I2.1 nb kb g0 g1 g2 g3 (fun lo3 h3 i3 m3 z0 z1 z2 z3 => ?_)
      refine f1 lo3 h3 ?_ z0 z1 z2 z3
      unfold mn1
      rw [if_neg e]
      exact I2.nil ht hu i3 m3
theorem zPassC {l : Launch} {Γ : zG} {d t u : Nat} (ht : t < 2) (hu : u < 2) {N : zN} {S : zS} {o : Nat → Int} {s : zSt} {h0 h : zH} {n : Int} (hT : TB N S) (hO : OB o) {m : Nat} (hm : m ≤ 200) (hB : SB n s) (hn : n + 1989 * m ≤ 1999980000) (I : CI t u N S o s h0 h) {x : Int32} (hx : x.toInt = (m : Int)) : zSem l Γ false (d + 5) (zhd 100) [.ref 61, .ref (12 * u + 43), .int x] h (fun r h' => r = none ∧ CI t u N S o (mnK N S o m s) h0 h') := by
  refine kcM0 (d := d + 4) (by omega) hu (n := (m : Int)) I.1 ⟨by omega, by omega⟩ hx (fun lo' h' i1 m1 g0 g1 g2 g3 => ?_)
  exact zPassL ht hu hT hO m 0 lo' h' s n (by omega) hB hn (I.nil ht hu i1 m1) g0 g1 (by rw [show ((0 : Nat) : Int) + (m : Int) = (m : Int) from by omega]; exact g2) g3 (fun h' I' => ⟨rfl, I'⟩)
