/-! tax -/
theorem zv_scx1 : zcvB 103 27 8 2 87 = true := by decide +kernel
theorem zv_scx2 : zcvB 103 38 6 1 89 = true := by decide +kernel
theorem CI.fb {t u : Nat} {N : zN} {S : zS} {o : Nat → Int} {s : zSt} {h0 h : zH} (hT : TB N S) (I : CI t u N S o s h0 h) {j : Nat} (hj : j < 3) : -1 ≤ pI h (17 * t + 22) j ∧ pI h (17 * t + 22) j ≤ 64 := by
  have lw := I.2.2.1.1.2.2 j hj
  by_cases e : S (7 + j) = 0
  · have := lw.mp e
    omega
  · have a := (I.2.2.1.1.2.1.2 j hj e).1
    have b := (hT.2.2.2.2.2 j hj e).1
    have a1 : pI h (17 * t + 22) j = (S (14 + j) : Int) := a
    omega
theorem zTaxC {l : Launch} {Γ : zG} {d t u : Nat} (ht : t < 2) (hu : u < 2) {N : zN} {S : zS} {o : Nat → Int} {s : zSt} {h0 h : zH} (hT : TB N S) (hO : OB o) (I : CI t u N S o s h0 h) {g : Nat} (hg : g < S 1) {x : Int32} (hx : x.toInt = (g : Int)) : zSem l Γ false (d + 3) (zhd 103) [.ref 61, .ref (12 * u + 43), .int x] h (fun r h' => ∃ y : Int32, r = some (.int y) ∧ y.toInt = txS N S o s g ∧ CI t u N S o s h0 h') := by
  have b1 := hT.1.2.1
  obtain ⟨o0, -, o2, -, -, -⟩ := I.2.2.1.2
  have lw := I.2.2.1.1.2.2 1 (by decide)
  refine kcX0 (d := d + 2) (by omega) ht hu (g := (g : Int)) (lf := o 1) (fm := pI h (17 * t + 22) 1) I.1 ⟨by omega, by omega⟩ (i32e o2) (I.fb hT (by decide)) hx o2 rfl o0 (fun lo' h' y0 i1 m1 e1 e2 g0 g1 g2 hy => ?_) (fun h' r i1 m1 e1 e2 => ⟨r, rfl, ?_, I.nil ht hu i1 m1⟩) (fun h' r i1 m1 e1 e2 e3 => ⟨r, rfl, ?_, I.nil ht hu i1 m1⟩)
  · have hS' : S (7 + 1) ≠ 0 := fun e => e2 (lw.mp e)
    have I1 := I.nil ht hu i1 m1
    refine zcallR (mi := 103) (as := [.int y0, .ref (12 * u + 43)]) (rest := []) (q0 := 61) zv_scx1 rfl (by decide) (shK I1.1) ?_
    refine (zLookC ht hu hT hO I1 hg hy).mono (fun v h2 hv => ?_)
    obtain ⟨rfl, I2, hnm⟩ := hv
    refine kcX1 (d := d + 2) (by omega) ht hu (g := (g : Int)) I2.1 ⟨by omega, by omega⟩ g0 g1 g2 I2.2.2.1.2.1 (fun lo3 h3 y3 i3 m3 z0 z1 z2 hy3 => ?_)
    have I3 := I2.nil ht hu i3 m3
    refine zcallR (mi := 103) (as := [.int y3]) (rest := []) (q0 := 17 * t + 20) zv_scx2 rfl (by decide) (shL ht i3) ?_
    refine (zValN ht hu hT I3 (j := 1) (by decide) hS' (nm := nmS N o s g) (fun i hi => (pI_md m3 rfl).trans (hnm i hi)) hy3).mono (fun v h4 hv => ?_)
    obtain ⟨y4, rfl, I4, hb⟩ := hv
    have c := hb.c 0
    have tx : txS N S o s g = bdV (lwV N S 1 (nmS N o s g)) 0 := if_neg e1
    refine kcX2 (d := d + 2) (by omega) hu (g := (g : Int)) (y := y4.toInt) I4.1 ⟨by omega, by omega⟩ (i64bd _) z0 z1 z2 rfl (fun h5 r5 i5 m5 e1 e2 => ?_) (fun h5 r5 i5 m5 e1 e2 e3 e4 => ?_) (fun h5 r5 i5 m5 e1 e2 e3 e4 => ?_) (fun h5 r5 i5 m5 e1 e2 e3 => ?_)
    · exact ⟨r5, rfl, by rw [e2, tx]; exact (c.1 e1).symm, I4.nil ht hu i5 m5⟩
    · exact ⟨r5, rfl, by rw [e4, tx]; exact ((c.2 (by omega)).2.1 (by omega) (by omega)).symm, I4.nil ht hu i5 m5⟩
    · exact ⟨r5, rfl, by rw [e4, tx]; exact ((c.2 (by omega)).2.2 (by omega)).symm, I4.nil ht hu i5 m5⟩
    · exact ⟨r5, rfl, by rw [e3, tx]; exact ((c.2 (by omega)).1 (by omega)).symm, I4.nil ht hu i5 m5⟩
  · rw [e2]
    exact (if_pos e1).symm
  · rw [e3]
    unfold txS
    rw [if_neg e2, lwV_n (lw.mpr e1)]
    rfl
/-! payments -/
theorem kcP6_s : ((List.range 10).all fun r => (List.range 2).all fun t => (List.range 2).all fun u => ssubB (kcP6_m r t u) (MC t u)) = true := by decide +kernel
theorem kcP7_s : ((List.range 8).all fun f => (List.range 2).all fun t => (List.range 2).all fun u => ssubB (kcP7_m f t u) (MC t u)) = true := by decide +kernel
theorem kcP3_s : ((List.range 8).all fun f => (List.range 2).all fun t => (List.range 2).all fun u => ssubB (kcP3_m f t u) (MC t u)) = true := by decide +kernel
theorem kcP4_s : ((List.range 8).all fun f => (List.range 2).all fun t => (List.range 2).all fun u => ssubB (kcP4_m f t u) (MC t u)) = true := by decide +kernel
theorem zv_scp : zcvB 102 170 8 2 103 = true := by decide +kernel
theorem zPayL {l : Launch} {Γ : zG} {d t u : Nat} (ht : t < 2) (hu : u < 2) {Kp : Option Value → zH → Prop} {N : zN} {S : zS} {o : Nat → Int} {h0 : zH} (hT : TB N S) (hO : OB o) : ∀ (m r : Nat) (lo : zL) (h : zH) (s : zSt) (n : Int), r + m = S 3 → SB n s → n + 198 * m ≤ 2000000000 → CI t u N S o s h0 h → zget lo 0 = some (.ref 61) → zget lo 1 = some (.ref (12 * u + 43)) → zget lo 2 = some (.ref (17 * t + 16)) → zI lo 3 (r : Int) →
    (∀ h', CI t u N S o (itG (pyG N S o) m r s) h0 h' → Kp none h') → zX l Γ false (d + 4) (zhd 102) (zMQ' Γ false (zhd 102) Kp) 0 0 10 lo [] h
  | 0, r, lo, h, s, n, hr, hB, hn, I, l0, l1, l2, l3, hE => by
    have b := hT.1.2.2.2.1
    exact kcP5 (d := d + 3) (by omega) ht hu (ri := (r : Int)) (n := (S 3 : Int)) I.1 ⟨by omega, by omega⟩ ⟨by omega, by omega⟩ l0 l1 l2 l3 I.2.2.1.1.1.2.1.2.2.2.1 (by omega) (fun h' i1 m1 => hE h' (I.nil ht hu i1 m1))
  | m + 1, r, lo, h, s, n, hr, hB, hn, I, l0, l1, l2, l3, hE => by
    have b := hT.1.2.2.2.1
    have b1 := hT.1.2.1
    obtain ⟨q0, q1, q2, q3⟩ := I.2.2.1.1.1.2.2.2.2.1 r (by omega)
    obtain ⟨p9, p10, p12⟩ := hT.2.2.2.1 r (by omega)
    have k0 := I.2.2.2.2.2.1.1
    obtain ⟨o0, -, o2, o3, -, -⟩ := I.2.2.1.2
    have hB' := pyG_b (o := o) hT hB (r := r) (by omega)
    -- on to the next
    have nx : ∀ (lo' : zL) (h' : zH), CI t u N S o (pyG N S o s r) h0 h' → zget lo' 0 = some (.ref 61) → zget lo' 1 = some (.ref (12 * u + 43)) → zget lo' 2 = some (.ref (17 * t + 16)) → zI lo' 3 ((r : Int) + 1) → zX l Γ false (d + 4) (zhd 102) (zMQ' Γ false (zhd 102) Kp) 0 0 10 lo' [] h' := fun lo' h' I1 g0 g1 g2 g3 =>
      zPayL ht hu hT hO m (r + 1) lo' h' (pyG N S o s r) (n + 198) (by omega) hB' (by omega) I1 g0 g1 g2 (by rw [Int.natCast_add]; exact g3) hE
    -- it pays
    have go : ∀ (lo' : zL) (h' : zH), N 11 r = s 6 0 → N 9 r ≠ o 2 → CI t u N S o s h0 h' → zget lo' 0 = some (.ref 61) → zget lo' 1 = some (.ref (12 * u + 43)) → zget lo' 2 = some (.ref (17 * t + 16)) → zI lo' 3 (r : Int) → zI lo' 4 (N 9 r) → zI lo' 5 (N 10 r) → zX l Γ false (d + 4) (zhd 102) (zMQ' Γ false (zhd 102) Kp) 0 0 112 lo' [] h' := fun lo' h' c1 c2 I1 g0 g1 g2 g3 g4 g5 => by
      obtain ⟨f, hf⟩ : ∃ f : Nat, N 9 r = (f : Int) := ⟨(N 9 r).toNat, by omega⟩
      obtain ⟨q, hq⟩ : ∃ q : Nat, N 10 r = (q : Int) := ⟨(N 10 r).toNat, by omega⟩
      have f8 : f < 8 := by omega
      have q8 : q < 8 := by omega
      have ef : (N 9 r).toNat = f := by omega
      have eq : (N 10 r).toNat = q := by omega
      obtain ⟨w0, w1, w2, w3, w4⟩ := hB.1 f f8
      obtain ⟨-, c3, -, c4⟩ := I1.2.2.2.1 f f8
      have mg := lsG_b (N 12 r) (s 1 f)
      have hB1 := py1_b hT hB (r := r) (f := f) (by omega) f8
      have pe : pyG N S o s r = py3 (py2 (py1 N s r f) f (lsG (N 12 r) (s 1 f)) (lsG (txS N S o (py1 N s r f) f) (lsG (N 12 r) (s 1 f)))) q (lsG (N 12 r) (s 1 f)) (lsG (txS N S o (py1 N s r f) f) (lsG (N 12 r) (s 1 f))) := by
        unfold pyG
        rw [if_pos ⟨c1, c2⟩, ef, eq]
      have qq := (I1.2.2.1.1.1.2.2.2.2.1 r (by omega)).2.2.2
      -- behind the tax
      have fin : ∀ (lo1 : zL) (h1 : zH) (y0 y3 : Int32), CI t u N S o (py1 N s r f) h0 h1 → zget lo1 0 = some (.ref 61) → zget lo1 1 = some (.ref (12 * u + 43)) → zget lo1 2 = some (.ref (17 * t + 16)) → zI lo1 3 (r : Int) → zI lo1 4 (f : Int) → zI lo1 5 (N 10 r) → zI lo1 7 (lsG (N 12 r) (s 1 f)) → y0.toInt = (f : Int) → y3.toInt = lsG (N 12 r) (s 1 f) → zX l Γ false (d + 4) (zhd 102) (zMQ' Γ false (zhd 102) Kp) 0 0 170 lo1 [.int y0, .ref (12 * u + 43), .ref 61, .int y3] h1 := fun lo1 h1 y0 y3 I2 g0 g1 g2 g3 g4 g5 g7 hy0 hy3 => by
        refine zcallR (mi := 102) (as := [.int y0, .ref (12 * u + 43)]) (rest := [.int y3]) (q0 := 61) zv_scp rfl (Nat.le_of_ble_eq_true rfl) (shK I2.1) ?_
        refine (zTaxC ht hu hT hO I2 (g := f) (by omega) hy0).mono (fun v h3 hv => ?_)
        obtain ⟨y, rfl, hy, I3⟩ := hv
        have tb := txS_b (N := N) (S := S) (o := o) (s := py1 N s r f) (g := f)
        have mx := lsG_b (txS N S o (py1 N s r f) f) (lsG (N 12 r) (s 1 f))
        have bl := (I3.2.2.2.1 f f8).2.1
        have tx := I3.2.2.2.2.2.1.2.1
        have B1 := hB1.2.2.2
        -- the last part
        have las : ∀ (lo4 : zL) (h4 : zH), CI t u N S o (py2 (py1 N s r f) f (lsG (N 12 r) (s 1 f)) (lsG (txS N S o (py1 N s r f) f) (lsG (N 12 r) (s 1 f)))) h0 h4 → zget lo4 0 = some (.ref 61) → zget lo4 1 = some (.ref (12 * u + 43)) → zget lo4 2 = some (.ref (17 * t + 16)) → zI lo4 3 (r : Int) → zI lo4 5 (N 10 r) → zI lo4 7 (lsG (N 12 r) (s 1 f)) → zI lo4 8 (lsG (txS N S o (py1 N s r f) f) (lsG (N 12 r) (s 1 f))) → zX l Γ false (d + 4) (zhd 102) (zMQ' Γ false (zhd 102) Kp) 0 0 201 lo4 [] h4 := fun lo4 h4 I4 g0 g1 g2 g3 g5 g7 g8 => by
          have ab := (I4.2.2.2.1 q q8).1
          have wq := (hB.1 q q8).1
          have a0 : py2 (py1 N s r f) f (lsG (N 12 r) (s 1 f)) (lsG (txS N S o (py1 N s r f) f) (lsG (N 12 r) (s 1 f))) 0 q = s 0 q := rfl
          have ml := lsG_b 999 (s 0 q + lsG (N 12 r) (s 1 f) - lsG (txS N S o (py1 N s r f) f) (lsG (N 12 r) (s 1 f)))
          have up : ∀ (h5 : zH), sInv swC h5 → sMd (kcP4_m q t u) h4 h5 → pI h5 (12 * u + 44) q = lsG 999 (s 0 q + lsG (N 12 r) (s 1 f) - lsG (txS N S o (py1 N s r f) f) (lsG (N 12 r) (s 1 f))) → CI t u N S o (pyG N S o s r) h0 h5 := fun h5 i5 m5 e => by
            rw [pe]
            refine I4.to ht hu i5 (m5.sub (zall_r (zall_r (zall_r kcP4_s q8) ht) hu)) (CS.mk (upS (fun g hg hn => (pI_md m5 (smemc (by omega) smem0)).trans (I4.2.2.2.1 g hg).1) e) (I4.2.2.2.k1 m5 (fun j => smemc (by omega) smem0)) (I4.2.2.2.k3 m5 (fun j => smemc (by omega) smem0)) (I4.2.2.2.k4 m5 (fun j => smemc (by omega) smem0)) (I4.2.2.2.k5 m5 (fun j => smemc (by omega) smem0)) (I4.2.2.2.k6 m5 (fun j hj => smemc (by omega) smem0)) (I4.2.2.2.k2 m5 (smemc (by omega) smem0)))
          refine kcP4 (d := d + 3) (by omega) q8 ht hu (ri := (r : Int)) (g := lsG (N 12 r) (s 1 f)) (x := lsG (txS N S o (py1 N s r f) f) (lsG (N 12 r) (s 1 f))) (ab := s 0 q) I4.1 ⟨by omega, by omega⟩ ⟨by omega, by omega⟩ ⟨by omega, by omega⟩ wq g0 g1 g2 g3 (hq ▸ g5) g7 g8 ab (by omega) (fun lo5 h5 i5 m5 e1 e2 z0 z1 z2 z3 => ?_) (fun lo5 h5 i5 m5 e1 e2 z0 z1 z2 z3 => ?_)
          · exact nx lo5 h5 (up h5 i5 m5 (e2.trans (by omega))) z0 z1 z2 z3
          · exact nx lo5 h5 (up h5 i5 m5 (e2.trans (by omega))) z0 z1 z2 z3
        have up : ∀ (h4 : zH), sInv swC h4 → sMd (kcP3_m f t u) h3 h4 → pI h4 (12 * u + 43) 2 = (py1 N s r f) 6 1 + lsG (txS N S o (py1 N s r f) f) (lsG (N 12 r) (s 1 f)) → pI h4 (12 * u + 45) f = (py1 N s r f) 1 f - lsG (N 12 r) (s 1 f) → CI t u N S o (py2 (py1 N s r f) f (lsG (N 12 r) (s 1 f)) (lsG (txS N S o (py1 N s r f) f) (lsG (N 12 r) (s 1 f)))) h0 h4 := fun h4 i4 m4 e1 e2 =>
          I3.to ht hu i4 (m4.sub (zall_r (zall_r (zall_r kcP3_s f8) ht) hu)) (CS.mk (I3.2.2.2.k0 m4 (fun j => smemc (by omega) (smemc (by omega) smem0))) (upS (fun g hg hn => (pI_md m4 (smemc (by omega) (smemc (by omega) smem0))).trans (I3.2.2.2.1 g hg).2.1) e2) (I3.2.2.2.k3 m4 (fun j => smemc (by omega) (smemc (by omega) smem0))) (I3.2.2.2.k4 m4 (fun j => smemc (by omega) (smemc (by omega) smem0))) (I3.2.2.2.k5 m4 (fun j => smemc (by omega) (smemc (by omega) smem0))) ⟨(pI_md m4 (smemc (by omega) (smemc (by omega) smem0))).trans I3.2.2.2.2.2.1.1, e1, (pL_md m4 (smemc (by omega) (smemc (by omega) smem0))).trans I3.2.2.2.2.2.1.2.2⟩ (I3.2.2.2.k2 m4 (smemc (by omega) (smemc (by omega) smem0))))
        refine kcP3 (d := d + 3) (by omega) f8 ht hu (ri := (r : Int)) (o := N 10 r) (g := lsG (N 12 r) (s 1 f)) (x := txS N S o (py1 N s r f) f) (g2 := lsG (N 12 r) (s 1 f)) (bl := s 1 f) (tx := s 6 1) I3.1 ⟨by omega, by omega⟩ ⟨by omega, by omega⟩ ⟨by omega, by omega⟩ tb ⟨by omega, by omega⟩ w1 ⟨by have := hB.2.2.2; omega, by have := hB.2.2.2; omega⟩ g0 g1 g2 g3 g4 g5 g7 hy hy3 bl tx (fun lo4 h4 i4 m4 e1 e2 e3 z0 z1 z2 z3 z5 z7 z8 => ?_) (fun lo4 h4 i4 m4 e1 e2 e3 z0 z1 z2 z3 z5 z7 z8 => ?_)
        · have ex : lsG (txS N S o (py1 N s r f) f) (lsG (N 12 r) (s 1 f)) = txS N S o (py1 N s r f) f := by omega
          exact las lo4 h4 (up h4 i4 m4 (e2.trans (by rw [ex]; show _ + s 6 1 = s 6 1 + _; omega)) (e3.trans (by show - _ + s 1 f = s 1 f - _; omega))) z0 z1 z2 z3 z5 z7 (by rw [ex]; exact z8)
        · have ex : lsG (txS N S o (py1 N s r f) f) (lsG (N 12 r) (s 1 f)) = lsG (N 12 r) (s 1 f) := by omega
          exact las lo4 h4 (up h4 i4 m4 (e2.trans (by rw [ex]; show _ + s 6 1 = s 6 1 + _; omega)) (e3.trans (by show - _ + s 1 f = s 1 f - _; omega))) z0 z1 z2 z3 z5 z7 (by rw [ex]; exact z8)
      -- paid
      have st3 : ∀ (lo1 : zL) (h1 : zH), CI t u N S o (stS s 5 r (if s 1 f < N 12 r then 2 else 1)) h0 h1 → zget lo1 0 = some (.ref 61) → zget lo1 1 = some (.ref (12 * u + 43)) → zget lo1 2 = some (.ref (17 * t + 16)) → zI lo1 3 (r : Int) → zI lo1 4 (f : Int) → zI lo1 5 (N 10 r) → zI lo1 7 (lsG (N 12 r) (s 1 f)) → zX l Γ false (d + 4) (zhd 102) (zMQ' Γ false (zhd 102) Kp) 0 0 152 lo1 [] h1 := fun lo1 h1 I2 z0 z1 z2 z3 z4 z5 z7 => by
        refine kcP7 (d := d + 3) (by omega) f8 ht hu (ri := (r : Int)) (o := N 10 r) (g := lsG (N 12 r) (s 1 f)) (pd := s 4 f) I2.1 ⟨by omega, by omega⟩ ⟨by omega, by omega⟩ ⟨by omega, by omega⟩ ⟨by omega, by omega⟩ z0 z1 z2 z3 z4 z5 z7 (I2.2.2.2.1 f f8).2.2.2 (fun lo2 h2 y0 y3 i2 m2 e1 x0 x1 x2 x3 x4 x5 x7 hy0 hy3 => ?_)
        exact fin lo2 h2 y0 y3 (I2.to ht hu i2 (m2.sub (zall_r (zall_r (zall_r kcP7_s f8) ht) hu)) (CS.mk (I2.2.2.2.k0 m2 (fun j => smemc (by omega) smem0)) (I2.2.2.2.k1 m2 (fun j => smemc (by omega) smem0)) (I2.2.2.2.k3 m2 (fun j => smemc (by omega) smem0)) (upS (s := stS s 5 r (if s 1 f < N 12 r then 2 else 1)) (fun g hg hn => (pI_md m2 (smemc (by omega) smem0)).trans (I2.2.2.2.1 g hg).2.2.2) (e1.trans (Int.add_comm _ _))) (I2.2.2.2.k5 m2 (fun j => smemc (by omega) smem0)) (I2.2.2.2.k6 m2 (fun j hj => smemc (by omega) smem0)) (I2.2.2.2.k2 m2 (smemc (by omega) smem0)))) x0 x1 x2 x3 x4 x5 x7 hy0 hy3
      have up5 : ∀ (h1 h2 : zH), CI t u N S o s h0 h1 → sInv swC h2 → sMd (kcP6_m r t u) h1 h2 → pI h2 (12 * u + 48) r = (if s 1 f < N 12 r then 2 else 1) → CI t u N S o (stS s 5 r (if s 1 f < N 12 r then 2 else 1)) h0 h2 := fun h1 h2 I2 i2 m2 e =>
        I2.to ht hu i2 (m2.sub (zall_r (zall_r (zall_r kcP6_s (by omega)) ht) hu)) (CS.mk (I2.2.2.2.k0 m2 (fun j => smemc (by omega) smem0)) (I2.2.2.2.k1 m2 (fun j => smemc (by omega) smem0)) (I2.2.2.2.k3 m2 (fun j => smemc (by omega) smem0)) (I2.2.2.2.k4 m2 (fun j => smemc (by omega) smem0)) (upS (s := s) (fun g hg hn => (pI_md m2 (smemc (by omega) smem0)).trans (I2.2.2.2.2.1 g hg)) e) (I2.2.2.2.k6 m2 (fun j hj => smemc (by omega) smem0)) (I2.2.2.2.k2 m2 (smemc (by omega) smem0)))
      have st2 : ∀ (lo1 : zL) (h1 : zH), CI t u N S o s h0 h1 → zget lo1 0 = some (.ref 61) → zget lo1 1 = some (.ref (12 * u + 43)) → zget lo1 2 = some (.ref (17 * t + 16)) → zI lo1 3 (r : Int) → zI lo1 4 (f : Int) → zI lo1 5 (N 10 r) → zI lo1 7 (lsG (N 12 r) (s 1 f)) → zX l Γ false (d + 4) (zhd 102) (zMQ' Γ false (zhd 102) Kp) 0 0 130 lo1 [] h1 := fun lo1 h1 I2 z0 z1 z2 z3 z4 z5 z7 => by
        refine kcP6 (d := d + 3) (by omega) (r := r) (by omega) ht hu (f := (f : Int)) (o := N 10 r) (g := lsG (N 12 r) (s 1 f)) (n := (S 3 : Int)) (a := N 12 r) I2.1 ⟨by omega, by omega⟩ ⟨by omega, by omega⟩ ⟨by omega, by omega⟩ ⟨by omega, by omega⟩ p12 z0 z1 z2 z3 z4 z5 z7 I2.2.2.1.1.1.2.1.2.2.2.1 ((I2.2.2.1.1.1.2.2.2.2.1 r (by omega)).2.2.2) (fun lo2 h2 i2 m2 e1 e2 x0 x1 x2 x3 x4 x5 x7 => ?_) (fun lo2 h2 i2 m2 e1 e2 x0 x1 x2 x3 x4 x5 x7 => ?_)
        · exact st3 lo2 h2 (up5 h1 h2 I2 i2 m2 (e2.trans (by rw [if_neg (by omega)]))) x0 x1 x2 x3 x4 x5 x7
        · exact st3 lo2 h2 (up5 h1 h2 I2 i2 m2 (e2.trans (by rw [if_pos (by omega)]))) x0 x1 x2 x3 x4 x5 x7
      refine kcP2 (d := d + 3) (by omega) (r := r) (by omega) ht hu (f := (f : Int)) (o := N 10 r) (n := (S 3 : Int)) (a := N 12 r) (bl := s 1 f) I1.1 ⟨by omega, by omega⟩ ⟨by omega, by omega⟩ ⟨by omega, by omega⟩ p12 w1 g0 g1 g2 g3 (hf ▸ g4) g5 I1.2.2.1.1.1.2.1.2.2.2.1 qq (by rw [show ((f : Int) + 0).toNat = f from by omega]; exact c3) (fun lo1 h1 i1 m1 e1 z0 z1 z2 z3 z4 z5 z7 => ?_) (fun lo1 h1 i1 m1 e1 z0 z1 z2 z3 z4 z5 z7 => ?_)
      · have ex : lsG (N 12 r) (s 1 f) = s 1 f := by omega
        exact st2 lo1 h1 (I1.nil ht hu i1 m1) z0 z1 z2 z3 z4 z5 (by rw [ex]; exact z7)
      · have ex : lsG (N 12 r) (s 1 f) = N 12 r := by omega
        exact st2 lo1 h1 (I1.nil ht hu i1 m1) z0 z1 z2 z3 z4 z5 (by rw [ex]; exact z7)
    have skip : ¬ (N 11 r = s 6 0 ∧ N 9 r ≠ o 2) → pyG N S o s r = s := fun e => if_neg e
    refine kcP1 (d := d + 3) (by omega) (r := r) (by omega) ht hu (n := (S 3 : Int)) (f := N 9 r) (o := N 10 r) (mn := N 11 r) (m := s 6 0) (lf := o 1) (up := pI h 61 3) I.1 ⟨by omega, by omega⟩ ⟨by omega, by omega⟩ ⟨by omega, by omega⟩ (i32e q2) (i32e k0) (i32e o2) (i32e rfl) l0 l1 l2 l3 I.2.2.1.1.1.2.1.2.2.2.1 q0 q1 q2 k0 o2 rfl o0 (fun lo' h' i1 m1 e1 e2 e3 g0 g1 g2 g3 => ?_) (fun lo' h' i1 m1 e1 e2 e3 g0 g1 g2 g3 g4 g5 => ?_) (fun lo' h' i1 m1 e1 e2 g0 g1 g2 g3 g4 g5 => ?_) (fun lo' h' i1 m1 e1 g0 g1 g2 g3 => ?_)
    · refine nx lo' h' ?_ g0 g1 g2 g3
      rw [skip (fun c => c.2 (by rw [e3]; exact o3 e2))]
      exact I.nil ht hu i1 m1
    · exact go lo' h' e1 (fun c => e3 (by rw [c]; exact (o3 e2).symm)) (I.nil ht hu i1 m1) g0 g1 g2 g3 g4 g5
    · exact go lo' h' e1 (by rw [hO.2.1 e2]; omega) (I.nil ht hu i1 m1) g0 g1 g2 g3 g4 g5
    · refine nx lo' h' ?_ g0 g1 g2 g3
      rw [skip (fun c => e1 c.1)]
      exact I.nil ht hu i1 m1
theorem zPayC {l : Launch} {Γ : zG} {d t u : Nat} (ht : t < 2) (hu : u < 2) {N : zN} {S : zS} {o : Nat → Int} {s : zSt} {h0 h : zH} {n : Int} (hT : TB N S) (hO : OB o) (hB : SB n s) (hn : n ≤ 1999990000) (I : CI t u N S o s h0 h) : zSem l Γ false (d + 4) (zhd 102) [.ref 61, .ref (12 * u + 43)] h (fun r h' => r = none ∧ CI t u N S o (itG (pyG N S o) (S 3) 0 s) h0 h') := by
  have b := hT.1.2.2.2.1
  refine kcP0 (d := d + 3) (by omega) ht hu I.1 I.2.2.1.2.1 (fun lo' h' i1 m1 g0 g1 g2 g3 => ?_)
  exact zPayL ht hu hT hO (S 3) 0 lo' h' s n (by omega) hB (by omega) (I.nil ht hu i1 m1) g0 g1 g2 g3 (fun h' I' => ⟨rfl, I'⟩)
