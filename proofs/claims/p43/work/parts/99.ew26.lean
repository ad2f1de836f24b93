/-! payments -/
theorem kmY_s : ((List.range 2).all fun b => (List.range 8).all fun f => (List.range 10).all fun p => ssubB (kmY1_m b f p) (MM b) && (ssubB (kmY4_m b f) (MM b) && (ssubB (kmY5_m b f) (MM b) && ssubB (kmY6_m b p) (MM b)))) = true := by decide +kernel
theorem zv_kmy1 : zcvB 254 71 12 2 238 = true := by decide +kernel
theorem zv_kmy2 : zcvB 254 77 12 2 256 = true := by decide +kernel
theorem zPayM {l : Launch} {Γ : zG} {d b : Nat} (hb : b < 2) {N : zN} {S : zS} {o : Nat → Int} {s : zSt} {h0 h : zH} {n : Int} (hT : TB N S) (hO : OB o) (hB : SB n s) (hn : n + 198 ≤ 2000000000) (I : DI b N S o s h0 h) {r : Nat} (hr : r < S 3) (c1 : N 11 r = s 6 0) (c2 : N 9 r ≠ o 2) {x y : Int32} (hx : x.toInt = (b : Int)) (hy : y.toInt = (r : Int)) : zSem l Γ false (d + 6) (zhd 254) [.ref 0, .int x, .int y] h (fun v h' => v = none ∧ DI b N S o (pyG N S o s r) h0 h') := by
  have b3 := hT.1.2.2.2.1
  have b1 := hT.1.2.1
  obtain ⟨q0, q1, q2, q3⟩ := I.2.2.1.1.2.2.2.2.2.1 r hr
  obtain ⟨p9, p10, p12⟩ := hT.2.2.2.1 r hr
  obtain ⟨f, hf⟩ : ∃ f : Nat, N 9 r = (f : Int) := ⟨(N 9 r).toNat, by omega⟩
  obtain ⟨q, hq⟩ : ∃ q : Nat, N 10 r = (q : Int) := ⟨(N 10 r).toNat, by omega⟩
  have f8 : f < 8 := by omega
  have q8 : q < 8 := by omega
  have r10 : r < 10 := by omega
  have ef : (N 9 r).toNat = f := by omega
  have eq : (N 10 r).toNat = q := by omega
  have ss := zall_r (zall_r (zall_r kmY_s hb) f8) r10
  have sq := zall_r (zall_r (zall_r kmY_s hb) q8) r10
  simp only [Bool.and_eq_true] at ss sq
  obtain ⟨w0, w1, w2, w3, w4⟩ := hB.1 f f8
  have wq := (hB.1 q q8).1
  have mg := lsG_b (N 12 r) (s 1 f)
  have hB1 := py1_b hT hB (r := r) (f := f) hr f8
  have tb := txS_b (N := N) (S := S) (o := o) (s := py1 N s r f) (g := f)
  have mx := lsG_b (txS N S o (py1 N s r f) f) (lsG (N 12 r) (s 1 f))
  have pe : pyG N S o s r = py3 (py2 (py1 N s r f) f (lsG (N 12 r) (s 1 f)) (lsG (txS N S o (py1 N s r f) f) (lsG (N 12 r) (s 1 f)))) q (lsG (N 12 r) (s 1 f)) (lsG (txS N S o (py1 N s r f) f) (lsG (N 12 r) (s 1 f))) := by
    unfold pyG
    rw [if_pos ⟨c1, c2⟩, ef, eq]
  have o3 := I.2.2.1.2.2.2.2.2.1
  -- the end
  have f5 : ∀ (lo5 : zL) (h5 : zH) (s5 : zSt), DI b N S o s5 h0 h5 → stS s5 5 r (if s 1 f < N 12 r then 2 else 1) = pyG N S o s r → zget lo5 0 = some (.ref 0) → zI lo5 1 (b : Int) → zI lo5 2 (r : Int) → zI lo5 5 (lsG (N 12 r) (s 1 f)) → zX l Γ false (d + 6) (zhd 254) (zMQ' Γ false (zhd 254) (fun v h' => v = none ∧ DI b N S o (pyG N S o s r) h0 h')) 0 0 135 lo5 [] h5 := fun lo5 h5 s5 I5 es g0 g1 g2 g5 => by
    have up : ∀ (h6 : zH), sInv swM h6 → sMd (kmY6_m b r) h5 h6 → pI h6 34 (10 * b + r) = (if s 1 f < N 12 r then 2 else 1) → (none : Option Value) = none ∧ DI b N S o (pyG N S o s r) h0 h6 := fun h6 i6 m6 e => ⟨rfl, by
      rw [← es]
      exact I5.to hb i6 (m6.sub ss.2.2.2) (MS.mk (I5.2.2.2.k0 m6 (fun j => smemc (by omega) smem0)) (I5.2.2.2.k1 m6 (fun j => smemc (by omega) smem0)) (I5.2.2.2.k2 m6 (fun j => smemc (by omega) smem0)) (I5.2.2.2.k3 m6 (fun j => smemc (by omega) smem0)) (I5.2.2.2.k4 m6 (fun j => smemc (by omega) smem0)) (upS (f := fun j => pI h6 34 (10 * b + j)) (s := s5) (fun j hj hn => (pI_md m6 (smemc (by omega) smem0)).trans (I5.2.2.2.2.1 j hj)) e) (I5.2.2.2.k6 m6 (smemc (by omega) smem0) (smemc (by omega) smem0) (smemc (by omega) smem0)))⟩
    refine kmY6 (d := d + 5) (by omega) hb (p := r) r10 (g := lsG (N 12 r) (s 1 f)) (a := N 12 r) I5.1 ⟨by omega, by omega⟩ p12 g0 g1 g2 g5 (I5.2.2.1.1.2.2.2.2.2.1 r hr).2.2.2 (fun h6 i6 m6 e1 e2 => ?_) (fun h6 i6 m6 e1 e2 => ?_)
    · exact up h6 i6 m6 (by rw [if_neg (by omega)]; exact e2)
    · exact up h6 i6 m6 (by rw [if_pos (by omega)]; exact e2)
  -- above the other
  have f4 : ∀ (lo4 : zL) (h4 : zH) (s4 : zSt), DI b N S o s4 h0 h4 → s4 0 q = s 0 q → stS (stS s4 0 q (lsG 999 (s 0 q + lsG (N 12 r) (s 1 f) - lsG (txS N S o (py1 N s r f) f) (lsG (N 12 r) (s 1 f))))) 5 r (if s 1 f < N 12 r then 2 else 1) = pyG N S o s r → zget lo4 0 = some (.ref 0) → zI lo4 1 (b : Int) → zI lo4 2 (r : Int) → zI lo4 4 (8 * (b : Int) + (q : Int)) → zI lo4 5 (lsG (N 12 r) (s 1 f)) → zI lo4 6 (lsG (txS N S o (py1 N s r f) f) (lsG (N 12 r) (s 1 f))) → zX l Γ false (d + 6) (zhd 254) (zMQ' Γ false (zhd 254) (fun v h' => v = none ∧ DI b N S o (pyG N S o s r) h0 h')) 0 0 109 lo4 [] h4 := fun lo4 h4 s4 I4 e0 es g0 g1 g2 g4 g5 g6 => by
    have ab := (I4.2.2.2.1 q (by omega)).1
    rw [e0] at ab
    have ml := lsG_b 999 (s 0 q + lsG (N 12 r) (s 1 f) - lsG (txS N S o (py1 N s r f) f) (lsG (N 12 r) (s 1 f)))
    have up : ∀ (h5 : zH), sInv swM h5 → sMd (kmY5_m b q) h4 h5 → pI h5 29 (8 * b + q) = lsG 999 (s 0 q + lsG (N 12 r) (s 1 f) - lsG (txS N S o (py1 N s r f) f) (lsG (N 12 r) (s 1 f))) → DI b N S o (stS s4 0 q (lsG 999 (s 0 q + lsG (N 12 r) (s 1 f) - lsG (txS N S o (py1 N s r f) f) (lsG (N 12 r) (s 1 f))))) h0 h5 := fun h5 i5 m5 e =>
      I4.to hb i5 (m5.sub sq.2.2.1) (MS.mk (upS (f := fun j => pI h5 29 (8 * b + j)) (s := s4) (fun j hj hn => (pI_md m5 (smemc (by omega) smem0)).trans (I4.2.2.2.1 j hj).1) e) (I4.2.2.2.k1 m5 (fun j => smemc (by omega) smem0)) (I4.2.2.2.k2 m5 (fun j => smemc (by omega) smem0)) (I4.2.2.2.k3 m5 (fun j => smemc (by omega) smem0)) (I4.2.2.2.k4 m5 (fun j => smemc (by omega) smem0)) (I4.2.2.2.k5 m5 (fun j => smemc (by omega) smem0)) (I4.2.2.2.k6 m5 (smemc (by omega) smem0) (smemc (by omega) smem0) (smemc (by omega) smem0)))
    refine kmY5 (d := d + 5) (by omega) hb q8 (p := (r : Int)) (g := lsG (N 12 r) (s 1 f)) (x := lsG (txS N S o (py1 N s r f) f) (lsG (N 12 r) (s 1 f))) (ab := s 0 q) I4.1 ⟨by omega, by omega⟩ ⟨by omega, by omega⟩ ⟨by omega, by omega⟩ wq g0 g1 g2 g4 g5 g6 ab (by omega) (fun lo5 h5 i5 m5 e1 e2 z0 z1 z2 z5 => ?_) (fun lo5 h5 i5 m5 e1 e2 z0 z1 z2 z5 => ?_)
    · exact f5 lo5 h5 _ (up h5 i5 m5 (e2.trans (by omega))) es z0 z1 z2 z5
    · exact f5 lo5 h5 _ (up h5 i5 m5 (e2.trans (by omega))) es z0 z1 z2 z5
  -- below, taxed
  have f3 : ∀ (lo3 : zL) (h3 : zH), DI b N S o (stS s 4 f (s 4 f + lsG (N 12 r) (s 1 f))) h0 h3 → zget lo3 0 = some (.ref 0) → zI lo3 1 (b : Int) → zI lo3 2 (r : Int) → zI lo3 3 (8 * (b : Int) + (f : Int)) → zI lo3 4 (8 * (b : Int) + (q : Int)) → zI lo3 5 (lsG (N 12 r) (s 1 f)) → zI lo3 6 (lsG (txS N S o (py1 N s r f) f) (lsG (N 12 r) (s 1 f))) → zX l Γ false (d + 6) (zhd 254) (zMQ' Γ false (zhd 254) (fun v h' => v = none ∧ DI b N S o (pyG N S o s r) h0 h')) 0 0 87 lo3 [] h3 := fun lo3 h3 I3 g0 g1 g2 g3 g4 g5 g6 => by
    have bl : pI h3 30 (8 * b + f) = s 1 f := (I3.2.2.2.1 f (by omega)).2.1
    have tx : pI h3 35 b = s 6 1 := I3.2.2.2.2.2.2.1
    refine kmY4 (d := d + 5) (by omega) hb f8 (p := (r : Int)) (o := 8 * (b : Int) + (q : Int)) (g := lsG (N 12 r) (s 1 f)) (x := lsG (txS N S o (py1 N s r f) f) (lsG (N 12 r) (s 1 f))) (bl := s 1 f) (tx := s 6 1) I3.1 ⟨by omega, by omega⟩ ⟨by omega, by omega⟩ ⟨by omega, by omega⟩ ⟨by omega, by omega⟩ w1 ⟨by have := hB.2.2.2; omega, by have := hB.2.2.2; omega⟩ g0 g1 g2 g3 g4 g5 g6 bl tx (by omega) (fun lo4 h4 i4 m4 e1 e2 z0 z1 z2 z3 z4 z5 z6 => ?_)
    refine f4 lo4 h4 (stS (stS (stS s 4 f (s 4 f + lsG (N 12 r) (s 1 f))) 1 f (s 1 f - lsG (N 12 r) (s 1 f))) 6 1 (s 6 1 + lsG (txS N S o (py1 N s r f) f) (lsG (N 12 r) (s 1 f)))) (I3.to hb i4 (m4.sub ss.2.1) (MS.mk (I3.2.2.2.k0 m4 (fun j => smemc (by omega) (smemc (by omega) smem0))) (upS (f := fun j => pI h4 30 (8 * b + j)) (s := stS s 4 f (s 4 f + lsG (N 12 r) (s 1 f))) (fun j hj hn => (pI_md m4 (smemc (by omega) (smemc (by omega) smem0))).trans (I3.2.2.2.1 j hj).2.1) (e2.trans (by omega))) (I3.2.2.2.k2 m4 (fun j => smemc (by omega) (smemc (by omega) smem0))) (I3.2.2.2.k3 m4 (fun j => smemc (by omega) (smemc (by omega) smem0))) (I3.2.2.2.k4 m4 (fun j => smemc (by omega) (smemc (by omega) smem0))) (I3.2.2.2.k5 m4 (fun j => smemc (by omega) (smemc (by omega) smem0))) ⟨(pI_md m4 (smemc (by omega) (smemc (by omega) smem0))).trans I3.2.2.2.2.2.1, e1.trans (by rw [stS_s]; omega), (pL_md m4 (smemc (by omega) (smemc (by omega) smem0))).trans I3.2.2.2.2.2.2.2⟩)) rfl ?_ z0 z1 z2 z4 z5 z6
    rw [pe]
    unfold py3 py2 py1
    funext a b'
    by_cases e : a = 5 ∧ b' = r
    · obtain ⟨rfl, rfl⟩ := e
      rw [stS_s, stS_n (by omega), stS_n (by omega), stS_n (by omega), stS_n (by omega), stS_s]
    · rw [stS_n e]
      show (if a = 0 ∧ b' = q then _ else if a = 6 ∧ b' = 1 then _ else if a = 1 ∧ b' = f then _ else if a = 4 ∧ b' = f then _ else s a b') = (if a = 0 ∧ b' = q then _ else if a = 6 ∧ b' = 1 then _ else if a = 1 ∧ b' = f then _ else if a = 4 ∧ b' = f then _ else if a = 5 ∧ b' = r then _ else s a b')
      rw [if_neg e]
      rfl
  -- the tax is asked, or not
  refine kmY0 (d := d + 5) (by omega) hb (p := r) r10 (f := (f : Int)) (o := (q : Int)) I.1 ⟨by omega, by omega⟩ ⟨by omega, by omega⟩ hx hy (q0.trans hf) (q1.trans hq) (fun lo1 h1 i1 m1 g0 g1 g2 g3 g4 => ?_)
  have I1 := I.nil hb i1 m1
  have o3 := I1.2.2.1.2.2.2.2.2.1
  have ob : 0 ≤ (if o 1 = 3 then (1 : Int) else 0) ∧ (if o 1 = 3 then (1 : Int) else 0) ≤ 1 := by split <;> omega
  obtain ⟨-, c3, -, -, c4⟩ := I1.2.2.2.1 f (by omega)
  obtain ⟨u0, -, -, u3⟩ := I1.2.2.1.1.2.2.2.2.2.1 r hr
  -- the names see what is PAID this time
  have nm : nmS N o (py1 N s r f) f = nmS N o (stS s 4 f (s 4 f + lsG (N 12 r) (s 1 f))) f := by
    funext k
    show (if k = 0 then s 0 f else if k = 1 then s 1 f else if k = 2 then nkS N o f else if k = 3 then N 6 f else if k = 4 then s 2 f else if k = 5 then (stS (stS s 5 r _) 4 f _) 4 f else s 6 0) = (if k = 0 then s 0 f else if k = 1 then s 1 f else if k = 2 then nkS N o f else if k = 3 then N 6 f else if k = 4 then s 2 f else if k = 5 then (stS s 4 f _) 4 f else s 6 0)
    rw [stS_s, stS_s]
  have B4 : SB (n + 99) (stS s 4 f (s 4 f + lsG (N 12 r) (s 1 f))) := (hB.le (by omega)).s4 (by omega)
  have up : ∀ (h2 : zH), sInv swM h2 → sMd (kmY1_m b f r) h1 h2 → pI h2 33 (8 * b + f) = s 4 f + lsG (N 12 r) (s 1 f) → DI b N S o (stS s 4 f (s 4 f + lsG (N 12 r) (s 1 f))) h0 h2 := fun h2 i2 m2 e =>
    I1.to hb i2 (m2.sub ss.1) (MS.mk (I1.2.2.2.k0 m2 (fun j => smemc (by omega) smem0)) (I1.2.2.2.k1 m2 (fun j => smemc (by omega) smem0)) (I1.2.2.2.k2 m2 (fun j => smemc (by omega) smem0)) (I1.2.2.2.k3 m2 (fun j => smemc (by omega) smem0)) (upS (f := fun j => pI h2 33 (8 * b + j)) (s := s) (fun j hj hn => (pI_md m2 (smemc (by omega) smem0)).trans (I1.2.2.2.1 j hj).2.2.2.2) e) (I1.2.2.2.k5 m2 (fun j => smemc (by omega) smem0)) (I1.2.2.2.k6 m2 (smemc (by omega) smem0) (smemc (by omega) smem0) (smemc (by omega) smem0)))
  have ask : ∀ (lo2 : zL) (h2 : zH) (y0 y1 : Int32), DI b N S o (stS s 4 f (s 4 f + lsG (N 12 r) (s 1 f))) h0 h2 → o 1 ≠ 3 → zget lo2 0 = some (.ref 0) → zI lo2 1 (b : Int) → zI lo2 2 (r : Int) → zI lo2 3 (8 * (b : Int) + (f : Int)) → zI lo2 4 (8 * (b : Int) + (q : Int)) → zI lo2 5 (lsG (N 12 r) (s 1 f)) → y0.toInt = (f : Int) → y1.toInt = (b : Int) → zX l Γ false (d + 6) (zhd 254) (zMQ' Γ false (zhd 254) (fun v h' => v = none ∧ DI b N S o (pyG N S o s r) h0 h')) 0 0 71 lo2 [.int y0, .int y1, .ref 0] h2 := fun lo2 h2 y0 y1 I2 ho z0 z1 z2 z3 z4 z5 hy0 hy1 => by
    have te : txS N S o (py1 N s r f) f = bdV (lwV N S 1 (nmS N o (stS s 4 f (s 4 f + lsG (N 12 r) (s 1 f))) f)) 0 := by
      unfold txS
      rw [if_neg ho, nm]
    refine zcallR (mi := 254) (as := [.int y0, .int y1]) (rest := []) (q0 := 0) zv_kmy1 rfl (by decide) (shM I2.1) ?_
    refine (zLayM (d := d + 3) hb hT hO B4 I2 (g := f) (by omega) hy1 hy0).mono (fun v h3 hv => ?_)
    obtain ⟨rfl, I3, hnm⟩ := hv
    refine kmY2 (d := d + 5) (by omega) hb (p := (r : Int)) (f := 8 * (b : Int) + (f : Int)) (o := 8 * (b : Int) + (q : Int)) (g := lsG (N 12 r) (s 1 f)) I3.1 ⟨by omega, by omega⟩ ⟨by omega, by omega⟩ ⟨by omega, by omega⟩ ⟨by omega, by omega⟩ z0 z1 z2 z3 z4 z5 (fun lo4 h4 y2 y3 i4 m4 x0 x1 x2 x3 x4 x5 hy2 hy3 => ?_)
    have I4 := I3.nil hb i4 m4
    refine zcallR (mi := 254) (as := [.int y2, .int y3]) (rest := []) (q0 := 0) zv_kmy2 rfl (by decide) (shM i4) ?_
    refine (zBndM (d := d) hb hT B4 (by omega) hO I4 (g := f) (by omega) (fun i hi => (pL_md m4 rfl).trans (hnm i hi)) (j := 1) (by decide) (w := 0) (by decide) hy3 hy2).mono (fun v h5 hv => ?_)
    obtain ⟨z, rfl, hz, I5⟩ := hv
    rw [← te] at hz
    refine kmY3 (d := d + 5) (by omega) hb (p := (r : Int)) (f := 8 * (b : Int) + (f : Int)) (o := 8 * (b : Int) + (q : Int)) (g := lsG (N 12 r) (s 1 f)) (x := txS N S o (py1 N s r f) f) I5.1 ⟨by omega, by omega⟩ ⟨by omega, by omega⟩ ⟨by omega, by omega⟩ ⟨by omega, by omega⟩ tb x0 x1 x2 x3 x4 x5 hz (fun lo6 h6 i6 m6 e v0 v1 v2 v3 v4 v5 v6 => ?_) (fun lo6 h6 i6 m6 e v0 v1 v2 v3 v4 v5 v6 => ?_)
    · have ex : lsG (txS N S o (py1 N s r f) f) (lsG (N 12 r) (s 1 f)) = lsG (N 12 r) (s 1 f) := by omega
      exact f3 lo6 h6 (I5.nil hb i6 m6) v0 v1 v2 v3 v4 v5 (by rw [ex]; exact v6)
    · have ex : lsG (txS N S o (py1 N s r f) f) (lsG (N 12 r) (s 1 f)) = txS N S o (py1 N s r f) f := by omega
      exact f3 lo6 h6 (I5.nil hb i6 m6) v0 v1 v2 v3 v4 v5 (by rw [ex]; exact v6)
  have g3' : zI lo1 3 (8 * (b : Int) + (f : Int)) := by rw [Int.add_comm]; exact g3
  have g4' : zI lo1 4 (8 * (b : Int) + (q : Int)) := by rw [Int.add_comm]; exact g4
  have tn : o 1 = 3 → lsG (txS N S o (py1 N s r f) f) (lsG (N 12 r) (s 1 f)) = 0 := fun e => by
    have : txS N S o (py1 N s r f) f = 0 := if_pos e
    omega
  refine kmY1 (d := d + 5) (by omega) hb f8 (p := r) r10 (o := 8 * (b : Int) + (q : Int)) (f0 := (f : Int)) (a := N 12 r) (bl := s 1 f) (pd := s 4 f) (nx := if o 1 = 3 then 1 else 0) I1.1 ⟨by omega, by omega⟩ ⟨by omega, by omega⟩ p12 w1 ⟨by omega, by omega⟩ ob g0 g1 g2 g3' g4' (u0.trans hf) u3 c3 c4 o3 (fun lo2 h2 y0 y1 i2 m2 e1 e2 e3 z0 z1 z2 z3 z4 z5 z6 hy0 hy1 => ?_) (fun lo2 h2 i2 m2 e1 e2 e3 z0 z1 z2 z3 z4 z5 z6 => ?_) (fun lo2 h2 y0 y1 i2 m2 e1 e2 e3 z0 z1 z2 z3 z4 z5 z6 hy0 hy1 => ?_) (fun lo2 h2 i2 m2 e1 e2 e3 z0 z1 z2 z3 z4 z5 z6 => ?_)
  · have ex : lsG (N 12 r) (s 1 f) = s 1 f := by omega
    exact ask lo2 h2 y0 y1 (up h2 i2 m2 (e3.trans (by omega))) (fun c => by rw [if_pos c] at e2; cases e2) z0 z1 z2 z3 z4 (by rw [ex]; exact z5) hy0 hy1
  · have ex : lsG (N 12 r) (s 1 f) = s 1 f := by omega
    have ho : o 1 = 3 := Classical.byContradiction fun c => e2 (if_neg c)
    exact f3 lo2 h2 (up h2 i2 m2 (e3.trans (by omega))) z0 z1 z2 z3 z4 (by rw [ex]; exact z5) (by rw [tn ho]; exact z6)
  · have ex : lsG (N 12 r) (s 1 f) = N 12 r := by omega
    exact ask lo2 h2 y0 y1 (up h2 i2 m2 (e3.trans (by omega))) (fun c => by rw [if_pos c] at e2; cases e2) z0 z1 z2 z3 z4 (by rw [ex]; exact z5) hy0 hy1
  · have ex : lsG (N 12 r) (s 1 f) = N 12 r := by omega
    have ho : o 1 = 3 := Classical.byContradiction fun c => e2 (if_neg c)
    exact f3 lo2 h2 (up h2 i2 m2 (e3.trans (by omega))) z0 z1 z2 z3 z4 (by rw [ex]; exact z5) (by rw [tn ho]; exact z6)
theorem zv_kmp : zcvB 253 94 12 2 254 = true := by decide +kernel
theorem zPayML {l : Launch} {Γ : zG} {d b : Nat} (hb : b < 2) {Kp : Option Value → zH → Prop} {N : zN} {S : zS} {o : Nat → Int} {h0 : zH} (hT : TB N S) (hO : OB o) : ∀ (m r : Nat) (lo : zL) (h : zH) (s : zSt) (n : Int), r + m = S 3 → SB n s → n + 198 * m ≤ 2000000000 → DI b N S o s h0 h → zget lo 0 = some (.ref 0) → zI lo 1 (b : Int) → zI lo 2 (r : Int) →
    (∀ lo' h', DI b N S o (itG (pyG N S o) m r s) h0 h' → zget lo' 0 = some (.ref 0) → zI lo' 1 (b : Int) → zI lo' 2 0 → zX l Γ false (d + 7) (zhd 253) (zMQ' Γ false (zhd 253) Kp) 0 0 105 lo' [] h') → zX l Γ false (d + 7) (zhd 253) (zMQ' Γ false (zhd 253) Kp) 0 0 55 lo [] h
  | 0, r, lo, h, s, n, hr, hB, hn, I, l0, l1, l2, hE => by
    have b3 := hT.1.2.2.2.1
    exact kmP3 (d := d + 6) (by omega) hb (ri := (r : Int)) (n := (S 3 : Int)) I.1 ⟨by omega, by omega⟩ ⟨by omega, by omega⟩ l0 l1 l2 I.2.2.1.1.1.2.2.2.1 (by omega) (fun lo' h' i1 m1 g0 g1 g2 => hE lo' h' (I.nil hb i1 m1) g0 g1 g2)
  | m + 1, r, lo, h, s, n, hr, hB, hn, I, l0, l1, l2, hE => by
    have b3 := hT.1.2.2.2.1
    have b1 := hT.1.2.1
    obtain ⟨q0, q1, q2, q3⟩ := I.2.2.1.1.2.2.2.2.2.1 r (by omega)
    obtain ⟨p9, p10, p12⟩ := hT.2.2.2.1 r (by omega)
    have c60 := I.2.2.2.2.2.1
    have mu := I.2.2.1.2.2.2.2.2.2.2.1
    have hB' := pyG_b (o := o) hT hB (r := r) (by omega)
    have nx : ∀ (lo' : zL) (h' : zH), DI b N S o (pyG N S o s r) h0 h' → zget lo' 0 = some (.ref 0) → zI lo' 1 (b : Int) → zI lo' 2 ((r : Int) + 1) → zX l Γ false (d + 7) (zhd 253) (zMQ' Γ false (zhd 253) Kp) 0 0 55 lo' [] h' := fun lo' h' I1 g0 g1 g2 =>
      zPayML hb hT hO m (r + 1) lo' h' (pyG N S o s r) (n + 198) (by omega) hB' (by omega) I1 g0 g1 (by rw [Int.natCast_add]; exact g2) hE
    have skip : ¬ (N 11 r = s 6 0 ∧ N 9 r ≠ o 2) → pyG N S o s r = s := fun e => if_neg e
    refine kmP1 (d := d + 6) (by omega) hb (r := r) (by omega) (n := (S 3 : Int)) (f := N 9 r) (mn := N 11 r) (m := s 6 0) (mu := o 2) I.1 ⟨by omega, by omega⟩ ⟨by omega, by omega⟩ (i32e q2) (i32e c60) (i32e mu) l0 l1 l2 I.2.2.1.1.1.2.2.2.1 q0 q2 c60 mu (fun lo' h' i1 m1 e1 e2 g0 g1 g2 => ?_) (fun lo' h' y0 y1 i1 m1 e1 e2 g0 g1 g2 hy0 hy1 => ?_) (fun lo' h' i1 m1 e1 g0 g1 g2 => ?_)
    · refine nx lo' h' ?_ g0 g1 g2
      rw [skip (fun c => c.2 e2)]
      exact I.nil hb i1 m1
    · have I1 := I.nil hb i1 m1
      refine zcallR (mi := 253) (as := [.int y0, .int y1]) (rest := []) (q0 := 0) zv_kmp rfl (by decide) (shM i1) ?_
      refine (zPayM hb hT hO hB (by omega) I1 (r := r) (by omega) e1 e2 hy1 hy0).mono (fun v h2 hv => ?_)
      obtain ⟨rfl, I2⟩ := hv
      exact kmP2 (d := d + 6) (by omega) hb (ri := (r : Int)) I2.1 ⟨by omega, by omega⟩ g0 g1 g2 (fun lo3 h3 i3 m3 z0 z1 z2 => nx lo3 h3 (I2.nil hb i3 m3) z0 z1 z2)
    · refine nx lo' h' ?_ g0 g1 g2
      rw [skip (fun c => e1 c.1)]
      exact I.nil hb i1 m1
/-! a minute -/
theorem kmZ_s : ((List.range 2).all fun b => ssubB (kmZ_m b) (MM b)) = true := by decide
theorem zMinM {l : Launch} {Γ : zG} {d b : Nat} (hb : b < 2) {N : zN} {S : zS} {o : Nat → Int} {s : zSt} {h0 h : zH} {n : Int} (hT : TB N S) (hO : OB o) (hB : SB n s) (hn : n ≤ 1999980000) (I : DI b N S o s h0 h) {x : Int32} (hx : x.toInt = (b : Int)) : zSem l Γ false (d + 8) (zhd 253) [.ref 0, .int x] h (fun r h' => r = none ∧ DI b N S o (mnt N S o s) h0 h') := by
  have b3 := hT.1.2.2.2.1
  have b1 := hT.1.2.1
  have b2 := hT.1.2.2.1
  have B1 := mn1_b (o := o) hT hB
  have B2 := mn2_b (o := o) hT B1
  have B3 := mn3_b (N := N) (S := S) (o := o) B2
  have B4 := mn4_b hT hO B3
  have B5 := mn5_b (o := o) hT B4
  have f6 : ∀ (lo' : zL) (h' : zH), DI b N S o (mn5 N S o (itG (rnG N S o) (S 1) 0 (mn3 N S o (itG (pyG N S o) (S 3) 0 (mn1 N S o s))))) h0 h' → zget lo' 0 = some (.ref 0) → zI lo' 1 (b : Int) → zX l Γ false (d + 8) (zhd 253) (zMQ' Γ false (zhd 253) (fun r h' => r = none ∧ DI b N S o (mnt N S o s) h0 h')) 0 0 213 lo' [] h' := fun lo' h' I5 g0 g1 => by
    have c60 := I5.2.2.2.2.2.1
    have b6 := B5.2.2.1
    refine kmZ (d := d + 7) (by omega) hb (m := mn5 N S o (itG (rnG N S o) (S 1) 0 (mn3 N S o (itG (pyG N S o) (S 3) 0 (mn1 N S o s)))) 6 0) I5.1 ⟨by omega, by omega⟩ g0 g1 c60 (fun h6 i6 m6 e => ⟨rfl, ?_⟩)
    exact I5.to hb i6 (m6.sub (zall_r kmZ_s hb)) (MS.mk (I5.2.2.2.k0 m6 (fun j => smemc (by omega) smem0)) (I5.2.2.2.k1 m6 (fun j => smemc (by omega) smem0)) (I5.2.2.2.k2 m6 (fun j => smemc (by omega) smem0)) (I5.2.2.2.k3 m6 (fun j => smemc (by omega) smem0)) (I5.2.2.2.k4 m6 (fun j => smemc (by omega) smem0)) (I5.2.2.2.k5 m6 (fun j => smemc (by omega) smem0)) ⟨e, (pI_md m6 (smemc (by omega) smem0)).trans I5.2.2.2.2.2.2.1, (pL_md m6 (smemc (by omega) smem0)).trans I5.2.2.2.2.2.2.2⟩)
  have f1 : ∀ (lo' : zL) (h' : zH), DI b N S o (mn1 N S o s) h0 h' → zget lo' 0 = some (.ref 0) → zI lo' 1 (b : Int) → zI lo' 2 0 → zX l Γ false (d + 8) (zhd 253) (zMQ' Γ false (zhd 253) (fun r h' => r = none ∧ DI b N S o (mnt N S o s) h0 h')) 0 0 55 lo' [] h' := fun lo' h' I1 g0 g1 g2 =>
    zPayML (d := d + 1) hb hT hO (S 3) 0 lo' h' _ n (by omega) B1 (by omega) I1 g0 g1 g2 (fun lo2 h2 I2 g0 g1 g2 =>
      zDmpM (d := d + 5) hb hT hO (S 1) 0 lo2 h2 _ (by omega) B2 I2 g0 g1 g2 (fun lo3 h3 I3 g0 g1 g2 =>
        zRunML hb hT hO (S 1) 0 lo3 h3 (mn3 N S o (itG (pyG N S o) (S 3) 0 (mn1 N S o s))) _ (by omega) B3 (by omega) (by rw [dpM_n] at I3; exact I3) g0 g1 g2 (fun lo4 h4 I4 g0 g1 g2 =>
          zWndML hb hT hO (n := n + 1980 + 8) (by omega) (S 1) 0 lo4 h4 _ (by omega) B4 I4 g0 g1 g2 (fun lo5 h5 I5 g0 g1 => f6 lo5 h5 I5 g0 g1))))
  refine kmT0 (d := d + 7) (by omega) hb I.1 hx (fun lo' h' i1 m1 g0 g1 g2 => ?_)
  have I1 := I.nil hb i1 m1
  by_cases ho : o 1 = 4
  · have es : mn1 N S o s = s := if_pos ho
    by_cases e0 : S 2 = 0
    · exact kmT3 (d := d + 7) (by omega) hb (ri := 0) (n := (S 2 : Int)) I1.1 (by decide) ⟨by omega, by omega⟩ g0 g1 g2 I1.2.2.1.1.1.2.2.1 (by omega) (fun lo2 h2 i2 m2 z0 z1 z2 => f1 lo2 h2 (by rw [es]; exact I1.nil hb i2 m2) z0 z1 z2)
    · have nt := I1.2.2.1.2.2.2.2.2.2.1
      rw [if_pos ho] at nt
      obtain ⟨q0, q1⟩ := I1.2.2.1.1.2.2.2.2.1 0 (by omega)
      exact kmT1 (d := d + 7) (by omega) hb (r := 0) (by omega) (n := (S 2 : Int)) (nt := 1) (gl := N 7 0) (mn := N 8 0) (m := s 6 0) I1.1 ⟨by omega, by omega⟩ (by decide) ⟨by have := hT.2.2.1 0 (by omega); omega, by have := hT.2.2.1 0 (by omega); omega⟩ (i32e q1) (i32e I1.2.2.2.2.2.1) g0 g1 g2 I1.2.2.1.1.1.2.2.1 nt q0 q1 I1.2.2.2.2.2.1 (fun lo2 h2 y i2 m2 e => absurd e (by decide)) (fun lo2 h2 i2 m2 e => absurd e (by decide)) (fun lo2 h2 i2 m2 e z0 z1 z2 => f1 lo2 h2 (by rw [es]; exact I1.nil hb i2 m2) z0 z1 z2)
  · have es : mn1 N S o s = itG (tnG N) (S 2) 0 s := if_neg ho
    exact zTrnM (d := d + 6) hb hT ho (S 2) 0 lo' h' s (by omega) hB I1 g0 g1 g2 (fun lo2 h2 I2 z0 z1 z2 => f1 lo2 h2 (by rw [es]; exact I2) z0 z1 z2)
