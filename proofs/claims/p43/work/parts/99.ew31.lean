/-! the latest call undone -/
theorem zv_kdu1 : zcvB 172 50 7 1 92 = true := by decide +kernel
theorem zv_kdu2 : zcvB 172 98 7 3 96 = true := by decide +kernel
theorem zng_u : zngB 172 97 = true := by decide +kernel
def MU : sM := [(43, 3, 4), (44, 0, 8), (45, 0, 8), (47, 0, 8), (86, 4, 5)]
theorem MU_s : ((List.range 8).all fun f => (List.range 8).all fun q => ssubB (kdC_m f q) MU && ssubB [(44, f, f + 1), (45, f, f + 1)] MU) = true := by decide
theorem wet_md {s : zSt} {h h' : zH} (C : CS 43 s h) {w : Int} {g : Nat} (hg : g < 8) {v : Int} (m : sMd [(43, 3, 4), (86, 4, 5)] h h') (k3 : pI h' 43 3 = w) (b : 0 ≤ w ∧ w < 256) (f : ∀ j, j < 8 → wbT w j = if j = g then v else wbT (pI h 43 3) j) : CS 43 (stS s 2 g v) h' := by
  refine CS.mk (b := 43) (C.k0 m (fun j => smemc (by omega) (smemc (by omega) smem0))) (C.k1 m (fun j => smemc (by omega) (smemc (by omega) smem0))) (C.k3 m (fun j => smemc (by omega) (smemc (by omega) smem0))) (C.k4 m (fun j => smemc (by omega) (smemc (by omega) smem0))) (C.k5 m (fun j => smemc (by omega) (smemc (by omega) smem0))) (C.k6 m (fun j hj => smemc (by omega) (smemc (by omega) smem0))) ?_
  rw [k3]
  refine ⟨b.1, b.2, upS (s := s) (f := wbT w) (fun j hj hn => ?_) ?_⟩
  · rw [f j hj, if_neg hn]
    exact C.2.2.2.2.2 j hj
  · rw [f g hg, if_pos rfl]
theorem zUndoC {l : Launch} {Γ : zG} {d : Nat} {X : zSx} {S : zS} {n : Int} {h : zH} (hi : sInv swC h) (C : CS 43 X.1 h) (hU : UC X h) (hX : XB S n X) (hn : n ≤ 2000000000) {k : Nat} (hk : X.2.2.1 = k + 1) : zSem l Γ false (d + 2) (zhd 172) [.ref 86, .ref 43] h (fun r h' => r = none ∧ sInv swC h' ∧ sMd MU h h' ∧ CS 43 (X.2.2.2 k) h' ∧ UC (X.2.2.2 k, X.2.1, k, X.2.2.2) h') := by
  obtain ⟨a0, a1, a2, a3, a4⟩ := hU.2 k (by omega)
  have q4 : pI h 86 4 = (k : Int) + 1 := by
    rw [hU.1, hk]
    exact Int.natCast_add k 1
  have eu : atU X (k + 1) = X.1 := if_neg (by omega)
  rw [eu] at a4
  have k20 : k < 20 := by have := hX.2.2.1; omega
  -- what is left remembered
  have lf : ∀ (h' : zH), (∀ q j, 87 ≤ q → q ≤ 90 → pI h' q j = pI h q j) → pI h' 86 4 = (k : Int) → UC (X.2.2.2 k, X.2.1, k, X.2.2.2) h' := fun h' f e => ⟨e, fun j hj => by
    have hj : j < k := hj
    rw [f 87 j (by decide) (by decide), f 88 j (by decide) (by decide), f 89 j (by decide) (by decide), f 90 j (by decide) (by decide)]
    obtain ⟨b0, b1, b2, b3, b4⟩ := hU.2 j (by omega)
    refine ⟨b0, b1, b2, b3, ?_⟩
    have ea : atU (X.2.2.2 k, X.2.1, k, X.2.2.2) (j + 1) = atU X (j + 1) := by
      unfold atU
      show (if j + 1 < k then X.2.2.2 (j + 1) else X.2.2.2 k) = (if j + 1 < X.2.2.1 then X.2.2.2 (j + 1) else X.1)
      rw [if_pos (show j + 1 < X.2.2.1 from by omega)]
      by_cases e2 : j + 1 < k
      · rw [if_pos e2]
      · rw [if_neg e2, show k = j + 1 from by omega]
    rw [ea]
    exact b4⟩
  have hw : 0 ≤ pI h 43 3 ∧ pI h 43 3 ≤ 255 := ⟨C.2.2.2.1, by have := C.2.2.2.2.1; omega⟩
  obtain ⟨on, eon⟩ : ∃ g : Nat, pI h 88 k = (g : Int) := ⟨(pI h 88 k).toNat, by omega⟩
  obtain ⟨ot, eot⟩ : ∃ g : Nat, pI h 89 k = (g : Int) := ⟨(pI h 89 k).toNat, by omega⟩
  have o8 : on < 8 := by omega
  have t8 : ot < 8 := by omega
  have ss := zall_r (zall_r MU_s o8) t8
  have s2 := zall_r (zall_r MU_s o8) o8
  simp only [Bool.and_eq_true] at ss s2
  rcases (by omega : pI h 87 k = 0 ∨ pI h 87 k = 1 ∨ pI h 87 k = 2) with e | e | e
  · have es : X.2.2.2 k = swS X.1 on := by
      rw [← a4, e, eon]
      exact if_pos rfl
    refine kdU0 (d := d + 1) (by omega) k20 (on := (on : Int)) (ot := (ot : Int)) hi ⟨by omega, by omega⟩ ⟨by omega, by omega⟩ a3 hw q4 e eon eot rfl rfl (fun lo1 h1 y0 i1 m1 k4 l0 l1 hy => ?_)
    refine zcallR (mi := 172) (as := [.int y0]) (rest := []) (q0 := 43) zv_kdu1 rfl (by decide) (shB (t := 0) (by decide) i1) ?_
    have C1 : CS 43 X.1 h1 := C.md m1 (fun q h1 h2 j => smemc (by omega) smem0)
    refine (C1.sw i1 (l := l) (Γ := Γ) (d := d) o8 hy).mono (fun v h2 hv => ?_)
    obtain ⟨rfl, i2, m2, C2⟩ := hv
    refine kdU3 (d := d + 1) (by omega) i2 l0 l1 (fun h3 i3 m3 => ⟨rfl, i3, ((m1.sub rfl).seq (m2.sub s2.2)).seq (m3.sub rfl), ?_, lf h3 (fun q j b1 b2 => ?_) ?_⟩)
    · rw [es]
      exact C2.md m3 (fun _ _ _ _ => rfl)
    · exact (pI_md m3 rfl).trans ((pI_md m2 (smemc (by omega) (smemc (by omega) smem0))).trans (pI_md m1 (smemc (by omega) smem0)))
    · exact (pI_md m3 rfl).trans ((pI_md m2 (smemc (by omega) (smemc (by omega) smem0))).trans k4)
  · have es : X.2.2.2 k = coS X.1 on ot (-(pI h 90 k)) := by
      rw [← a4, e, eon, eot]
      exact (if_neg (by decide)).trans (if_pos rfl)
    refine kdU1 (d := d + 1) (by omega) k20 (on := (on : Int)) (ot := (ot : Int)) hi ⟨by omega, by omega⟩ ⟨by omega, by omega⟩ a3 hw q4 e eon eot rfl rfl (fun lo1 h1 y0 y1 y2 i1 m1 k4 l0 l1 hy0 hy1 hy2 => ?_)
    refine zng zng_u ?_
    have hz : (-y0).toInt = -(pI h 90 k) := by
      rw [Int32.toInt_neg, hy0]
      exact Int.bmod_eq_of_le (by omega) (by omega)
    refine zcallR (mi := 172) (as := [.int (-y0), .int y1, .int y2]) (rest := []) (q0 := 43) zv_kdu2 rfl (by decide) (shB (t := 0) (by decide) i1) ?_
    have C1 : CS 43 X.1 h1 := C.md m1 (fun q h1 h2 j => smemc (by omega) smem0)
    refine (C1.co i1 hX.1.1 hn (l := l) (Γ := Γ) (d := d) o8 t8 (z := -(pI h 90 k)) ⟨by omega, by omega⟩ hy2 hy1 hz).mono (fun v h2 hv => ?_)
    obtain ⟨rfl, i2, m2, C2⟩ := hv
    refine kdU4 (d := d + 1) (by omega) i2 l0 l1 (fun h3 i3 m3 => ⟨rfl, i3, ((m1.sub rfl).seq (m2.sub ss.1)).seq (m3.sub rfl), ?_, lf h3 (fun q j b1 b2 => ?_) ?_⟩)
    · rw [es]
      exact C2.md m3 (fun _ _ _ _ => rfl)
    · exact (pI_md m3 rfl).trans ((pI_md m2 (smemc (by omega) (smemc (by omega) (smemc (by omega) smem0)))).trans (pI_md m1 (smemc (by omega) smem0)))
    · exact (pI_md m3 rfl).trans ((pI_md m2 (smemc (by omega) (smemc (by omega) (smemc (by omega) smem0)))).trans k4)
  · have es : X.2.2.2 k = stS X.1 2 on 1 := by
      rw [← a4, e, eon]
      exact (if_neg (by decide)).trans (if_neg (by decide))
    have wo := wbT_or C.2.2.2.1 C.2.2.2.2.1 o8
    refine kdU2 (d := d + 1) (by omega) k20 (on := (on : Int)) (ot := (ot : Int)) hi ⟨by omega, by omega⟩ ⟨by omega, by omega⟩ a3 hw q4 e eon eot rfl rfl (fun h1 w0 w1 i1 m1 e0 e1 k3 k4 => ⟨rfl, i1, m1.sub rfl, ?_, lf h1 (fun q j b1 b2 => ?_) k4⟩)
    · rw [es]
      rw [e0] at e1
      exact wet_md C o8 m1 (k3.trans e1) wo.2.1 wo.2.2
    · exact pI_md m1 (smemc (by omega) (smemc (by omega) smem0))
/-! a state copied -/
theorem zac_k : (zacB 112 44 && (zacB 112 59 && (zacB 112 74 && (zacB 112 89 && zacB 112 104)))) = true := by decide +kernel
theorem sIa : ((List.range 8).all fun k => (List.range 4).all fun q => decide (sIv swC (50 + q) k = (-2147483648, 2147483647))) = true := by decide +kernel
theorem sJa : ((List.range 10).all fun k => decide (sIv swC 54 k = sIv swC 48 k)) = true := by decide +kernel
theorem zCpya {l : Launch} {Γ : zG} {d : Nat} {s : zSt} {h : zH} (hi : sInv swC h) (C : CS 43 s h) : zSem l Γ false (d + 1) (zhd 112) [.ref 49, .ref 43] h (fun r h' => r = none ∧ sInv swC h' ∧ sMd [(49, 0, 4), (50, 0, 8), (51, 0, 8), (52, 0, 8), (53, 0, 8), (54, 0, 10)] h h' ∧ CS 49 s h') := by
  have za := zac_k
  simp only [Bool.and_eq_true] at za
  obtain ⟨z1, z2, z3, z4, z5⟩ := za
  obtain ⟨c1, c2, ⟨c3, c4, c5⟩, c6, c7, c8⟩ := C
  have bd : ∀ q, 50 ≤ q → q ≤ 53 → ∀ {h : zH} {q0 : Nat} j, j < 8 → (sIv swC q j).1 ≤ pI h q0 (0 + j) ∧ pI h q0 (0 + j) ≤ (sIv swC q j).2 := fun q a b h q0 j hj => by
    have t := zall_r (zall_r sIa (k := j) (by omega)) (k := q - 50) (by omega)
    rw [show 50 + (q - 50) = q from by omega] at t
    rw [of_decide_eq_true t]
    exact i32bd _
  refine kdKa0 (d := d) (by omega) hi (i32e rfl) (i32e rfl) (i32e rfl) (i64e rfl) rfl rfl rfl rfl (fun lo1 h1 u0 x0 x1 x3 i1 m1 v0 v1 k3 k2 k0 l0 l1 y0 y1 y3 => ?_)
  refine zacp (sp := 0) (n := 8) z1 (by decide) (sh1C (n := 8) (by decide +kernel) i1) (sh1C (n := 8) (by decide +kernel) i1) y0 y1 y3 (by decide) (by decide) ?_
  have i2 := zcp_i (q0 := 44) (q1 := 50) (sp := 0) (n := 8) i1 (bd 50 (by decide) (by decide))
  have m2 := zcp_md (h := h1) (q0 := 44) (q1 := 50) (sp := 0) (n := 8)
  refine kdKa1 (d := d) (by omega) i2 l0 l1 (fun lo3 h3 x0 x1 x3 i3 m3 l0 l1 y0 y1 y3 => ?_)
  refine zacp (sp := 0) (n := 8) z2 (by decide) (sh1C (n := 8) (by decide +kernel) i3) (sh1C (n := 8) (by decide +kernel) i3) y0 y1 y3 (by decide) (by decide) ?_
  have i4 := zcp_i (q0 := 45) (q1 := 51) (sp := 0) (n := 8) i3 (bd 51 (by decide) (by decide))
  have m4 := zcp_md (h := h3) (q0 := 45) (q1 := 51) (sp := 0) (n := 8)
  refine kdKa2 (d := d) (by omega) i4 l0 l1 (fun lo5 h5 x0 x1 x3 i5 m5 l0 l1 y0 y1 y3 => ?_)
  refine zacp (sp := 0) (n := 8) z3 (by decide) (sh1C (n := 8) (by decide +kernel) i5) (sh1C (n := 8) (by decide +kernel) i5) y0 y1 y3 (by decide) (by decide) ?_
  have i6 := zcp_i (q0 := 46) (q1 := 52) (sp := 0) (n := 8) i5 (bd 52 (by decide) (by decide))
  have m6 := zcp_md (h := h5) (q0 := 46) (q1 := 52) (sp := 0) (n := 8)
  refine kdKa3 (d := d) (by omega) i6 l0 l1 (fun lo7 h7 x0 x1 x3 i7 m7 l0 l1 y0 y1 y3 => ?_)
  refine zacp (sp := 0) (n := 8) z4 (by decide) (sh1C (n := 8) (by decide +kernel) i7) (sh1C (n := 8) (by decide +kernel) i7) y0 y1 y3 (by decide) (by decide) ?_
  have i8 := zcp_i (q0 := 47) (q1 := 53) (sp := 0) (n := 8) i7 (bd 53 (by decide) (by decide))
  have m8 := zcp_md (h := h7) (q0 := 47) (q1 := 53) (sp := 0) (n := 8)
  refine kdKa4 (d := d) (by omega) i8 l0 l1 (fun lo9 h9 x0 x1 x3 i9 m9 l0 l1 y0 y1 y3 => ?_)
  refine zacp (sp := 0) (n := 10) z5 (by decide) (sh1C (n := 10) (by decide +kernel) i9) (sh1C (n := 10) (by decide +kernel) i9) y0 y1 y3 (by decide) (by decide) ?_
  have b9 : ∀ j, j < 10 → (sIv swC 54 j).1 ≤ pI h9 48 (0 + j) ∧ pI h9 48 (0 + j) ≤ (sIv swC 54 j).2 := fun j hj => by
    have t := zall_r sJa (k := j) hj
    have t2 := i9.2.2.1 48 j
    rw [← of_decide_eq_true t] at t2
    rw [Nat.zero_add]
    exact t2
  have i10 := zcp_i (q0 := 48) (q1 := 54) (sp := 0) (n := 10) i9 b9
  have m10 := zcp_md (h := h9) (q0 := 48) (q1 := 54) (sp := 0) (n := 10)
  refine kdKa5 (d := d) (by omega) i10 l0 l1 (fun h11 i11 m11 => ⟨rfl, i11, ?_, ?_⟩)
  · exact ((((((((((m1.sub rfl).seq (m2.sub rfl)).seq (m3.sub rfl)).seq (m4.sub rfl)).seq (m5.sub rfl)).seq (m6.sub rfl)).seq (m7.sub rfl)).seq (m8.sub rfl)).seq (m9.sub rfl)).seq (m10.sub rfl)).seq (m11.sub rfl)
  · have q1 : ∀ q k, q ≠ 49 → pI h1 q k = pI h q k := fun q k hq => pI_md m1 (smemc (by omega) (smemc (by omega) (smemc (by omega) (smemc (by omega) smem0))))
    have n2 : ∀ q k, q ≠ 50 → pI (zcp h1 44 50 0 0 8) q k = pI h1 q k := fun q k hq => pI_md m2 (smemc (by omega) smem0)
    have n4 : ∀ q k, q ≠ 51 → pI (zcp h3 45 51 0 0 8) q k = pI h3 q k := fun q k hq => pI_md m4 (smemc (by omega) smem0)
    have n6 : ∀ q k, q ≠ 52 → pI (zcp h5 46 52 0 0 8) q k = pI h5 q k := fun q k hq => pI_md m6 (smemc (by omega) smem0)
    have n8 : ∀ q k, q ≠ 53 → pI (zcp h7 47 53 0 0 8) q k = pI h7 q k := fun q k hq => pI_md m8 (smemc (by omega) smem0)
    have n10 : ∀ q k, q ≠ 54 → pI (zcp h9 48 54 0 0 10) q k = pI h9 q k := fun q k hq => pI_md m10 (smemc (by omega) smem0)
    have a3 : ∀ q k, pI h3 q k = pI (zcp h1 44 50 0 0 8) q k := fun q k => pI_md m3 rfl
    have a5 : ∀ q k, pI h5 q k = pI (zcp h3 45 51 0 0 8) q k := fun q k => pI_md m5 rfl
    have a7 : ∀ q k, pI h7 q k = pI (zcp h5 46 52 0 0 8) q k := fun q k => pI_md m7 rfl
    have a9 : ∀ q k, pI h9 q k = pI (zcp h7 47 53 0 0 8) q k := fun q k => pI_md m9 rfl
    have a11 : ∀ q k, pI h11 q k = pI (zcp h9 48 54 0 0 10) q k := fun q k => pI_md m11 rfl
    have far : ∀ k, pI h11 49 k = pI h1 49 k := fun k => by
      rw [a11, n10 _ _ (by decide), a9, n8 _ _ (by decide), a7, n6 _ _ (by decide), a5, n4 _ _ (by decide), a3, n2 _ _ (by decide)]
    have farL : pL h11 49 1 = pL h1 49 1 := by
      rw [pL_md m11 rfl, pL_md m10 (smemc (by omega) smem0), pL_md m9 rfl, pL_md m8 (smemc (by omega) smem0), pL_md m7 rfl, pL_md m6 (smemc (by omega) smem0), pL_md m5 rfl, pL_md m4 (smemc (by omega) smem0), pL_md m3 rfl, pL_md m2 (smemc (by omega) smem0)]
    refine CS.mk (b := 49) (fun j hj => ?_) (fun j hj => ?_) (fun j hj => ?_) (fun j hj => ?_) (fun j hj => ?_) ⟨?_, ?_, ?_⟩ ?_
    · obtain ⟨d1, -⟩ := c1 j hj
      show pI h11 50 j = _
      rw [a11, n10 _ _ (by decide), a9, n8 _ _ (by decide), a7, n6 _ _ (by decide), a5, n4 _ _ (by decide), a3, zcp_at hj, q1 _ _ (by decide), Nat.zero_add]
      exact d1
    · obtain ⟨-, d1, -⟩ := c1 j hj
      show pI h11 51 j = _
      rw [a11, n10 _ _ (by decide), a9, n8 _ _ (by decide), a7, n6 _ _ (by decide), a5, zcp_at hj, a3, n2 _ _ (by decide), q1 _ _ (by decide), Nat.zero_add]
      exact d1
    · obtain ⟨-, -, d1, -⟩ := c1 j hj
      show pI h11 52 j = _
      rw [a11, n10 _ _ (by decide), a9, n8 _ _ (by decide), a7, zcp_at hj, a5, n4 _ _ (by decide), a3, n2 _ _ (by decide), q1 _ _ (by decide), Nat.zero_add]
      exact d1
    · obtain ⟨-, -, -, d1⟩ := c1 j hj
      show pI h11 53 j = _
      rw [a11, n10 _ _ (by decide), a9, zcp_at hj, a7, n6 _ _ (by decide), a5, n4 _ _ (by decide), a3, n2 _ _ (by decide), q1 _ _ (by decide), Nat.zero_add]
      exact d1
    · have d1 := c2 j hj
      show pI h11 54 j = _
      rw [a11, zcp_at hj, a9, n8 _ _ (by decide), a7, n6 _ _ (by decide), a5, n4 _ _ (by decide), a3, n2 _ _ (by decide), q1 _ _ (by decide), Nat.zero_add]
      exact d1
    · rw [far, k0]
      exact c3
    · rw [far, k2]
      exact c4
    · rw [farL, v0, v1]
      exact c5
    · rw [far, k3]
      exact ⟨c6, c7, c8⟩
theorem sIb : ((List.range 8).all fun k => (List.range 4).all fun q => decide (sIv swC (44 + q) k = (-2147483648, 2147483647))) = true := by decide +kernel
theorem sJb : ((List.range 10).all fun k => decide (sIv swC 48 k = sIv swC 54 k)) = true := by decide +kernel
theorem zCpyb {l : Launch} {Γ : zG} {d : Nat} {s : zSt} {h : zH} (hi : sInv swC h) (C : CS 49 s h) : zSem l Γ false (d + 1) (zhd 112) [.ref 43, .ref 49] h (fun r h' => r = none ∧ sInv swC h' ∧ sMd [(43, 0, 4), (44, 0, 8), (45, 0, 8), (46, 0, 8), (47, 0, 8), (48, 0, 10)] h h' ∧ CS 43 s h') := by
  have za := zac_k
  simp only [Bool.and_eq_true] at za
  obtain ⟨z1, z2, z3, z4, z5⟩ := za
  obtain ⟨c1, c2, ⟨c3, c4, c5⟩, c6, c7, c8⟩ := C
  have bd : ∀ q, 44 ≤ q → q ≤ 47 → ∀ {h : zH} {q0 : Nat} j, j < 8 → (sIv swC q j).1 ≤ pI h q0 (0 + j) ∧ pI h q0 (0 + j) ≤ (sIv swC q j).2 := fun q a b h q0 j hj => by
    have t := zall_r (zall_r sIb (k := j) (by omega)) (k := q - 44) (by omega)
    rw [show 44 + (q - 44) = q from by omega] at t
    rw [of_decide_eq_true t]
    exact i32bd _
  refine kdKb0 (d := d) (by omega) hi (i32e rfl) (i32e rfl) (i32e rfl) (i64e rfl) rfl rfl rfl rfl (fun lo1 h1 u0 x0 x1 x3 i1 m1 v0 v1 k3 k2 k0 l0 l1 y0 y1 y3 => ?_)
  refine zacp (sp := 0) (n := 8) z1 (by decide) (sh1C (n := 8) (by decide +kernel) i1) (sh1C (n := 8) (by decide +kernel) i1) y0 y1 y3 (by decide) (by decide) ?_
  have i2 := zcp_i (q0 := 50) (q1 := 44) (sp := 0) (n := 8) i1 (bd 44 (by decide) (by decide))
  have m2 := zcp_md (h := h1) (q0 := 50) (q1 := 44) (sp := 0) (n := 8)
  refine kdKb1 (d := d) (by omega) i2 l0 l1 (fun lo3 h3 x0 x1 x3 i3 m3 l0 l1 y0 y1 y3 => ?_)
  refine zacp (sp := 0) (n := 8) z2 (by decide) (sh1C (n := 8) (by decide +kernel) i3) (sh1C (n := 8) (by decide +kernel) i3) y0 y1 y3 (by decide) (by decide) ?_
  have i4 := zcp_i (q0 := 51) (q1 := 45) (sp := 0) (n := 8) i3 (bd 45 (by decide) (by decide))
  have m4 := zcp_md (h := h3) (q0 := 51) (q1 := 45) (sp := 0) (n := 8)
  refine kdKb2 (d := d) (by omega) i4 l0 l1 (fun lo5 h5 x0 x1 x3 i5 m5 l0 l1 y0 y1 y3 => ?_)
  refine zacp (sp := 0) (n := 8) z3 (by decide) (sh1C (n := 8) (by decide +kernel) i5) (sh1C (n := 8) (by decide +kernel) i5) y0 y1 y3 (by decide) (by decide) ?_
  have i6 := zcp_i (q0 := 52) (q1 := 46) (sp := 0) (n := 8) i5 (bd 46 (by decide) (by decide))
  have m6 := zcp_md (h := h5) (q0 := 52) (q1 := 46) (sp := 0) (n := 8)
  refine kdKb3 (d := d) (by omega) i6 l0 l1 (fun lo7 h7 x0 x1 x3 i7 m7 l0 l1 y0 y1 y3 => ?_)
  refine zacp (sp := 0) (n := 8) z4 (by decide) (sh1C (n := 8) (by decide +kernel) i7) (sh1C (n := 8) (by decide +kernel) i7) y0 y1 y3 (by decide) (by decide) ?_
  have i8 := zcp_i (q0 := 53) (q1 := 47) (sp := 0) (n := 8) i7 (bd 47 (by decide) (by decide))
  have m8 := zcp_md (h := h7) (q0 := 53) (q1 := 47) (sp := 0) (n := 8)
  refine kdKb4 (d := d) (by omega) i8 l0 l1 (fun lo9 h9 x0 x1 x3 i9 m9 l0 l1 y0 y1 y3 => ?_)
  refine zacp (sp := 0) (n := 10) z5 (by decide) (sh1C (n := 10) (by decide +kernel) i9) (sh1C (n := 10) (by decide +kernel) i9) y0 y1 y3 (by decide) (by decide) ?_
  have b9 : ∀ j, j < 10 → (sIv swC 48 j).1 ≤ pI h9 54 (0 + j) ∧ pI h9 54 (0 + j) ≤ (sIv swC 48 j).2 := fun j hj => by
    have t := zall_r sJb (k := j) hj
    have t2 := i9.2.2.1 54 j
    rw [← of_decide_eq_true t] at t2
    rw [Nat.zero_add]
    exact t2
  have i10 := zcp_i (q0 := 54) (q1 := 48) (sp := 0) (n := 10) i9 b9
  have m10 := zcp_md (h := h9) (q0 := 54) (q1 := 48) (sp := 0) (n := 10)
  refine kdKb5 (d := d) (by omega) i10 l0 l1 (fun h11 i11 m11 => ⟨rfl, i11, ?_, ?_⟩)
  · exact ((((((((((m1.sub rfl).seq (m2.sub rfl)).seq (m3.sub rfl)).seq (m4.sub rfl)).seq (m5.sub rfl)).seq (m6.sub rfl)).seq (m7.sub rfl)).seq (m8.sub rfl)).seq (m9.sub rfl)).seq (m10.sub rfl)).seq (m11.sub rfl)
  · have q1 : ∀ q k, q ≠ 43 → pI h1 q k = pI h q k := fun q k hq => pI_md m1 (smemc (by omega) (smemc (by omega) (smemc (by omega) (smemc (by omega) smem0))))
    have n2 : ∀ q k, q ≠ 44 → pI (zcp h1 50 44 0 0 8) q k = pI h1 q k := fun q k hq => pI_md m2 (smemc (by omega) smem0)
    have n4 : ∀ q k, q ≠ 45 → pI (zcp h3 51 45 0 0 8) q k = pI h3 q k := fun q k hq => pI_md m4 (smemc (by omega) smem0)
    have n6 : ∀ q k, q ≠ 46 → pI (zcp h5 52 46 0 0 8) q k = pI h5 q k := fun q k hq => pI_md m6 (smemc (by omega) smem0)
    have n8 : ∀ q k, q ≠ 47 → pI (zcp h7 53 47 0 0 8) q k = pI h7 q k := fun q k hq => pI_md m8 (smemc (by omega) smem0)
    have n10 : ∀ q k, q ≠ 48 → pI (zcp h9 54 48 0 0 10) q k = pI h9 q k := fun q k hq => pI_md m10 (smemc (by omega) smem0)
    have a3 : ∀ q k, pI h3 q k = pI (zcp h1 50 44 0 0 8) q k := fun q k => pI_md m3 rfl
    have a5 : ∀ q k, pI h5 q k = pI (zcp h3 51 45 0 0 8) q k := fun q k => pI_md m5 rfl
    have a7 : ∀ q k, pI h7 q k = pI (zcp h5 52 46 0 0 8) q k := fun q k => pI_md m7 rfl
    have a9 : ∀ q k, pI h9 q k = pI (zcp h7 53 47 0 0 8) q k := fun q k => pI_md m9 rfl
    have a11 : ∀ q k, pI h11 q k = pI (zcp h9 54 48 0 0 10) q k := fun q k => pI_md m11 rfl
    have far : ∀ k, pI h11 43 k = pI h1 43 k := fun k => by
      rw [a11, n10 _ _ (by decide), a9, n8 _ _ (by decide), a7, n6 _ _ (by decide), a5, n4 _ _ (by decide), a3, n2 _ _ (by decide)]
    have farL : pL h11 43 1 = pL h1 43 1 := by
      rw [pL_md m11 rfl, pL_md m10 (smemc (by omega) smem0), pL_md m9 rfl, pL_md m8 (smemc (by omega) smem0), pL_md m7 rfl, pL_md m6 (smemc (by omega) smem0), pL_md m5 rfl, pL_md m4 (smemc (by omega) smem0), pL_md m3 rfl, pL_md m2 (smemc (by omega) smem0)]
    refine CS.mk (b := 43) (fun j hj => ?_) (fun j hj => ?_) (fun j hj => ?_) (fun j hj => ?_) (fun j hj => ?_) ⟨?_, ?_, ?_⟩ ?_
    · obtain ⟨d1, -⟩ := c1 j hj
      show pI h11 44 j = _
      rw [a11, n10 _ _ (by decide), a9, n8 _ _ (by decide), a7, n6 _ _ (by decide), a5, n4 _ _ (by decide), a3, zcp_at hj, q1 _ _ (by decide), Nat.zero_add]
      exact d1
    · obtain ⟨-, d1, -⟩ := c1 j hj
      show pI h11 45 j = _
      rw [a11, n10 _ _ (by decide), a9, n8 _ _ (by decide), a7, n6 _ _ (by decide), a5, zcp_at hj, a3, n2 _ _ (by decide), q1 _ _ (by decide), Nat.zero_add]
      exact d1
    · obtain ⟨-, -, d1, -⟩ := c1 j hj
      show pI h11 46 j = _
      rw [a11, n10 _ _ (by decide), a9, n8 _ _ (by decide), a7, zcp_at hj, a5, n4 _ _ (by decide), a3, n2 _ _ (by decide), q1 _ _ (by decide), Nat.zero_add]
      exact d1
    · obtain ⟨-, -, -, d1⟩ := c1 j hj
      show pI h11 47 j = _
      rw [a11, n10 _ _ (by decide), a9, zcp_at hj, a7, n6 _ _ (by decide), a5, n4 _ _ (by decide), a3, n2 _ _ (by decide), q1 _ _ (by decide), Nat.zero_add]
      exact d1
    · have d1 := c2 j hj
      show pI h11 48 j = _
      rw [a11, zcp_at hj, a9, n8 _ _ (by decide), a7, n6 _ _ (by decide), a5, n4 _ _ (by decide), a3, n2 _ _ (by decide), q1 _ _ (by decide), Nat.zero_add]
      exact d1
    · rw [far, k0]
      exact c3
    · rw [far, k2]
      exact c4
    · rw [farL, v0, v1]
      exact c5
    · rw [far, k3]
      exact ⟨c6, c7, c8⟩
theorem sIc : ((List.range 8).all fun k => (List.range 4).all fun q => decide (sIv swC (56 + q) k = (-2147483648, 2147483647))) = true := by decide +kernel
theorem sJc : ((List.range 10).all fun k => decide (sIv swC 60 k = sIv swC 48 k)) = true := by decide +kernel
theorem zCpyc {l : Launch} {Γ : zG} {d : Nat} {s : zSt} {h : zH} (hi : sInv swC h) (C : CS 43 s h) : zSem l Γ false (d + 1) (zhd 112) [.ref 55, .ref 43] h (fun r h' => r = none ∧ sInv swC h' ∧ sMd [(55, 0, 4), (56, 0, 8), (57, 0, 8), (58, 0, 8), (59, 0, 8), (60, 0, 10)] h h' ∧ CS 55 s h') := by
  have za := zac_k
  simp only [Bool.and_eq_true] at za
  obtain ⟨z1, z2, z3, z4, z5⟩ := za
  obtain ⟨c1, c2, ⟨c3, c4, c5⟩, c6, c7, c8⟩ := C
  have bd : ∀ q, 56 ≤ q → q ≤ 59 → ∀ {h : zH} {q0 : Nat} j, j < 8 → (sIv swC q j).1 ≤ pI h q0 (0 + j) ∧ pI h q0 (0 + j) ≤ (sIv swC q j).2 := fun q a b h q0 j hj => by
    have t := zall_r (zall_r sIc (k := j) (by omega)) (k := q - 56) (by omega)
    rw [show 56 + (q - 56) = q from by omega] at t
    rw [of_decide_eq_true t]
    exact i32bd _
  refine kdKc0 (d := d) (by omega) hi (i32e rfl) (i32e rfl) (i32e rfl) (i64e rfl) rfl rfl rfl rfl (fun lo1 h1 u0 x0 x1 x3 i1 m1 v0 v1 k3 k2 k0 l0 l1 y0 y1 y3 => ?_)
  refine zacp (sp := 0) (n := 8) z1 (by decide) (sh1C (n := 8) (by decide +kernel) i1) (sh1C (n := 8) (by decide +kernel) i1) y0 y1 y3 (by decide) (by decide) ?_
  have i2 := zcp_i (q0 := 44) (q1 := 56) (sp := 0) (n := 8) i1 (bd 56 (by decide) (by decide))
  have m2 := zcp_md (h := h1) (q0 := 44) (q1 := 56) (sp := 0) (n := 8)
  refine kdKc1 (d := d) (by omega) i2 l0 l1 (fun lo3 h3 x0 x1 x3 i3 m3 l0 l1 y0 y1 y3 => ?_)
  refine zacp (sp := 0) (n := 8) z2 (by decide) (sh1C (n := 8) (by decide +kernel) i3) (sh1C (n := 8) (by decide +kernel) i3) y0 y1 y3 (by decide) (by decide) ?_
  have i4 := zcp_i (q0 := 45) (q1 := 57) (sp := 0) (n := 8) i3 (bd 57 (by decide) (by decide))
  have m4 := zcp_md (h := h3) (q0 := 45) (q1 := 57) (sp := 0) (n := 8)
  refine kdKc2 (d := d) (by omega) i4 l0 l1 (fun lo5 h5 x0 x1 x3 i5 m5 l0 l1 y0 y1 y3 => ?_)
  refine zacp (sp := 0) (n := 8) z3 (by decide) (sh1C (n := 8) (by decide +kernel) i5) (sh1C (n := 8) (by decide +kernel) i5) y0 y1 y3 (by decide) (by decide) ?_
  have i6 := zcp_i (q0 := 46) (q1 := 58) (sp := 0) (n := 8) i5 (bd 58 (by decide) (by decide))
  have m6 := zcp_md (h := h5) (q0 := 46) (q1 := 58) (sp := 0) (n := 8)
  refine kdKc3 (d := d) (by omega) i6 l0 l1 (fun lo7 h7 x0 x1 x3 i7 m7 l0 l1 y0 y1 y3 => ?_)
  refine zacp (sp := 0) (n := 8) z4 (by decide) (sh1C (n := 8) (by decide +kernel) i7) (sh1C (n := 8) (by decide +kernel) i7) y0 y1 y3 (by decide) (by decide) ?_
  have i8 := zcp_i (q0 := 47) (q1 := 59) (sp := 0) (n := 8) i7 (bd 59 (by decide) (by decide))
  have m8 := zcp_md (h := h7) (q0 := 47) (q1 := 59) (sp := 0) (n := 8)
  refine kdKc4 (d := d) (by omega) i8 l0 l1 (fun lo9 h9 x0 x1 x3 i9 m9 l0 l1 y0 y1 y3 => ?_)
  refine zacp (sp := 0) (n := 10) z5 (by decide) (sh1C (n := 10) (by decide +kernel) i9) (sh1C (n := 10) (by decide +kernel) i9) y0 y1 y3 (by decide) (by decide) ?_
  have b9 : ∀ j, j < 10 → (sIv swC 60 j).1 ≤ pI h9 48 (0 + j) ∧ pI h9 48 (0 + j) ≤ (sIv swC 60 j).2 := fun j hj => by
    have t := zall_r sJc (k := j) hj
    have t2 := i9.2.2.1 48 j
    rw [← of_decide_eq_true t] at t2
    rw [Nat.zero_add]
    exact t2
  have i10 := zcp_i (q0 := 48) (q1 := 60) (sp := 0) (n := 10) i9 b9
  have m10 := zcp_md (h := h9) (q0 := 48) (q1 := 60) (sp := 0) (n := 10)
  refine kdKc5 (d := d) (by omega) i10 l0 l1 (fun h11 i11 m11 => ⟨rfl, i11, ?_, ?_⟩)
  · exact ((((((((((m1.sub rfl).seq (m2.sub rfl)).seq (m3.sub rfl)).seq (m4.sub rfl)).seq (m5.sub rfl)).seq (m6.sub rfl)).seq (m7.sub rfl)).seq (m8.sub rfl)).seq (m9.sub rfl)).seq (m10.sub rfl)).seq (m11.sub rfl)
  · have q1 : ∀ q k, q ≠ 55 → pI h1 q k = pI h q k := fun q k hq => pI_md m1 (smemc (by omega) (smemc (by omega) (smemc (by omega) (smemc (by omega) smem0))))
    have n2 : ∀ q k, q ≠ 56 → pI (zcp h1 44 56 0 0 8) q k = pI h1 q k := fun q k hq => pI_md m2 (smemc (by omega) smem0)
    have n4 : ∀ q k, q ≠ 57 → pI (zcp h3 45 57 0 0 8) q k = pI h3 q k := fun q k hq => pI_md m4 (smemc (by omega) smem0)
    have n6 : ∀ q k, q ≠ 58 → pI (zcp h5 46 58 0 0 8) q k = pI h5 q k := fun q k hq => pI_md m6 (smemc (by omega) smem0)
    have n8 : ∀ q k, q ≠ 59 → pI (zcp h7 47 59 0 0 8) q k = pI h7 q k := fun q k hq => pI_md m8 (smemc (by omega) smem0)
    have n10 : ∀ q k, q ≠ 60 → pI (zcp h9 48 60 0 0 10) q k = pI h9 q k := fun q k hq => pI_md m10 (smemc (by omega) smem0)
    have a3 : ∀ q k, pI h3 q k = pI (zcp h1 44 56 0 0 8) q k := fun q k => pI_md m3 rfl
    have a5 : ∀ q k, pI h5 q k = pI (zcp h3 45 57 0 0 8) q k := fun q k => pI_md m5 rfl
    have a7 : ∀ q k, pI h7 q k = pI (zcp h5 46 58 0 0 8) q k := fun q k => pI_md m7 rfl
    have a9 : ∀ q k, pI h9 q k = pI (zcp h7 47 59 0 0 8) q k := fun q k => pI_md m9 rfl
    have a11 : ∀ q k, pI h11 q k = pI (zcp h9 48 60 0 0 10) q k := fun q k => pI_md m11 rfl
    have far : ∀ k, pI h11 55 k = pI h1 55 k := fun k => by
      rw [a11, n10 _ _ (by decide), a9, n8 _ _ (by decide), a7, n6 _ _ (by decide), a5, n4 _ _ (by decide), a3, n2 _ _ (by decide)]
    have farL : pL h11 55 1 = pL h1 55 1 := by
      rw [pL_md m11 rfl, pL_md m10 (smemc (by omega) smem0), pL_md m9 rfl, pL_md m8 (smemc (by omega) smem0), pL_md m7 rfl, pL_md m6 (smemc (by omega) smem0), pL_md m5 rfl, pL_md m4 (smemc (by omega) smem0), pL_md m3 rfl, pL_md m2 (smemc (by omega) smem0)]
    refine CS.mk (b := 55) (fun j hj => ?_) (fun j hj => ?_) (fun j hj => ?_) (fun j hj => ?_) (fun j hj => ?_) ⟨?_, ?_, ?_⟩ ?_
    · obtain ⟨d1, -⟩ := c1 j hj
      show pI h11 56 j = _
      rw [a11, n10 _ _ (by decide), a9, n8 _ _ (by decide), a7, n6 _ _ (by decide), a5, n4 _ _ (by decide), a3, zcp_at hj, q1 _ _ (by decide), Nat.zero_add]
      exact d1
    · obtain ⟨-, d1, -⟩ := c1 j hj
      show pI h11 57 j = _
      rw [a11, n10 _ _ (by decide), a9, n8 _ _ (by decide), a7, n6 _ _ (by decide), a5, zcp_at hj, a3, n2 _ _ (by decide), q1 _ _ (by decide), Nat.zero_add]
      exact d1
    · obtain ⟨-, -, d1, -⟩ := c1 j hj
      show pI h11 58 j = _
      rw [a11, n10 _ _ (by decide), a9, n8 _ _ (by decide), a7, zcp_at hj, a5, n4 _ _ (by decide), a3, n2 _ _ (by decide), q1 _ _ (by decide), Nat.zero_add]
      exact d1
    · obtain ⟨-, -, -, d1⟩ := c1 j hj
      show pI h11 59 j = _
      rw [a11, n10 _ _ (by decide), a9, zcp_at hj, a7, n6 _ _ (by decide), a5, n4 _ _ (by decide), a3, n2 _ _ (by decide), q1 _ _ (by decide), Nat.zero_add]
      exact d1
    · have d1 := c2 j hj
      show pI h11 60 j = _
      rw [a11, zcp_at hj, a9, n8 _ _ (by decide), a7, n6 _ _ (by decide), a5, n4 _ _ (by decide), a3, n2 _ _ (by decide), q1 _ _ (by decide), Nat.zero_add]
      exact d1
    · rw [far, k0]
      exact c3
    · rw [far, k2]
      exact c4
    · rw [farL, v0, v1]
      exact c5
    · rw [far, k3]
      exact ⟨c6, c7, c8⟩
