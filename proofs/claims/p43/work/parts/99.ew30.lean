/-! what is done by call, told once: begin, flip, pour, dry and what was remembered -/
def coS (s : zSt) (f q : Nat) (z : Int) : zSt := stS (stS (stS s 1 f (s 1 f - z)) 4 f (s 4 f + z)) 0 q (s 0 q + z)
def unE (kd on ot gr : Int) (s : zSt) : zSt := if kd = 0 then swS s on.toNat else if kd = 1 then coS s on.toNat ot.toNat (-gr) else stS s 2 on.toNat 1
theorem swS_i (s : zSt) (g : Nat) : swS (swS s g) g = s := by
  funext a b
  unfold swS stS
  by_cases e1 : a = 1 ∧ b = g
  · obtain ⟨rfl, rfl⟩ := e1
    simp
  · by_cases e0 : a = 0 ∧ b = g
    · obtain ⟨rfl, rfl⟩ := e0
      simp
    · simp only [if_neg e1, if_neg e0]
theorem coS_i (s : zSt) (f q : Nat) (z : Int) : coS (coS s f q z) f q (-z) = s := by
  funext a b
  unfold coS stS
  by_cases e0 : a = 0 ∧ b = q
  · obtain ⟨rfl, rfl⟩ := e0
    simp
    try omega
  · by_cases e4 : a = 4 ∧ b = f
    · obtain ⟨rfl, rfl⟩ := e4
      simp
      try omega
    · by_cases e1 : a = 1 ∧ b = f
      · obtain ⟨rfl, rfl⟩ := e1
        simp
        try omega
      · simp only [if_neg e0, if_neg e4, if_neg e1]
theorem stS_ii {s : zSt} {k g : Nat} {v w : Int} (h : w = s k g) : stS (stS s k g v) k g w = s := by
  funext a b
  unfold stS
  by_cases e : a = k ∧ b = g
  · rw [if_pos e, e.1, e.2, h]
  · rw [if_neg e, if_neg e]
/-- the states: now, the image, how many are remembered, which -/
abbrev zSx : Type := zSt × zSt × Nat × (Nat → zSt)
def atU (X : zSx) (k : Nat) : zSt := if k < X.2.2.1 then X.2.2.2 k else X.1
/-- one more is remembered, the state is s' -/
def puX (X : zSx) (s' : zSt) : zSx := if X.2.2.1 < 20 then (s', X.2.1, X.2.2.1 + 1, fun k => if k = X.2.2.1 then X.1 else X.2.2.2 k) else (s', X.2.1, 20, fun k => if k = 19 then X.1 else X.2.2.2 (k + 1))
/-- zeros where no GLASS is told -/
def ZB (S : zS) (s : zSt) : Prop := (∀ g, S 1 ≤ g → g < 8 → ∀ k, k < 5 → s k g = 0) ∧ ∀ p, S 3 ≤ p → s 5 p = 0
def XB (S : zS) (n : Int) (X : zSx) : Prop := (SB n X.1 ∧ ZB S X.1) ∧ (SB n X.2.1 ∧ ZB S X.2.1) ∧ X.2.2.1 ≤ 20 ∧ ∀ k, k < X.2.2.1 → (SB n (X.2.2.2 k) ∧ ZB S (X.2.2.2 k)) ∧ ∀ a, a = 3 ∨ a = 5 ∨ a = 6 → X.2.2.2 k a = X.1 a
/-- the class's remembered calls -/
def UC (X : zSx) (h : zH) : Prop := pI h 86 4 = (X.2.2.1 : Int) ∧ ∀ k, k < X.2.2.1 → (0 ≤ pI h 87 k ∧ pI h 87 k ≤ 2) ∧ (0 ≤ pI h 88 k ∧ pI h 88 k ≤ 7) ∧ (0 ≤ pI h 89 k ∧ pI h 89 k ≤ 7) ∧ (0 ≤ pI h 90 k ∧ pI h 90 k ≤ 999) ∧ unE (pI h 87 k) (pI h 88 k) (pI h 89 k) (pI h 90 k) (atU X (k + 1)) = X.2.2.2 k
/-- the class's states -/
def SC (t : Nat) (N : zN) (S : zS) (X : zSx) (h : zH) : Prop := CTl t N S h ∧ CS 43 X.1 h ∧ (pI h 0 9 = 1 → CS 49 X.2.1 h) ∧ UC X h
theorem UC.md {X : zSx} {h h' : zH} {md : sM} (hU : UC X h) (hm : sMd md h h') (hb : ∀ q, 86 ≤ q → q ≤ 90 → ∀ j, smem md q j = false) : UC X h' := by
  have k : ∀ q, 86 ≤ q → q ≤ 90 → ∀ j, pI h' q j = pI h q j := fun q a b j => pI_md hm (hb q a b j)
  refine ⟨(k 86 (by decide) (by decide) 4).trans hU.1, fun j hj => ?_⟩
  rw [k 87 (by decide) (by decide), k 88 (by decide) (by decide), k 89 (by decide) (by decide), k 90 (by decide) (by decide)]
  exact hU.2 j hj
theorem wbN_tab : ((List.range 256).all fun w => (List.range 8).all fun g => ((decide (0 ≤ sgfn 2 w (sgfn 1 (sgfn 3 1 g) (-1))) && decide (sgfn 2 w (sgfn 1 (sgfn 3 1 g) (-1)) < 256)) && (List.range 8).all fun j => decide (wbT (sgfn 2 w (sgfn 1 (sgfn 3 1 g) (-1))) j = if j = g then 0 else wbT w j))) = true := by decide +kernel
theorem wbN {w : Int} (h0 : 0 ≤ w) (h1 : w < 256) {g : Nat} (hg : g < 8) : (0 ≤ sgfn 2 w (sgfn 1 (sgfn 3 1 (g : Int)) (-1)) ∧ sgfn 2 w (sgfn 1 (sgfn 3 1 (g : Int)) (-1)) < 256) ∧ ∀ j, j < 8 → wbT (sgfn 2 w (sgfn 1 (sgfn 3 1 (g : Int)) (-1))) j = if j = g then 0 else wbT w j := by
  obtain ⟨n, rfl⟩ : ∃ n : Nat, w = (n : Int) := ⟨w.toNat, by omega⟩
  have t := List.all_eq_true.mp wbN_tab n (List.mem_range.mpr (by omega))
  have t2 := List.all_eq_true.mp t g (List.mem_range.mpr hg)
  simp only [Bool.and_eq_true, decide_eq_true_eq] at t2
  exact ⟨t2.1, fun j hj => by
    have t3 := List.all_eq_true.mp t2.2 j (List.mem_range.mpr hj)
    exact of_decide_eq_true t3⟩
/-! swap, carryOver of the state now (nothing else is written) -/
theorem CS.sw {s : zSt} {h : zH} (hi : sInv swC h) (C : CS 43 s h) {l : Launch} {Γ : zG} {d g : Nat} (hg : g < 8) {x : Int32} (hx : x.toInt = (g : Int)) : zSem l Γ false (d + 1) (zhd 92) [.ref 43, .int x] h (fun r h' => r = none ∧ sInv swC h' ∧ sMd [(44, g, g + 1), (45, g, g + 1)] h h' ∧ CS 43 (swS s g) h') := by
  obtain ⟨b1, b2, -, -⟩ := C.1 g hg
  refine kcSw (u := 0) (Nat.zero_le _) hg (by decide) hi (i32e b1) (i32e b2) hx b1 b2 (fun h' i1 m1 k1 k0 => ⟨rfl, i1, m1, ?_⟩)
  refine CS.mk (b := 43) (fun j hj => ?_) (fun j hj => ?_) (C.k3 m1 (fun j => smemc (by omega) (smemc (by omega) smem0))) (C.k4 m1 (fun j => smemc (by omega) (smemc (by omega) smem0))) (C.k5 m1 (fun j => smemc (by omega) (smemc (by omega) smem0))) (C.k6 m1 (fun j hj => smemc (by omega) (smemc (by omega) smem0))) (C.k2 m1 (smemc (by omega) (smemc (by omega) smem0)))
  · obtain ⟨c1, c2, -, -⟩ := C.1 j hj
    unfold swS
    by_cases e : j = g
    · subst e
      rw [stS_n (by omega), stS_s]
      exact k0
    · rw [stS_n (by omega), stS_n (by omega)]
      exact (pI_md m1 (smemc (by omega) (smemc (by omega) smem0))).trans c1
  · obtain ⟨c1, c2, -, -⟩ := C.1 j hj
    unfold swS
    by_cases e : j = g
    · subst e
      rw [stS_s]
      exact k1
    · rw [stS_n (by omega), stS_n (by omega)]
      exact (pI_md m1 (smemc (by omega) (smemc (by omega) smem0))).trans c2
theorem CS.co {s : zSt} {h : zH} (hi : sInv swC h) (C : CS 43 s h) {n : Int} (hB : SB n s) (hn : n ≤ 2000000000) {l : Launch} {Γ : zG} {d f q : Nat} (hf : f < 8) (hq : q < 8) {z : Int} (hz : -999 ≤ z ∧ z ≤ 999) {x y w : Int32} (hx : x.toInt = (f : Int)) (hy : y.toInt = (q : Int)) (hw : w.toInt = z) : zSem l Γ false (d + 1) (zhd 96) [.ref 43, .int x, .int y, .int w] h (fun r h' => r = none ∧ sInv swC h' ∧ sMd (kdC_m f q) h h' ∧ CS 43 (coS s f q z) h') := by
  obtain ⟨-, b2, -, b4⟩ := C.1 f hf
  obtain ⟨a1, -, -, -⟩ := C.1 q hq
  obtain ⟨-, w1, -, -, w4⟩ := hB.1 f hf
  have w0 := (hB.1 q hq).1
  refine kdC (Nat.zero_le _) hf hq hi hz w1 ⟨by omega, by omega⟩ w0 hx hy hw b2 b4 a1 (fun h' i1 m1 k0 k4 k1 => ⟨rfl, i1, m1, ?_⟩)
  refine CS.mk (b := 43) (upS (s := stS (stS s 1 f (s 1 f - z)) 4 f (s 4 f + z)) (fun g hg hn => (pI_md m1 (smemc (by omega) (smemc (by omega) (smemc (by omega) smem0)))).trans (C.1 g hg).1) (k0.trans (Int.add_comm _ _))) (upS (s := s) (fun g hg hn => (pI_md m1 (smemc (by omega) (smemc (by omega) (smemc (by omega) smem0)))).trans (C.1 g hg).2.1) (k1.trans (by omega))) (C.k3 m1 (fun j => smemc (by omega) (smemc (by omega) (smemc (by omega) smem0)))) (upS (s := stS s 1 f (s 1 f - z)) (fun g hg hn => (pI_md m1 (smemc (by omega) (smemc (by omega) (smemc (by omega) smem0)))).trans (C.1 g hg).2.2.2) (k4.trans (Int.add_comm _ _))) (C.k5 m1 (fun j => smemc (by omega) (smemc (by omega) (smemc (by omega) smem0)))) (C.k6 m1 (fun j hj => smemc (by omega) (smemc (by omega) (smemc (by omega) smem0)))) (C.k2 m1 (smemc (by omega) (smemc (by omega) (smemc (by omega) smem0))))
/-! the oldest is forgotten -/
theorem kdA0_s : ((List.range 20).all fun n => ssubB (kdA0_m n) [(86, 4, 5), (87, 0, 20), (88, 0, 20), (89, 0, 20), (90, 0, 20)]) = true := by decide
theorem zv_kda : zcvB 93 10 10 0 94 = true := by decide +kernel
theorem shU {h : zH} (hi : sInv swC h) : h.1[86]? = some (0, 10) := by
  rw [hi.1]
  rfl
theorem sh1C {q n : Nat} (e : swC.1[q]? = some (1, n)) {h : zH} (hi : sInv swC h) : h.1[q]? = some (1, n) := by
  rw [hi.1]
  exact e
theorem zac_f : (zacB 94 20 && (zacB 94 37 && (zacB 94 54 && zacB 94 71))) = true := by decide +kernel
theorem sI87 : ((List.range 20).all fun k => (List.range 4).all fun q => decide (sIv swC (87 + q) k = (-2147483648, 2147483647))) = true := by decide +kernel
theorem zForget {l : Launch} {Γ : zG} {d : Nat} {h : zH} (hi : sInv swC h) : zSem l Γ false (d + 1) (zhd 94) [.ref 86] h (fun r h' => r = none ∧ sInv swC h' ∧ sMd [(86, 4, 5), (87, 0, 20), (88, 0, 20), (89, 0, 20), (90, 0, 20)] h h' ∧ pI h' 86 4 = 19 ∧ ∀ q, 87 ≤ q → q ≤ 90 → ∀ k, k < 19 → pI h' q k = pI h q (k + 1)) := by
  have za := zac_f
  simp only [Bool.and_eq_true] at za
  obtain ⟨z1, z2, z3, z4⟩ := za
  have bd : ∀ q, 87 ≤ q → q ≤ 90 → ∀ {h : zH} j, j < 19 → (sIv swC q j).1 ≤ pI h q (1 + j) ∧ pI h q (1 + j) ≤ (sIv swC q j).2 := fun q a b h j hj => by
    have t := zall_r (zall_r sI87 (k := j) (by omega)) (k := q - 87) (by omega)
    rw [show 87 + (q - 87) = q from by omega] at t
    rw [of_decide_eq_true t]
    exact i32bd _
  refine kdZ0 (d := d) (by omega) hi (fun lo1 h1 x0 x1 x3 i1 m1 e4 l0 y0 y1 y3 => ?_)
  refine zacp (sp := 1) (n := 19) z1 (by decide) (sh1C (n := 20) (by decide +kernel) i1) (sh1C (n := 20) (by decide +kernel) i1) y0 y1 y3 (by decide) (by decide) ?_
  have i2 := zcp_i (q0 := 87) (q1 := 87) (sp := 1) (n := 19) i1 (bd 87 (by decide) (by decide))
  have m2 := zcp_md (h := h1) (q0 := 87) (q1 := 87) (sp := 1) (n := 19)
  refine kdZ1 (d := d) (by omega) i2 l0 ((pI_md m2 (smemc (by omega) smem0)).trans e4) (fun lo3 h3 x0 x1 x3 i3 m3 l0 y0 y1 y3 => ?_)
  refine zacp (sp := 1) (n := 19) z2 (by decide) (sh1C (n := 20) (by decide +kernel) i3) (sh1C (n := 20) (by decide +kernel) i3) y0 y1 y3 (by decide) (by decide) ?_
  have i4 := zcp_i (q0 := 88) (q1 := 88) (sp := 1) (n := 19) i3 (bd 88 (by decide) (by decide))
  have m4 := zcp_md (h := h3) (q0 := 88) (q1 := 88) (sp := 1) (n := 19)
  have e5 : pI (zcp h3 88 88 1 0 19) 86 4 = 19 := ((pI_md m4 (smemc (by omega) smem0)).trans (pI_md m3 rfl)).trans ((pI_md m2 (smemc (by omega) smem0)).trans e4)
  refine kdZ2 (d := d) (by omega) i4 l0 e5 (fun lo5 h5 x0 x1 x3 i5 m5 l0 y0 y1 y3 => ?_)
  refine zacp (sp := 1) (n := 19) z3 (by decide) (sh1C (n := 20) (by decide +kernel) i5) (sh1C (n := 20) (by decide +kernel) i5) y0 y1 y3 (by decide) (by decide) ?_
  have i6 := zcp_i (q0 := 89) (q1 := 89) (sp := 1) (n := 19) i5 (bd 89 (by decide) (by decide))
  have m6 := zcp_md (h := h5) (q0 := 89) (q1 := 89) (sp := 1) (n := 19)
  have e7 : pI (zcp h5 89 89 1 0 19) 86 4 = 19 := ((pI_md m6 (smemc (by omega) smem0)).trans (pI_md m5 rfl)).trans e5
  refine kdZ3 (d := d) (by omega) i6 l0 e7 (fun lo7 h7 x0 x1 x3 i7 m7 l0 y0 y1 y3 => ?_)
  refine zacp (sp := 1) (n := 19) z4 (by decide) (sh1C (n := 20) (by decide +kernel) i7) (sh1C (n := 20) (by decide +kernel) i7) y0 y1 y3 (by decide) (by decide) ?_
  have i8 := zcp_i (q0 := 90) (q1 := 90) (sp := 1) (n := 19) i7 (bd 90 (by decide) (by decide))
  have m8 := zcp_md (h := h7) (q0 := 90) (q1 := 90) (sp := 1) (n := 19)
  have e9 : pI (zcp h7 90 90 1 0 19) 86 4 = 19 := ((pI_md m8 (smemc (by omega) smem0)).trans (pI_md m7 rfl)).trans e7
  refine kdZ4 (d := d) (by omega) i8 l0 (fun h9 i9 m9 => ⟨rfl, i9, ?_, (pI_md m9 rfl).trans e9, fun q a b k hk => ?_⟩)
  · exact (((((((((m1.sub rfl).seq (m2.sub rfl)).seq (m3.sub rfl)).seq (m4.sub rfl)).seq (m5.sub rfl)).seq (m6.sub rfl)).seq (m7.sub rfl)).seq (m8.sub rfl)).seq (m9.sub rfl))
  · have k1 : ∀ q k, q ≠ 86 → pI h1 q k = pI h q k := fun q k hq => pI_md m1 (smemc (by omega) smem0)
    have n2 : ∀ q k, q ≠ 87 → pI (zcp h1 87 87 1 0 19) q k = pI h1 q k := fun q k hq => pI_md m2 (smemc (by omega) smem0)
    have n4 : ∀ q k, q ≠ 88 → pI (zcp h3 88 88 1 0 19) q k = pI h3 q k := fun q k hq => pI_md m4 (smemc (by omega) smem0)
    have n6 : ∀ q k, q ≠ 89 → pI (zcp h5 89 89 1 0 19) q k = pI h5 q k := fun q k hq => pI_md m6 (smemc (by omega) smem0)
    have n8 : ∀ q k, q ≠ 90 → pI (zcp h7 90 90 1 0 19) q k = pI h7 q k := fun q k hq => pI_md m8 (smemc (by omega) smem0)
    have a3 : ∀ q k, pI h3 q k = pI (zcp h1 87 87 1 0 19) q k := fun q k => pI_md m3 rfl
    have a5 : ∀ q k, pI h5 q k = pI (zcp h3 88 88 1 0 19) q k := fun q k => pI_md m5 rfl
    have a7 : ∀ q k, pI h7 q k = pI (zcp h5 89 89 1 0 19) q k := fun q k => pI_md m7 rfl
    have a9 : pI h9 q k = pI (zcp h7 90 90 1 0 19) q k := pI_md m9 rfl
    rw [a9]
    rcases (by omega : q = 87 ∨ q = 88 ∨ q = 89 ∨ q = 90) with rfl | rfl | rfl | rfl
    · rw [n8 _ _ (by decide), a7, n6 _ _ (by decide), a5, n4 _ _ (by decide), a3, zcp_at hk, k1 _ _ (by decide), Nat.add_comm]
    · rw [n8 _ _ (by decide), a7, n6 _ _ (by decide), a5, zcp_at hk, a3, n2 _ _ (by decide), k1 _ _ (by decide), Nat.add_comm]
    · rw [n8 _ _ (by decide), a7, zcp_at hk, a5, n4 _ _ (by decide), a3, n2 _ _ (by decide), k1 _ _ (by decide), Nat.add_comm]
    · rw [zcp_at hk, a7, n6 _ _ (by decide), a5, n4 _ _ (by decide), a3, n2 _ _ (by decide), k1 _ _ (by decide), Nat.add_comm]
/-! one more is remembered -/
theorem UC.pu {X : zSx} {s' : zSt} {h : zH} (hi : sInv swC h) (hU : UC X h) (hX : X.2.2.1 ≤ 20) {l : Launch} {Γ : zG} {d : Nat} {kd on ot gr : Int} (b0 : 0 ≤ kd ∧ kd ≤ 2) (b1 : 0 ≤ on ∧ on ≤ 7) (b2 : 0 ≤ ot ∧ ot ≤ 7) (b3 : 0 ≤ gr ∧ gr ≤ 999) (he : unE kd on ot gr s' = X.1) {x0 x1 x2 x3 : Int32} (e0 : x0.toInt = kd) (e1 : x1.toInt = on) (e2 : x2.toInt = ot) (e3 : x3.toInt = gr) : zSem l Γ false (d + 2) (zhd 93) [.ref 86, .int x0, .int x1, .int x2, .int x3] h (fun r h' => r = none ∧ sInv swC h' ∧ sMd [(86, 4, 5), (87, 0, 20), (88, 0, 20), (89, 0, 20), (90, 0, 20)] h h' ∧ UC (puX X s') h') := by
  by_cases hn : X.2.2.1 < 20
  · have ep : puX X s' = (s', X.2.1, X.2.2.1 + 1, fun k => if k = X.2.2.1 then X.1 else X.2.2.2 k) := if_pos hn
    rw [ep]
    refine kdA0 (d := d + 1) (by omega) hn hi b0 b1 b2 b3 e0 e1 e2 e3 hU.1 (fun h' i1 m1 k4 k90 k89 k88 k87 => ⟨rfl, i1, m1.sub (zall_r kdA0_s hn), ?_⟩)
    refine ⟨k4, fun k hk => ?_⟩
    have hk : k < X.2.2.1 + 1 := hk
    by_cases e : k = X.2.2.1
    · subst e
      have ea : atU (s', X.2.1, X.2.2.1 + 1, fun k => if k = X.2.2.1 then X.1 else X.2.2.2 k) (X.2.2.1 + 1) = s' := if_neg (Nat.lt_irrefl _)
      rw [ea, k87, k88, k89, k90]
      exact ⟨b0, b1, b2, b3, by rw [he]; exact (if_pos rfl).symm⟩
    · have hk' : k < X.2.2.1 := by omega
      have f : ∀ q, 87 ≤ q → q ≤ 90 → pI h' q k = pI h q k := fun q a b => pI_md m1 (smemc (by omega) (smemc (by omega) (smemc (by omega) (smemc (by omega) (smemc (by omega) smem0)))))
      rw [f 87 (by decide) (by decide), f 88 (by decide) (by decide), f 89 (by decide) (by decide), f 90 (by decide) (by decide)]
      obtain ⟨a0, a1, a2, a3, a4⟩ := hU.2 k hk'
      refine ⟨a0, a1, a2, a3, ?_⟩
      have ea : atU (s', X.2.1, X.2.2.1 + 1, fun k => if k = X.2.2.1 then X.1 else X.2.2.2 k) (k + 1) = atU X (k + 1) := by
        unfold atU
        show (if k + 1 < X.2.2.1 + 1 then (if k + 1 = X.2.2.1 then X.1 else X.2.2.2 (k + 1)) else s') = (if k + 1 < X.2.2.1 then X.2.2.2 (k + 1) else X.1)
        rw [if_pos (by omega)]
        by_cases e2 : k + 1 = X.2.2.1
        · rw [if_pos e2, if_neg (by omega)]
        · rw [if_neg e2, if_pos (by omega)]
      rw [ea, a4]
      exact (if_neg e).symm
  · have h20 : X.2.2.1 = 20 := by omega
    have ep : puX X s' = (s', X.2.1, 20, fun k => if k = 19 then X.1 else X.2.2.2 (k + 1)) := if_neg hn
    rw [ep]
    have q4 : pI h 86 4 = 20 := by
      rw [hU.1, h20]
      rfl
    refine kdA1 (d := d + 1) (by omega) hi b0 b1 b2 b3 e0 e1 e2 e3 q4 (fun lo1 h1 i1 m1 l0 l1 l2 l3 l4 => ?_)
    refine zcallR (mi := 93) (as := []) (rest := []) (q0 := 86) zv_kda rfl (by decide) (shU i1) ?_
    refine (zForget (d := d) i1).mono (fun v h2 hv => ?_)
    obtain ⟨rfl, i2, m2, f4, f0⟩ := hv
    refine kdA2 (d := d + 1) (by omega) i2 b0 b1 b2 b3 l0 l1 l2 l3 l4 f4 (fun h3 i3 m3 k4 k90 k89 k88 k87 => ⟨rfl, i3, ((m1.sub rfl).seq m2).seq (m3.sub rfl), ?_⟩)
    refine ⟨k4, fun k hk => ?_⟩
    have hk : k < 20 := hk
    by_cases e : k = 19
    · subst e
      have ea : atU (s', X.2.1, 20, fun k => if k = 19 then X.1 else X.2.2.2 (k + 1)) (19 + 1) = s' := rfl
      rw [ea, k87, k88, k89, k90]
      exact ⟨b0, b1, b2, b3, by rw [he]; rfl⟩
    · have f : ∀ q, 87 ≤ q → q ≤ 90 → pI h3 q k = pI h q (k + 1) := fun q a b => ((pI_md m3 (smemc (by omega) (smemc (by omega) (smemc (by omega) (smemc (by omega) (smemc (by omega) smem0)))))).trans (f0 q a b k (by omega))).trans (pI_md m1 rfl)
      rw [f 87 (by decide) (by decide), f 88 (by decide) (by decide), f 89 (by decide) (by decide), f 90 (by decide) (by decide)]
      obtain ⟨a0, a1, a2, a3, a4⟩ := hU.2 (k + 1) (by omega)
      refine ⟨a0, a1, a2, a3, ?_⟩
      have ea : atU (s', X.2.1, 20, fun k => if k = 19 then X.1 else X.2.2.2 (k + 1)) (k + 1) = atU X (k + 1 + 1) := by
        unfold atU
        show (if k + 1 < 20 then (if k + 1 = 19 then X.1 else X.2.2.2 (k + 1 + 1)) else s') = (if k + 1 + 1 < X.2.2.1 then X.2.2.2 (k + 1 + 1) else X.1)
        rw [if_pos (by omega)]
        by_cases e2 : k + 1 = 19
        · rw [if_pos e2, if_neg (by omega)]
        · rw [if_neg e2, if_pos (by omega)]
      rw [ea, a4]
      exact (if_neg e).symm
