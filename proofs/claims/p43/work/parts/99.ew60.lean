def kqJ2_L : List sT := [.inr (.inl 91)]
def kqJ2_A : sAs := ([], [], [], [])
def kqJ2_P : List sP0 := [(91, (none, 6), (0, 24)), (91, (none, 7), ((-1), 24))]
def kqJ2_G : List sP0 := []
def kqJ2_B : List (Nat × Nat × Int) := [(0, 1, 0)]
def kqJ2_m : sM := []
def kqJ2_r0 : sXr := (some (.inl sf32), sA0, [], ([], [(0, ([(0, 1)], 0))], [], [([(1, 1)], 1), ([(1, (-1))], (-1))]), [], [])
def kqJ2_r1 : sXr := (some (.inl sf32), sA0, [], ([], [(0, ([(1, 1)], 0))], [], []), [(([(1, 1)], 0), ([], (-1)))], [])
theorem kqJ2_b : syfB swC sT0 kqJ2_m 400 0 165 kqJ2_L kqJ2_A kqJ2_P kqJ2_G kqJ2_B [] [kqJ2_r0, kqJ2_r1] = true := by decide +kernel
theorem kqJ2 {l : Launch} {Γ : zG} {d : Nat} (hd : 0 ≤ d) {Kp : Option Value → zH → Prop} {h : zH} {sz kb : Int} (hi : sInv swC h) (b_sz : 0 ≤ sz ∧ sz ≤ 24) (b_kb : (-1) ≤ kb ∧ kb ≤ 24) (p_sz : pI h 91 6 = sz) (p_kb : pI h 91 7 = kb) (d0 : 0 ≤ sz - kb)
    (hR0 : ∀ (h' : zH) (r_ : Int32), sInv swC h' → sMd kqJ2_m h h' → kb = (-1) → r_.toInt = sz → Kp (some (.int r_)) h')
    (hR1 : ∀ (h' : zH) (r_ : Int32), sInv swC h' → sMd kqJ2_m h h' → kb ≠ (-1) → r_.toInt = kb → Kp (some (.int r_)) h') : zSem l Γ false (d + 1) (zhd 165) [.ref 91] h Kp := by
  refine syf_ok (mi := 165) (fun i => [sz, kb].getD i 0) kqJ2_b (fun _ _ hc _ => nomatch hc) hd ⟨_, _, rfl, rfl, rfl⟩ ⟨rfl, trivial⟩ ⟨(fun _ hc => nomatch hc), (fun _ hc => nomatch hc), (fun _ hc => nomatch hc), Or.inl rfl⟩ ⟨⟨p_sz, by show 0 ≤ sz; omega, by show sz ≤ 24; omega⟩, ⟨p_kb, by show (-1) ≤ kb; omega, by show kb ≤ 24; omega⟩, trivial⟩ trivial (sfm d0 (fun _ hc => nomatch hc)) hi ?_ ?_
  · intro e he lo' st' h' hp hi' hm
    cases he
  · intro e he r' h' hp hi' hm
    rcases List.mem_cons.mp he with rfl | he
    · obtain ⟨p1, -, hz⟩ := hp
      obtain ⟨⟨z1, z2, z3, z4⟩, z5, z6⟩ := hz
      have c0 : kb = (-1) := by have q_ : (0 : Int) ≤ (1 * kb + 0) + 1 := z4 ([(1, 1)], 1) (List.mem_of_getElem? (i := 0) rfl); have q2_ : (0 : Int) ≤ ((-1) * kb + 0) + (-1) := z4 ([(1, (-1))], (-1)) (List.mem_of_getElem? (i := 1) rfl); omega
      obtain ⟨r_, rfl, hv⟩ := ansI p1 (z2 (0, ([(0, 1)], 0)) (List.mem_of_getElem? (i := 0) rfl))
      have s0 : r_.toInt = sz := (show r_.toInt = (1 * sz + 0) + 0 from hv).trans (by omega)
      exact hR0 h' r_ hi' hm c0 s0
    rcases List.mem_cons.mp he with rfl | he
    · obtain ⟨p1, -, hz⟩ := hp
      obtain ⟨⟨z1, z2, z3, z4⟩, z5, z6⟩ := hz
      have n0 : kb ≠ (-1) := fun e_ => z5 (([(1, 1)], 0), ([], (-1))) (List.mem_of_getElem? (i := 0) rfl) (by show (1 * kb + 0) + 0 = 0 + (-1); omega)
      obtain ⟨r_, rfl, hv⟩ := ansI p1 (z2 (0, ([(1, 1)], 0)) (List.mem_of_getElem? (i := 0) rfl))
      have s0 : r_.toInt = kb := (show r_.toInt = (1 * kb + 0) + 0 from hv).trans (by omega)
      exact hR1 h' r_ hi' hm n0 s0
    cases he
def kqU0_L (t : Nat) : List sT := [.inr (.inl 0), .inl sf32, .inl sf32]
def kqU0_A (t : Nat) : sAs := ([], [(0, 5, (17 * t + 9))], [], [])
def kqU0_P (t : Nat) : List sP0 := [((17 * t + 12), (none, 3), (0, 8))]
def kqU0_G (t : Nat) : List sP0 := []
def kqU0_B (t : Nat) : List (Nat × Nat × Int) := []
def kqU0_m (t : Nat) : sM := []
def kqU0_e0 (t : Nat) : sXe := (21, [], [(0, .inr (.inl 0)), (1, .inl sf32), (2, .inl sf32)], sA0, [], ([], [], [(1, ([(0, 1)], 0)), (2, ([(1, 1)], 0))], [([(0, 1)], 0), ([(0, (-1))], 2), ([(1, 1)], 0), ([(1, (-1))], 7), ([(1, (-1)), (2, 1)], (-1))]), [], [])
def kqU0_r0 (t : Nat) : sXr := (some (.inr (.inr sf64)), sA0, [], ([], [(0, ([], (-9223372036854775808)))], [], [([(0, (-1))], (-1))]), [], [])
def kqU0_r1 (t : Nat) : sXr := (some (.inr (.inr sf64)), sA0, [], ([], [(0, ([], (-9223372036854775808)))], [], [([(0, 1)], 0), ([(0, (-1))], 2), ([(1, (-1))], (-1))]), [], [])
def kqU0_r2 (t : Nat) : sXr := (some (.inr (.inr sf64)), sA0, [], ([], [(0, ([], (-9223372036854775808)))], [], [([(0, 1)], 0), ([(0, (-1))], 2), ([(1, 1)], 0), ([(1, 1)], (-8))]), [], [])
def kqU0_r3 (t : Nat) : sXr := (some (.inr (.inr sf64)), sA0, [], ([], [(0, ([], (-9223372036854775808)))], [], [([(0, 1)], 0), ([(0, (-1))], 2), ([(1, 1)], 0), ([(1, (-1))], 7), ([(1, 1), (2, (-1))], 0)]), [], [])
def kqU0_r4 (t : Nat) : sXr := (some (.inr (.inr sf64)), sA0, [], ([], [(0, ([], (-9223372036854775808)))], [], [([(0, 1)], 0), ([(0, 1)], (-3))]), [], [])
theorem kqU0_b : ((List.range 2).all fun t => syfB swC sT0 (kqU0_m t) 400 1 83 (kqU0_L t) (kqU0_A t) (kqU0_P t) (kqU0_G t) (kqU0_B t) [kqU0_e0 t] [kqU0_r0 t, kqU0_r1 t, kqU0_r2 t, kqU0_r3 t, kqU0_r4 t]) = true := by decide +kernel
theorem kqU0 {l : Launch} {Γ : zG} {d : Nat} (hd : 1 ≤ d) {Kp : Option Value → zH → Prop} {h : zH} {t : Nat} (h_t : t < 2) {x y n : Int} (hi : sInv swC h) (b_x : (-2147483648) ≤ x ∧ x ≤ 2147483647) (b_y : (-2147483648) ≤ y ∧ y ≤ 2147483647) (b_n : 0 ≤ n ∧ n ≤ 8) {x_x : Int32} (e_x : x_x.toInt = x) {x_y : Int32} (e_y : x_y.toInt = y) (p_n : pI h (17 * t + 12) 3 = n) (q0 : h.2.2.2 0 5 = some (17 * t + 9))
    (hE0 : ∀ (lo' : zL) (h' : zH), sInv swC h' → sMd (kqU0_m t) h h' → 0 ≤ x → 0 ≤ -x + 2 → 0 ≤ y → 0 ≤ -y + 7 → 0 ≤ -y + n - 1 → zget lo' 0 = some (.ref 0) → zI lo' 1 x → zI lo' 2 y → zX l Γ false (d + 1) (zhd 83) (zMQ' Γ false (zhd 83) Kp) 0 0 21 lo' [] h')
    (hR0 : ∀ (h' : zH) (r_ : Int64), sInv swC h' → sMd (kqU0_m t) h h' → 0 ≤ -x - 1 → r_.toInt = (-9223372036854775808) → Kp (some (.long r_)) h')
    (hR1 : ∀ (h' : zH) (r_ : Int64), sInv swC h' → sMd (kqU0_m t) h h' → 0 ≤ x → 0 ≤ -x + 2 → 0 ≤ -y - 1 → r_.toInt = (-9223372036854775808) → Kp (some (.long r_)) h')
    (hR2 : ∀ (h' : zH) (r_ : Int64), sInv swC h' → sMd (kqU0_m t) h h' → 0 ≤ x → 0 ≤ -x + 2 → 0 ≤ y → 0 ≤ y - 8 → r_.toInt = (-9223372036854775808) → Kp (some (.long r_)) h')
    (hR3 : ∀ (h' : zH) (r_ : Int64), sInv swC h' → sMd (kqU0_m t) h h' → 0 ≤ x → 0 ≤ -x + 2 → 0 ≤ y → 0 ≤ -y + 7 → 0 ≤ y - n → r_.toInt = (-9223372036854775808) → Kp (some (.long r_)) h')
    (hR4 : ∀ (h' : zH) (r_ : Int64), sInv swC h' → sMd (kqU0_m t) h h' → 0 ≤ x → 0 ≤ x - 3 → r_.toInt = (-9223372036854775808) → Kp (some (.long r_)) h') : zSem l Γ false (d + 1) (zhd 83) [.ref 0, .int x_x, .int x_y] h Kp := by
  refine syf_ok (mi := 83) (fun i => [x, y, n].getD i 0) (zall_r kqU0_b h_t) (fun _ _ hc _ => nomatch hc) hd ⟨_, _, rfl, rfl, ⟨_, _, rfl, ⟨x_x, rfl, by show (-2147483648) ≤ x_x.toInt; omega, by show x_x.toInt ≤ 2147483647; omega⟩, ⟨_, _, rfl, ⟨x_y, rfl, by show (-2147483648) ≤ x_y.toInt; omega, by show x_y.toInt ≤ 2147483647; omega⟩, rfl⟩⟩⟩ ⟨rfl, ⟨x_x, rfl, e_x, by show (-2147483648) ≤ x; omega, by show x ≤ 2147483647; omega⟩, ⟨x_y, rfl, e_y, by show (-2147483648) ≤ y; omega, by show y ≤ 2147483647; omega⟩, trivial⟩ ⟨(fun _ hc => nomatch hc), (sfm q0 (fun _ hc => nomatch hc)), (fun _ hc => nomatch hc), Or.inl rfl⟩ ⟨⟨p_n, by show 0 ≤ n; omega, by show n ≤ 8; omega⟩, trivial⟩ trivial (fun _ hc => nomatch hc) hi ?_ ?_
  · intro e he lo' st' h' hp hi' hm
    rcases List.mem_cons.mp he with rfl | he
    · obtain ⟨p1, p2, -, hz⟩ := hp
      obtain ⟨⟨z1, z2, z3, z4⟩, z5, z6⟩ := hz
      have c0 : 0 ≤ x := by have q_ : (0 : Int) ≤ (1 * x + 0) + 0 := z4 ([(0, 1)], 0) (List.mem_of_getElem? (i := 0) rfl); omega
      have c1 : 0 ≤ -x + 2 := by have q_ : (0 : Int) ≤ ((-1) * x + 0) + 2 := z4 ([(0, (-1))], 2) (List.mem_of_getElem? (i := 1) rfl); omega
      have c2 : 0 ≤ y := by have q_ : (0 : Int) ≤ (1 * y + 0) + 0 := z4 ([(1, 1)], 0) (List.mem_of_getElem? (i := 2) rfl); omega
      have c3 : 0 ≤ -y + 7 := by have q_ : (0 : Int) ≤ ((-1) * y + 0) + 7 := z4 ([(1, (-1))], 7) (List.mem_of_getElem? (i := 3) rfl); omega
      have c4 : 0 ≤ -y + n - 1 := by have q_ : (0 : Int) ≤ ((-1) * y + (1 * n + 0)) + (-1) := z4 ([(1, (-1)), (2, 1)], (-1)) (List.mem_of_getElem? (i := 4) rfl); omega
      have o0 : zget lo' 0 = some (.ref 0) := locR (p2 (0, .inr (.inl 0)) (List.mem_of_getElem? (i := 0) rfl))
      have o1 : zI lo' 1 x := zI_of (p2 (1, .inl sf32) (List.mem_of_getElem? (i := 1) rfl)) (z3 (1, ([(0, 1)], 0)) (List.mem_of_getElem? (i := 0) rfl)) (show (1 * x + 0) + 0 = x from by omega)
      have o2 : zI lo' 2 y := zI_of (p2 (2, .inl sf32) (List.mem_of_getElem? (i := 2) rfl)) (z3 (2, ([(1, 1)], 0)) (List.mem_of_getElem? (i := 1) rfl)) (show (1 * y + 0) + 0 = y from by omega)
      have p1 : _ = [] := p1
      subst p1
      exact hE0 lo' h' hi' hm c0 c1 c2 c3 c4 o0 o1 o2
    cases he
  · intro e he r' h' hp hi' hm
    rcases List.mem_cons.mp he with rfl | he
    · obtain ⟨p1, -, hz⟩ := hp
      obtain ⟨⟨z1, z2, z3, z4⟩, z5, z6⟩ := hz
      have c0 : 0 ≤ -x - 1 := by have q_ : (0 : Int) ≤ ((-1) * x + 0) + (-1) := z4 ([(0, (-1))], (-1)) (List.mem_of_getElem? (i := 0) rfl); omega
      obtain ⟨r_, rfl, hv⟩ := ansJ p1 (z2 (0, ([], (-9223372036854775808))) (List.mem_of_getElem? (i := 0) rfl))
      have s0 : r_.toInt = (-9223372036854775808) := (show r_.toInt = 0 + (-9223372036854775808) from hv).trans (by omega)
      exact hR0 h' r_ hi' hm c0 s0
    rcases List.mem_cons.mp he with rfl | he
    · obtain ⟨p1, -, hz⟩ := hp
      obtain ⟨⟨z1, z2, z3, z4⟩, z5, z6⟩ := hz
      have c0 : 0 ≤ x := by have q_ : (0 : Int) ≤ (1 * x + 0) + 0 := z4 ([(0, 1)], 0) (List.mem_of_getElem? (i := 0) rfl); omega
      have c1 : 0 ≤ -x + 2 := by have q_ : (0 : Int) ≤ ((-1) * x + 0) + 2 := z4 ([(0, (-1))], 2) (List.mem_of_getElem? (i := 1) rfl); omega
      have c2 : 0 ≤ -y - 1 := by have q_ : (0 : Int) ≤ ((-1) * y + 0) + (-1) := z4 ([(1, (-1))], (-1)) (List.mem_of_getElem? (i := 2) rfl); omega
      obtain ⟨r_, rfl, hv⟩ := ansJ p1 (z2 (0, ([], (-9223372036854775808))) (List.mem_of_getElem? (i := 0) rfl))
      have s0 : r_.toInt = (-9223372036854775808) := (show r_.toInt = 0 + (-9223372036854775808) from hv).trans (by omega)
      exact hR1 h' r_ hi' hm c0 c1 c2 s0
    rcases List.mem_cons.mp he with rfl | he
    · obtain ⟨p1, -, hz⟩ := hp
      obtain ⟨⟨z1, z2, z3, z4⟩, z5, z6⟩ := hz
      have c0 : 0 ≤ x := by have q_ : (0 : Int) ≤ (1 * x + 0) + 0 := z4 ([(0, 1)], 0) (List.mem_of_getElem? (i := 0) rfl); omega
      have c1 : 0 ≤ -x + 2 := by have q_ : (0 : Int) ≤ ((-1) * x + 0) + 2 := z4 ([(0, (-1))], 2) (List.mem_of_getElem? (i := 1) rfl); omega
      have c2 : 0 ≤ y := by have q_ : (0 : Int) ≤ (1 * y + 0) + 0 := z4 ([(1, 1)], 0) (List.mem_of_getElem? (i := 2) rfl); omega
      have c3 : 0 ≤ y - 8 := by have q_ : (0 : Int) ≤ (1 * y + 0) + (-8) := z4 ([(1, 1)], (-8)) (List.mem_of_getElem? (i := 3) rfl); omega
      obtain ⟨r_, rfl, hv⟩ := ansJ p1 (z2 (0, ([], (-9223372036854775808))) (List.mem_of_getElem? (i := 0) rfl))
      have s0 : r_.toInt = (-9223372036854775808) := (show r_.toInt = 0 + (-9223372036854775808) from hv).trans (by omega)
      exact hR2 h' r_ hi' hm c0 c1 c2 c3 s0
    rcases List.mem_cons.mp he with rfl | he
    · obtain ⟨p1, -, hz⟩ := hp
      obtain ⟨⟨z1, z2, z3, z4⟩, z5, z6⟩ := hz
      have c0 : 0 ≤ x := by have q_ : (0 : Int) ≤ (1 * x + 0) + 0 := z4 ([(0, 1)], 0) (List.mem_of_getElem? (i := 0) rfl); omega
      have c1 : 0 ≤ -x + 2 := by have q_ : (0 : Int) ≤ ((-1) * x + 0) + 2 := z4 ([(0, (-1))], 2) (List.mem_of_getElem? (i := 1) rfl); omega
      have c2 : 0 ≤ y := by have q_ : (0 : Int) ≤ (1 * y + 0) + 0 := z4 ([(1, 1)], 0) (List.mem_of_getElem? (i := 2) rfl); omega
      have c3 : 0 ≤ -y + 7 := by have q_ : (0 : Int) ≤ ((-1) * y + 0) + 7 := z4 ([(1, (-1))], 7) (List.mem_of_getElem? (i := 3) rfl); omega
      have c4 : 0 ≤ y - n := by have q_ : (0 : Int) ≤ (1 * y + ((-1) * n + 0)) + 0 := z4 ([(1, 1), (2, (-1))], 0) (List.mem_of_getElem? (i := 4) rfl); omega
      obtain ⟨r_, rfl, hv⟩ := ansJ p1 (z2 (0, ([], (-9223372036854775808))) (List.mem_of_getElem? (i := 0) rfl))
      have s0 : r_.toInt = (-9223372036854775808) := (show r_.toInt = 0 + (-9223372036854775808) from hv).trans (by omega)
      exact hR3 h' r_ hi' hm c0 c1 c2 c3 c4 s0
    rcases List.mem_cons.mp he with rfl | he
    · obtain ⟨p1, -, hz⟩ := hp
      obtain ⟨⟨z1, z2, z3, z4⟩, z5, z6⟩ := hz
      have c0 : 0 ≤ x := by have q_ : (0 : Int) ≤ (1 * x + 0) + 0 := z4 ([(0, 1)], 0) (List.mem_of_getElem? (i := 0) rfl); omega
      have c1 : 0 ≤ x - 3 := by have q_ : (0 : Int) ≤ (1 * x + 0) + (-3) := z4 ([(0, 1)], (-3)) (List.mem_of_getElem? (i := 1) rfl); omega
      obtain ⟨r_, rfl, hv⟩ := ansJ p1 (z2 (0, ([], (-9223372036854775808))) (List.mem_of_getElem? (i := 0) rfl))
      have s0 : r_.toInt = (-9223372036854775808) := (show r_.toInt = 0 + (-9223372036854775808) from hv).trans (by omega)
      exact hR4 h' r_ hi' hm c0 c1 s0
    cases he
def kqU1_L (t : Nat) : List (Nat × sT) := [(0, .inr (.inl 0)), (1, .inl (0, 2)), (2, .inl (0, 7))]
def kqU1_S (t : Nat) : List sT := []
def kqU1_A (t : Nat) : sAs := ([], [(0, 5, (17 * t + 9))], [], [])
def kqU1_P (t : Nat) : List sP0 := []
def kqU1_G (t : Nat) : List sP0 := []
def kqU1_B (t : Nat) : List (Nat × Nat × Int) := []
def kqU1_m (t : Nat) : sM := [(61, 0, 1), (61, 1, 2), (61, 2, 3), (61, 3, 4), (61, 4, 5)]
def kqU1_e0 (t : Nat) : sXe := (41, [.inl sf32, .inr (.inl 43), .inr (.inl 61)], [(0, .inr (.inl 0)), (1, .inl sf32)], ([], [(61, 0, (17 * t + 9))], [], []), [], ([(61, (none, 4), ([], (-1))), (61, (none, 3), ([], (-1))), (61, (none, 2), ([], (-1))), (61, (none, 1), ([], 0))], [(0, ([(1, 1)], 0))], [(1, ([(0, 1)], 0))], []), [], [])
theorem kqU1_b : ((List.range 2).all fun t => syeB swC sT0 (kqU1_m t) 400 1 83 (kqU1_L t) (kqU1_S t) (kqU1_A t) (kqU1_P t) (kqU1_G t) (kqU1_B t) 21 [kqU1_e0 t] []) = true := by decide +kernel
theorem kqU1 {l : Launch} {Γ : zG} {d : Nat} (hd : 1 ≤ d) {Kp : Option Value → zH → Prop} {lo : zL} {h : zH} {t : Nat} (h_t : t < 2) {x y : Int} (hi : sInv swC h) (b_x : 0 ≤ x ∧ x ≤ 2) (b_y : 0 ≤ y ∧ y ≤ 7) (l0 : zget lo 0 = some (.ref 0)) (l1 : zI lo 1 x) (l2 : zI lo 2 y) (q0 : h.2.2.2 0 5 = some (17 * t + 9))
    (hE0 : ∀ (lo' : zL) (h' : zH) (y0 : Int32), sInv swC h' → sMd (kqU1_m t) h h' → h'.2.2.2 61 0 = some (17 * t + 9) → pI h' 61 4 = (-1) → pI h' 61 3 = (-1) → pI h' 61 2 = (-1) → pI h' 61 1 = 0 → zget lo' 0 = some (.ref 0) → zI lo' 1 x → y0.toInt = y → zX l Γ false (d + 1) (zhd 83) (zMQ' Γ false (zhd 83) Kp) 0 0 41 lo' [.int y0, .ref 43, .ref 61] h') : zX l Γ false (d + 1) (zhd 83) (zMQ' Γ false (zhd 83) Kp) 0 0 21 lo [] h := by
  refine sye_ok (mi := 83) (pc := 21) (fun i => [x, y].getD i 0) (zall_r kqU1_b h_t) (fun _ _ hc _ => nomatch hc) hd ⟨l0, zIm l1 (by show 0 ≤ x; omega) (by show x ≤ 2; omega), zIm l2 (by show 0 ≤ y; omega) (by show y ≤ 7; omega), trivial⟩ rfl ⟨(fun _ hc => nomatch hc), (sfm q0 (fun _ hc => nomatch hc)), (fun _ hc => nomatch hc), Or.inl rfl⟩ trivial trivial (fun _ hc => nomatch hc) hi ?_ ?_
  · intro e he lo' st' h' hp hi' hm
    rcases List.mem_cons.mp he with rfl | he
    · obtain ⟨p1, p2, pa, hz⟩ := hp
      have t0 : h'.2.2.2 61 0 = some (17 * t + 9) := pa.2.1 (61, 0, (17 * t + 9)) (List.mem_of_getElem? (i := 0) rfl)
      obtain ⟨⟨z1, z2, z3, z4⟩, z5, z6⟩ := hz
      have k0 : pI h' 61 4 = (-1) := (show pI h' 61 4 = 0 + (-1) from z1 (61, (none, 4), ([], (-1))) (List.mem_of_getElem? (i := 0) rfl)).trans (by omega)
      have k1 : pI h' 61 3 = (-1) := (show pI h' 61 3 = 0 + (-1) from z1 (61, (none, 3), ([], (-1))) (List.mem_of_getElem? (i := 1) rfl)).trans (by omega)
      have k2 : pI h' 61 2 = (-1) := (show pI h' 61 2 = 0 + (-1) from z1 (61, (none, 2), ([], (-1))) (List.mem_of_getElem? (i := 2) rfl)).trans (by omega)
      have k3 : pI h' 61 1 = 0 := (show pI h' 61 1 = 0 + 0 from z1 (61, (none, 1), ([], 0)) (List.mem_of_getElem? (i := 3) rfl)).trans (by omega)
      have o0 : zget lo' 0 = some (.ref 0) := locR (p2 (0, .inr (.inl 0)) (List.mem_of_getElem? (i := 0) rfl))
      have o1 : zI lo' 1 x := zI_of (p2 (1, .inl sf32) (List.mem_of_getElem? (i := 1) rfl)) (z3 (1, ([(0, 1)], 0)) (List.mem_of_getElem? (i := 0) rfl)) (show (1 * x + 0) + 0 = x from by omega)
      obtain ⟨_, _, rfl, ⟨y0, rfl, -⟩, p1⟩ := p1
      obtain ⟨_, _, rfl, hr, p1⟩ := p1
      have hr : _ = Value.ref 43 := hr
      subst hr
      obtain ⟨_, _, rfl, hr, p1⟩ := p1
      have hr : _ = Value.ref 61 := hr
      subst hr
      have p1 : _ = [] := p1
      subst p1
      obtain ⟨v_, ev, hv⟩ := z2 (0, ([(1, 1)], 0)) (List.mem_of_getElem? (i := 0) rfl)
      cases ev
      have s0 : y0.toInt = y := (show y0.toInt = (1 * y + 0) + 0 from hv).trans (by omega)
      exact hE0 lo' h' y0 hi' hm t0 k0 k1 k2 k3 o0 o1 s0
    cases he
  · intro e he r' h' hp hi' hm
    cases he
def kqU2_L (t : Nat) : List (Nat × sT) := [(0, .inr (.inl 0)), (1, .inl (0, 2))]
def kqU2_S (t : Nat) : List sT := []
def kqU2_A (t : Nat) : sAs := ([], [(0, 5, (17 * t + 9))], [], [])
def kqU2_P (t : Nat) : List sP0 := []
def kqU2_G (t : Nat) : List sP0 := []
def kqU2_B (t : Nat) : List (Nat × Nat × Int) := []
def kqU2_m (t : Nat) : sM := []
def kqU2_e0 (t : Nat) : sXe := (52, [.inl sf32, .inr (.inl (17 * t + 20))], [], sA0, [], ([], [(0, ([(0, 1)], 0))], [], []), [], [])
theorem kqU2_b : ((List.range 2).all fun t => syeB swC sT0 (kqU2_m t) 400 0 83 (kqU2_L t) (kqU2_S t) (kqU2_A t) (kqU2_P t) (kqU2_G t) (kqU2_B t) 44 [kqU2_e0 t] []) = true := by decide +kernel
theorem kqU2 {l : Launch} {Γ : zG} {d : Nat} (hd : 0 ≤ d) {Kp : Option Value → zH → Prop} {lo : zL} {h : zH} {t : Nat} (h_t : t < 2) {x : Int} (hi : sInv swC h) (b_x : 0 ≤ x ∧ x ≤ 2) (l0 : zget lo 0 = some (.ref 0)) (l1 : zI lo 1 x) (q0 : h.2.2.2 0 5 = some (17 * t + 9))
    (hE0 : ∀ (lo' : zL) (h' : zH) (y0 : Int32), sInv swC h' → sMd (kqU2_m t) h h' → y0.toInt = x → zX l Γ false (d + 1) (zhd 83) (zMQ' Γ false (zhd 83) Kp) 0 0 52 lo' [.int y0, .ref (17 * t + 20)] h') : zX l Γ false (d + 1) (zhd 83) (zMQ' Γ false (zhd 83) Kp) 0 0 44 lo [] h := by
  refine sye_ok (mi := 83) (pc := 44) (fun i => [x].getD i 0) (zall_r kqU2_b h_t) (fun _ _ hc _ => nomatch hc) hd ⟨l0, zIm l1 (by show 0 ≤ x; omega) (by show x ≤ 2; omega), trivial⟩ rfl ⟨(fun _ hc => nomatch hc), (sfm q0 (fun _ hc => nomatch hc)), (fun _ hc => nomatch hc), Or.inl rfl⟩ trivial trivial (fun _ hc => nomatch hc) hi ?_ ?_
  · intro e he lo' st' h' hp hi' hm
    rcases List.mem_cons.mp he with rfl | he
    · obtain ⟨p1, p2, -, hz⟩ := hp
      obtain ⟨⟨z1, z2, z3, z4⟩, z5, z6⟩ := hz
      obtain ⟨_, _, rfl, ⟨y0, rfl, -⟩, p1⟩ := p1
      obtain ⟨_, _, rfl, hr, p1⟩ := p1
      have hr : _ = Value.ref (17 * t + 20) := hr
      subst hr
      have p1 : _ = [] := p1
      subst p1
      obtain ⟨v_, ev, hv⟩ := z2 (0, ([(0, 1)], 0)) (List.mem_of_getElem? (i := 0) rfl)
      cases ev
      have s0 : y0.toInt = x := (show y0.toInt = (1 * x + 0) + 0 from hv).trans (by omega)
      exact hE0 lo' h' y0 hi' hm s0
    cases he
  · intro e he r' h' hp hi' hm
    cases he
def kqU3_L : List (Nat × sT) := []
def kqU3_S : List sT := [.inr (.inr sf64)]
def kqU3_A : sAs := ([], [], [], [])
def kqU3_P : List sP0 := []
def kqU3_G : List sP0 := []
def kqU3_B : List (Nat × Nat × Int) := []
def kqU3_m : sM := []
def kqU3_r0 : sXr := (some (.inr (.inr sf64)), sA0, [], ([], [(0, ([(0, 1)], 0))], [], []), [], [])
theorem kqU3_b : syeB swC sT0 kqU3_m 400 0 83 kqU3_L kqU3_S kqU3_A kqU3_P kqU3_G kqU3_B 55 [] [kqU3_r0] = true := by decide +kernel
theorem kqU3 {l : Launch} {Γ : zG} {d : Nat} (hd : 0 ≤ d) {Kp : Option Value → zH → Prop} {lo : zL} {h : zH} {v : Int} (hi : sInv swC h) (b_v : (-9223372036854775808) ≤ v ∧ v ≤ 9223372036854775807) {x_v : Int64} (e_v : x_v.toInt = v)
    (hR0 : ∀ (h' : zH) (r_ : Int64), sInv swC h' → sMd kqU3_m h h' → r_.toInt = v → Kp (some (.long r_)) h') : zX l Γ false (d + 1) (zhd 83) (zMQ' Γ false (zhd 83) Kp) 0 0 55 lo [.long x_v] h := by
  refine sye_ok (mi := 83) (pc := 55) (fun i => [v].getD i 0) kqU3_b (fun _ _ hc _ => nomatch hc) hd trivial ⟨x_v, _, rfl, e_v, ⟨by show (-9223372036854775808) ≤ v; omega, by show v ≤ 9223372036854775807; omega⟩, rfl⟩ ⟨(fun _ hc => nomatch hc), (fun _ hc => nomatch hc), (fun _ hc => nomatch hc), Or.inl rfl⟩ trivial trivial (fun _ hc => nomatch hc) hi ?_ ?_
  · intro e he lo' st' h' hp hi' hm
    cases he
  · intro e he r' h' hp hi' hm
    rcases List.mem_cons.mp he with rfl | he
    · obtain ⟨p1, -, hz⟩ := hp
      obtain ⟨⟨z1, z2, z3, z4⟩, z5, z6⟩ := hz
      obtain ⟨r_, rfl, hv⟩ := ansJ p1 (z2 (0, ([(0, 1)], 0)) (List.mem_of_getElem? (i := 0) rfl))
      have s0 : r_.toInt = v := (show r_.toInt = (1 * v + 0) + 0 from hv).trans (by omega)
      exact hR0 h' r_ hi' hm s0
    cases he
def krU0_L : List sT := [.inr (.inl 0), .inl sf32, .inl sf32]
def krU0_A : sAs := ([], [], [], [])
def krU0_P : List sP0 := []
def krU0_G : List sP0 := []
def krU0_B : List (Nat × Nat × Int) := []
def krU0_m : sM := [(0, 2, 3)]
def krU0_e0 : sXe := (14, [], [(0, .inr (.inl 0)), (1, .inl sf32), (2, .inl sf32)], sA0, [], ([(0, (none, 2), ([], 0))], [], [(1, ([(0, 1)], 0)), (2, ([(1, 1)], 0))], [([(0, 1)], 0), ([(0, (-1))], 2)]), [], [])
def krU0_r0 : sXr := (some (.inr (.inr sf64)), sA0, [], ([(0, (none, 2), ([], 0))], [(0, ([], (-9223372036854775808)))], [], [([(0, (-1))], (-1))]), [], [])
def krU0_r1 : sXr := (some (.inr (.inr sf64)), sA0, [], ([(0, (none, 2), ([], 0))], [(0, ([], (-9223372036854775808)))], [], [([(0, 1)], 0), ([(0, 1)], (-3))]), [], [])
theorem krU0_b : syfB swM sT0 krU0_m 400 1 237 krU0_L krU0_A krU0_P krU0_G krU0_B [krU0_e0] [krU0_r0, krU0_r1] = true := by decide +kernel
theorem krU0 {l : Launch} {Γ : zG} {d : Nat} (hd : 1 ≤ d) {Kp : Option Value → zH → Prop} {h : zH} {x y : Int} (hi : sInv swM h) (b_x : (-2147483648) ≤ x ∧ x ≤ 2147483647) (b_y : (-2147483648) ≤ y ∧ y ≤ 2147483647) {x_x : Int32} (e_x : x_x.toInt = x) {x_y : Int32} (e_y : x_y.toInt = y)
    (hE0 : ∀ (lo' : zL) (h' : zH), sInv swM h' → sMd krU0_m h h' → 0 ≤ x → 0 ≤ -x + 2 → pI h' 0 2 = 0 → zget lo' 0 = some (.ref 0) → zI lo' 1 x → zI lo' 2 y → zX l Γ false (d + 1) (zhd 237) (zMQ' Γ false (zhd 237) Kp) 0 0 14 lo' [] h')
    (hR0 : ∀ (h' : zH) (r_ : Int64), sInv swM h' → sMd krU0_m h h' → 0 ≤ -x - 1 → pI h' 0 2 = 0 → r_.toInt = (-9223372036854775808) → Kp (some (.long r_)) h')
    (hR1 : ∀ (h' : zH) (r_ : Int64), sInv swM h' → sMd krU0_m h h' → 0 ≤ x → 0 ≤ x - 3 → pI h' 0 2 = 0 → r_.toInt = (-9223372036854775808) → Kp (some (.long r_)) h') : zSem l Γ false (d + 1) (zhd 237) [.ref 0, .int x_x, .int x_y] h Kp := by
  refine syf_ok (mi := 237) (fun i => [x, y].getD i 0) krU0_b (fun _ _ hc _ => nomatch hc) hd ⟨_, _, rfl, rfl, ⟨_, _, rfl, ⟨x_x, rfl, by show (-2147483648) ≤ x_x.toInt; omega, by show x_x.toInt ≤ 2147483647; omega⟩, ⟨_, _, rfl, ⟨x_y, rfl, by show (-2147483648) ≤ x_y.toInt; omega, by show x_y.toInt ≤ 2147483647; omega⟩, rfl⟩⟩⟩ ⟨rfl, ⟨x_x, rfl, e_x, by show (-2147483648) ≤ x; omega, by show x ≤ 2147483647; omega⟩, ⟨x_y, rfl, e_y, by show (-2147483648) ≤ y; omega, by show y ≤ 2147483647; omega⟩, trivial⟩ ⟨(fun _ hc => nomatch hc), (fun _ hc => nomatch hc), (fun _ hc => nomatch hc), Or.inl rfl⟩ trivial trivial (fun _ hc => nomatch hc) hi ?_ ?_
  · intro e he lo' st' h' hp hi' hm
    rcases List.mem_cons.mp he with rfl | he
    · obtain ⟨p1, p2, -, hz⟩ := hp
      obtain ⟨⟨z1, z2, z3, z4⟩, z5, z6⟩ := hz
      have c0 : 0 ≤ x := by have q_ : (0 : Int) ≤ (1 * x + 0) + 0 := z4 ([(0, 1)], 0) (List.mem_of_getElem? (i := 0) rfl); omega
      have c1 : 0 ≤ -x + 2 := by have q_ : (0 : Int) ≤ ((-1) * x + 0) + 2 := z4 ([(0, (-1))], 2) (List.mem_of_getElem? (i := 1) rfl); omega
      have k0 : pI h' 0 2 = 0 := (show pI h' 0 2 = 0 + 0 from z1 (0, (none, 2), ([], 0)) (List.mem_of_getElem? (i := 0) rfl)).trans (by omega)
      have o0 : zget lo' 0 = some (.ref 0) := locR (p2 (0, .inr (.inl 0)) (List.mem_of_getElem? (i := 0) rfl))
      have o1 : zI lo' 1 x := zI_of (p2 (1, .inl sf32) (List.mem_of_getElem? (i := 1) rfl)) (z3 (1, ([(0, 1)], 0)) (List.mem_of_getElem? (i := 0) rfl)) (show (1 * x + 0) + 0 = x from by omega)
      have o2 : zI lo' 2 y := zI_of (p2 (2, .inl sf32) (List.mem_of_getElem? (i := 2) rfl)) (z3 (2, ([(1, 1)], 0)) (List.mem_of_getElem? (i := 1) rfl)) (show (1 * y + 0) + 0 = y from by omega)
      have p1 : _ = [] := p1
      subst p1
      exact hE0 lo' h' hi' hm c0 c1 k0 o0 o1 o2
    cases he
  · intro e he r' h' hp hi' hm
    rcases List.mem_cons.mp he with rfl | he
    · obtain ⟨p1, -, hz⟩ := hp
      obtain ⟨⟨z1, z2, z3, z4⟩, z5, z6⟩ := hz
      have c0 : 0 ≤ -x - 1 := by have q_ : (0 : Int) ≤ ((-1) * x + 0) + (-1) := z4 ([(0, (-1))], (-1)) (List.mem_of_getElem? (i := 0) rfl); omega
      have k0 : pI h' 0 2 = 0 := (show pI h' 0 2 = 0 + 0 from z1 (0, (none, 2), ([], 0)) (List.mem_of_getElem? (i := 0) rfl)).trans (by omega)
      obtain ⟨r_, rfl, hv⟩ := ansJ p1 (z2 (0, ([], (-9223372036854775808))) (List.mem_of_getElem? (i := 0) rfl))
      have s0 : r_.toInt = (-9223372036854775808) := (show r_.toInt = 0 + (-9223372036854775808) from hv).trans (by omega)
      exact hR0 h' r_ hi' hm c0 k0 s0
    rcases List.mem_cons.mp he with rfl | he
    · obtain ⟨p1, -, hz⟩ := hp
      obtain ⟨⟨z1, z2, z3, z4⟩, z5, z6⟩ := hz
      have c0 : 0 ≤ x := by have q_ : (0 : Int) ≤ (1 * x + 0) + 0 := z4 ([(0, 1)], 0) (List.mem_of_getElem? (i := 0) rfl); omega
      have c1 : 0 ≤ x - 3 := by have q_ : (0 : Int) ≤ (1 * x + 0) + (-3) := z4 ([(0, 1)], (-3)) (List.mem_of_getElem? (i := 1) rfl); omega
      have k0 : pI h' 0 2 = 0 := (show pI h' 0 2 = 0 + 0 from z1 (0, (none, 2), ([], 0)) (List.mem_of_getElem? (i := 0) rfl)).trans (by omega)
      obtain ⟨r_, rfl, hv⟩ := ansJ p1 (z2 (0, ([], (-9223372036854775808))) (List.mem_of_getElem? (i := 0) rfl))
      have s0 : r_.toInt = (-9223372036854775808) := (show r_.toInt = 0 + (-9223372036854775808) from hv).trans (by omega)
      exact hR1 h' r_ hi' hm c0 c1 k0 s0
    cases he
def krU1_L (j : Nat) : List (Nat × sT) := [(0, .inr (.inl 0)), (1, .inl ((j : Int), (j : Int))), (2, .inl sf32)]
def krU1_S (j : Nat) : List sT := []
def krU1_A (j : Nat) : sAs := ([], [], [], [])
def krU1_P (j : Nat) : List sP0 := [(19, (none, ((j : Nat) : Int)), (0, 1)), (0, (none, 13), (0, 8))]
def krU1_G (j : Nat) : List sP0 := []
def krU1_B (j : Nat) : List (Nat × Nat × Int) := []
def krU1_m (j : Nat) : sM := []
def krU1_e0 (j : Nat) : sXe := (35, [], [(0, .inr (.inl 0)), (1, .inl sf32), (2, .inl sf32)], sA0, [], ([], [], [(1, ([], (j : Int))), (2, ([(1, 1)], 0))], [([(1, 1)], 0), ([(1, (-1)), (3, 1)], (-1))]), [(([(2, 1)], 0), ([], 0))], [])
def krU1_r0 (j : Nat) : sXr := (some (.inr (.inr sf64)), sA0, [], ([], [(0, ([], (-9223372036854775808)))], [], [([(2, 1)], 0), ([(2, (-1))], 0)]), [], [])
def krU1_r1 (j : Nat) : sXr := (some (.inr (.inr sf64)), sA0, [], ([], [(0, ([], (-9223372036854775808)))], [], [([(1, (-1))], (-1))]), [(([(2, 1)], 0), ([], 0))], [])
def krU1_r2 (j : Nat) : sXr := (some (.inr (.inr sf64)), sA0, [], ([], [(0, ([], (-9223372036854775808)))], [], [([(1, 1)], 0), ([(1, 1), (3, (-1))], 0)]), [(([(2, 1)], 0), ([], 0))], [])
theorem krU1_b : ((List.range 3).all fun j => syeB swM sT0 (krU1_m j) 400 1 237 (krU1_L j) (krU1_S j) (krU1_A j) (krU1_P j) (krU1_G j) (krU1_B j) 14 [krU1_e0 j] [krU1_r0 j, krU1_r1 j, krU1_r2 j]) = true := by decide +kernel
theorem krU1 {l : Launch} {Γ : zG} {d : Nat} (hd : 1 ≤ d) {Kp : Option Value → zH → Prop} {lo : zL} {h : zH} {j : Nat} (h_j : j < 3) {y lt n : Int} (hi : sInv swM h) (b_y : (-2147483648) ≤ y ∧ y ≤ 2147483647) (b_lt : 0 ≤ lt ∧ lt ≤ 1) (b_n : 0 ≤ n ∧ n ≤ 8) (l0 : zget lo 0 = some (.ref 0)) (l1 : zI lo 1 (j : Int)) (l2 : zI lo 2 y) (p_lt : pI h 19 j = lt) (p_n : pI h 0 13 = n)
    (hE0 : ∀ (lo' : zL) (h' : zH), sInv swM h' → sMd (krU1_m j) h h' → 0 ≤ y → 0 ≤ -y + n - 1 → lt ≠ 0 → zget lo' 0 = some (.ref 0) → zI lo' 1 (j : Int) → zI lo' 2 y → zX l Γ false (d + 1) (zhd 237) (zMQ' Γ false (zhd 237) Kp) 0 0 35 lo' [] h')
    (hR0 : ∀ (h' : zH) (r_ : Int64), sInv swM h' → sMd (krU1_m j) h h' → lt = 0 → r_.toInt = (-9223372036854775808) → Kp (some (.long r_)) h')
    (hR1 : ∀ (h' : zH) (r_ : Int64), sInv swM h' → sMd (krU1_m j) h h' → 0 ≤ -y - 1 → lt ≠ 0 → r_.toInt = (-9223372036854775808) → Kp (some (.long r_)) h')
    (hR2 : ∀ (h' : zH) (r_ : Int64), sInv swM h' → sMd (krU1_m j) h h' → 0 ≤ y → 0 ≤ y - n → lt ≠ 0 → r_.toInt = (-9223372036854775808) → Kp (some (.long r_)) h') : zX l Γ false (d + 1) (zhd 237) (zMQ' Γ false (zhd 237) Kp) 0 0 14 lo [] h := by
  refine sye_ok (mi := 237) (pc := 14) (fun i => [(j : Int), y, lt, n].getD i 0) (zall_r krU1_b h_j) (fun _ _ hc _ => nomatch hc) hd ⟨l0, zIm l1 (by show (j : Int) ≤ (j : Int); omega) (by show (j : Int) ≤ (j : Int); omega), zIm l2 (by show (-2147483648) ≤ y; omega) (by show y ≤ 2147483647; omega), trivial⟩ rfl ⟨(fun _ hc => nomatch hc), (fun _ hc => nomatch hc), (fun _ hc => nomatch hc), Or.inl rfl⟩ ⟨⟨p_lt, by show 0 ≤ lt; omega, by show lt ≤ 1; omega⟩, ⟨p_n, by show 0 ≤ n; omega, by show n ≤ 8; omega⟩, trivial⟩ trivial (fun _ hc => nomatch hc) hi ?_ ?_
  · intro e he lo' st' h' hp hi' hm
    rcases List.mem_cons.mp he with rfl | he
    · obtain ⟨p1, p2, -, hz⟩ := hp
      obtain ⟨⟨z1, z2, z3, z4⟩, z5, z6⟩ := hz
      have c0 : 0 ≤ y := by have q_ : (0 : Int) ≤ (1 * y + 0) + 0 := z4 ([(1, 1)], 0) (List.mem_of_getElem? (i := 0) rfl); omega
      have c1 : 0 ≤ -y + n - 1 := by have q_ : (0 : Int) ≤ ((-1) * y + (1 * n + 0)) + (-1) := z4 ([(1, (-1)), (3, 1)], (-1)) (List.mem_of_getElem? (i := 1) rfl); omega
      have n0 : lt ≠ 0 := fun e_ => z5 (([(2, 1)], 0), ([], 0)) (List.mem_of_getElem? (i := 0) rfl) (by show (1 * lt + 0) + 0 = 0 + 0; omega)
      have o0 : zget lo' 0 = some (.ref 0) := locR (p2 (0, .inr (.inl 0)) (List.mem_of_getElem? (i := 0) rfl))
      have o1 : zI lo' 1 (j : Int) := zI_of (p2 (1, .inl sf32) (List.mem_of_getElem? (i := 1) rfl)) (z3 (1, ([], (j : Int))) (List.mem_of_getElem? (i := 0) rfl)) (show 0 + (j : Int) = (j : Int) from by omega)
      have o2 : zI lo' 2 y := zI_of (p2 (2, .inl sf32) (List.mem_of_getElem? (i := 2) rfl)) (z3 (2, ([(1, 1)], 0)) (List.mem_of_getElem? (i := 1) rfl)) (show (1 * y + 0) + 0 = y from by omega)
      have p1 : _ = [] := p1
      subst p1
      exact hE0 lo' h' hi' hm c0 c1 n0 o0 o1 o2
    cases he
  · intro e he r' h' hp hi' hm
    rcases List.mem_cons.mp he with rfl | he
    · obtain ⟨p1, -, hz⟩ := hp
      obtain ⟨⟨z1, z2, z3, z4⟩, z5, z6⟩ := hz
      have c0 : lt = 0 := by have q_ : (0 : Int) ≤ (1 * lt + 0) + 0 := z4 ([(2, 1)], 0) (List.mem_of_getElem? (i := 0) rfl); have q2_ : (0 : Int) ≤ ((-1) * lt + 0) + 0 := z4 ([(2, (-1))], 0) (List.mem_of_getElem? (i := 1) rfl); omega
      obtain ⟨r_, rfl, hv⟩ := ansJ p1 (z2 (0, ([], (-9223372036854775808))) (List.mem_of_getElem? (i := 0) rfl))
      have s0 : r_.toInt = (-9223372036854775808) := (show r_.toInt = 0 + (-9223372036854775808) from hv).trans (by omega)
      exact hR0 h' r_ hi' hm c0 s0
    rcases List.mem_cons.mp he with rfl | he
    · obtain ⟨p1, -, hz⟩ := hp
      obtain ⟨⟨z1, z2, z3, z4⟩, z5, z6⟩ := hz
      have c0 : 0 ≤ -y - 1 := by have q_ : (0 : Int) ≤ ((-1) * y + 0) + (-1) := z4 ([(1, (-1))], (-1)) (List.mem_of_getElem? (i := 0) rfl); omega
      have n0 : lt ≠ 0 := fun e_ => z5 (([(2, 1)], 0), ([], 0)) (List.mem_of_getElem? (i := 0) rfl) (by show (1 * lt + 0) + 0 = 0 + 0; omega)
      obtain ⟨r_, rfl, hv⟩ := ansJ p1 (z2 (0, ([], (-9223372036854775808))) (List.mem_of_getElem? (i := 0) rfl))
      have s0 : r_.toInt = (-9223372036854775808) := (show r_.toInt = 0 + (-9223372036854775808) from hv).trans (by omega)
      exact hR1 h' r_ hi' hm c0 n0 s0
    rcases List.mem_cons.mp he with rfl | he
    · obtain ⟨p1, -, hz⟩ := hp
      obtain ⟨⟨z1, z2, z3, z4⟩, z5, z6⟩ := hz
      have c0 : 0 ≤ y := by have q_ : (0 : Int) ≤ (1 * y + 0) + 0 := z4 ([(1, 1)], 0) (List.mem_of_getElem? (i := 0) rfl); omega
      have c1 : 0 ≤ y - n := by have q_ : (0 : Int) ≤ (1 * y + ((-1) * n + 0)) + 0 := z4 ([(1, 1), (3, (-1))], 0) (List.mem_of_getElem? (i := 1) rfl); omega
      have n0 : lt ≠ 0 := fun e_ => z5 (([(2, 1)], 0), ([], 0)) (List.mem_of_getElem? (i := 0) rfl) (by show (1 * lt + 0) + 0 = 0 + 0; omega)
      obtain ⟨r_, rfl, hv⟩ := ansJ p1 (z2 (0, ([], (-9223372036854775808))) (List.mem_of_getElem? (i := 0) rfl))
      have s0 : r_.toInt = (-9223372036854775808) := (show r_.toInt = 0 + (-9223372036854775808) from hv).trans (by omega)
      exact hR2 h' r_ hi' hm c0 c1 n0 s0
    cases he
def krU2_L : List (Nat × sT) := [(0, .inr (.inl 0)), (1, .inl (0, 2)), (2, .inl (0, 7))]
def krU2_S : List sT := []
def krU2_A : sAs := ([], [], [], [])
def krU2_P : List sP0 := []
def krU2_G : List sP0 := []
def krU2_B : List (Nat × Nat × Int) := []
def krU2_m : sM := [(0, 66, 67), (0, 67, 68), (0, 68, 69), (0, 69, 70), (0, 70, 71), (0, 71, 72), (0, 72, 73), (0, 73, 74)]
def krU2_e0 : sXe := (42, [.inl sf32, .inl sf32, .inr (.inl 0)], [(0, .inr (.inl 0)), (1, .inl sf32)], sA0, [], ([(0, (none, 73), ([], 0)), (0, (none, 72), ([], (-1))), (0, (none, 71), ([], (-1))), (0, (none, 70), ([], 0)), (0, (none, 69), ([], 0)), (0, (none, 68), ([], 0)), (0, (none, 67), ([], 0)), (0, (none, 66), ([], 0))], [(0, ([(1, 1)], 0)), (1, ([], 0))], [(1, ([(0, 1)], 0))], []), [], [])
theorem krU2_b : syeB swM sT0 krU2_m 400 1 237 krU2_L krU2_S krU2_A krU2_P krU2_G krU2_B 35 [krU2_e0] [] = true := by decide +kernel
theorem krU2 {l : Launch} {Γ : zG} {d : Nat} (hd : 1 ≤ d) {Kp : Option Value → zH → Prop} {lo : zL} {h : zH} {x y : Int} (hi : sInv swM h) (b_x : 0 ≤ x ∧ x ≤ 2) (b_y : 0 ≤ y ∧ y ≤ 7) (l0 : zget lo 0 = some (.ref 0)) (l1 : zI lo 1 x) (l2 : zI lo 2 y)
    (hE0 : ∀ (lo' : zL) (h' : zH) (y0 : Int32) (y1 : Int32), sInv swM h' → sMd krU2_m h h' → pI h' 0 73 = 0 → pI h' 0 72 = (-1) → pI h' 0 71 = (-1) → pI h' 0 70 = 0 → pI h' 0 69 = 0 → pI h' 0 68 = 0 → pI h' 0 67 = 0 → pI h' 0 66 = 0 → zget lo' 0 = some (.ref 0) → zI lo' 1 x → y0.toInt = y → y1.toInt = 0 → zX l Γ false (d + 1) (zhd 237) (zMQ' Γ false (zhd 237) Kp) 0 0 42 lo' [.int y0, .int y1, .ref 0] h') : zX l Γ false (d + 1) (zhd 237) (zMQ' Γ false (zhd 237) Kp) 0 0 35 lo [] h := by
  refine sye_ok (mi := 237) (pc := 35) (fun i => [x, y].getD i 0) krU2_b (fun _ _ hc _ => nomatch hc) hd ⟨l0, zIm l1 (by show 0 ≤ x; omega) (by show x ≤ 2; omega), zIm l2 (by show 0 ≤ y; omega) (by show y ≤ 7; omega), trivial⟩ rfl ⟨(fun _ hc => nomatch hc), (fun _ hc => nomatch hc), (fun _ hc => nomatch hc), Or.inl rfl⟩ trivial trivial (fun _ hc => nomatch hc) hi ?_ ?_
  · intro e he lo' st' h' hp hi' hm
    rcases List.mem_cons.mp he with rfl | he
    · obtain ⟨p1, p2, -, hz⟩ := hp
      obtain ⟨⟨z1, z2, z3, z4⟩, z5, z6⟩ := hz
      have k0 : pI h' 0 73 = 0 := (show pI h' 0 73 = 0 + 0 from z1 (0, (none, 73), ([], 0)) (List.mem_of_getElem? (i := 0) rfl)).trans (by omega)
      have k1 : pI h' 0 72 = (-1) := (show pI h' 0 72 = 0 + (-1) from z1 (0, (none, 72), ([], (-1))) (List.mem_of_getElem? (i := 1) rfl)).trans (by omega)
      have k2 : pI h' 0 71 = (-1) := (show pI h' 0 71 = 0 + (-1) from z1 (0, (none, 71), ([], (-1))) (List.mem_of_getElem? (i := 2) rfl)).trans (by omega)
      have k3 : pI h' 0 70 = 0 := (show pI h' 0 70 = 0 + 0 from z1 (0, (none, 70), ([], 0)) (List.mem_of_getElem? (i := 3) rfl)).trans (by omega)
      have k4 : pI h' 0 69 = 0 := (show pI h' 0 69 = 0 + 0 from z1 (0, (none, 69), ([], 0)) (List.mem_of_getElem? (i := 4) rfl)).trans (by omega)
      have k5 : pI h' 0 68 = 0 := (show pI h' 0 68 = 0 + 0 from z1 (0, (none, 68), ([], 0)) (List.mem_of_getElem? (i := 5) rfl)).trans (by omega)
      have k6 : pI h' 0 67 = 0 := (show pI h' 0 67 = 0 + 0 from z1 (0, (none, 67), ([], 0)) (List.mem_of_getElem? (i := 6) rfl)).trans (by omega)
      have k7 : pI h' 0 66 = 0 := (show pI h' 0 66 = 0 + 0 from z1 (0, (none, 66), ([], 0)) (List.mem_of_getElem? (i := 7) rfl)).trans (by omega)
      have o0 : zget lo' 0 = some (.ref 0) := locR (p2 (0, .inr (.inl 0)) (List.mem_of_getElem? (i := 0) rfl))
      have o1 : zI lo' 1 x := zI_of (p2 (1, .inl sf32) (List.mem_of_getElem? (i := 1) rfl)) (z3 (1, ([(0, 1)], 0)) (List.mem_of_getElem? (i := 0) rfl)) (show (1 * x + 0) + 0 = x from by omega)
      obtain ⟨_, _, rfl, ⟨y0, rfl, -⟩, p1⟩ := p1
      obtain ⟨_, _, rfl, ⟨y1, rfl, -⟩, p1⟩ := p1
      obtain ⟨_, _, rfl, hr, p1⟩ := p1
      have hr : _ = Value.ref 0 := hr
      subst hr
      have p1 : _ = [] := p1
      subst p1
      obtain ⟨v_, ev, hv⟩ := z2 (0, ([(1, 1)], 0)) (List.mem_of_getElem? (i := 0) rfl)
      cases ev
      have s0 : y0.toInt = y := (show y0.toInt = (1 * y + 0) + 0 from hv).trans (by omega)
      obtain ⟨v_, ev, hv⟩ := z2 (1, ([], 0)) (List.mem_of_getElem? (i := 1) rfl)
      cases ev
      have s1 : y1.toInt = 0 := (show y1.toInt = 0 + 0 from hv).trans (by omega)
      exact hE0 lo' h' y0 y1 hi' hm k0 k1 k2 k3 k4 k5 k6 k7 o0 o1 s0 s1
    cases he
  · intro e he r' h' hp hi' hm
    cases he
def krU3_L : List (Nat × sT) := [(0, .inr (.inl 0)), (1, .inl (0, 2))]
def krU3_S : List sT := []
def krU3_A : sAs := ([], [], [], [])
def krU3_P : List sP0 := []
def krU3_G : List sP0 := []
def krU3_B : List (Nat × Nat × Int) := []
def krU3_m : sM := []
def krU3_e0 : sXe := (47, [.inl sf32, .inr (.inl 0)], [(0, .inr (.inl 0))], sA0, [], ([], [(0, ([(0, 1)], 0))], [], []), [], [])
theorem krU3_b : syeB swM sT0 krU3_m 400 0 237 krU3_L krU3_S krU3_A krU3_P krU3_G krU3_B 45 [krU3_e0] [] = true := by decide +kernel
theorem krU3 {l : Launch} {Γ : zG} {d : Nat} (hd : 0 ≤ d) {Kp : Option Value → zH → Prop} {lo : zL} {h : zH} {x : Int} (hi : sInv swM h) (b_x : 0 ≤ x ∧ x ≤ 2) (l0 : zget lo 0 = some (.ref 0)) (l1 : zI lo 1 x)
    (hE0 : ∀ (lo' : zL) (h' : zH) (y0 : Int32), sInv swM h' → sMd krU3_m h h' → zget lo' 0 = some (.ref 0) → y0.toInt = x → zX l Γ false (d + 1) (zhd 237) (zMQ' Γ false (zhd 237) Kp) 0 0 47 lo' [.int y0, .ref 0] h') : zX l Γ false (d + 1) (zhd 237) (zMQ' Γ false (zhd 237) Kp) 0 0 45 lo [] h := by
  refine sye_ok (mi := 237) (pc := 45) (fun i => [x].getD i 0) krU3_b (fun _ _ hc _ => nomatch hc) hd ⟨l0, zIm l1 (by show 0 ≤ x; omega) (by show x ≤ 2; omega), trivial⟩ rfl ⟨(fun _ hc => nomatch hc), (fun _ hc => nomatch hc), (fun _ hc => nomatch hc), Or.inl rfl⟩ trivial trivial (fun _ hc => nomatch hc) hi ?_ ?_
  · intro e he lo' st' h' hp hi' hm
    rcases List.mem_cons.mp he with rfl | he
    · obtain ⟨p1, p2, -, hz⟩ := hp
      obtain ⟨⟨z1, z2, z3, z4⟩, z5, z6⟩ := hz
      have o0 : zget lo' 0 = some (.ref 0) := locR (p2 (0, .inr (.inl 0)) (List.mem_of_getElem? (i := 0) rfl))
      obtain ⟨_, _, rfl, ⟨y0, rfl, -⟩, p1⟩ := p1
      obtain ⟨_, _, rfl, hr, p1⟩ := p1
      have hr : _ = Value.ref 0 := hr
      subst hr
      have p1 : _ = [] := p1
      subst p1
      obtain ⟨v_, ev, hv⟩ := z2 (0, ([(0, 1)], 0)) (List.mem_of_getElem? (i := 0) rfl)
      cases ev
      have s0 : y0.toInt = x := (show y0.toInt = (1 * x + 0) + 0 from hv).trans (by omega)
      exact hE0 lo' h' y0 hi' hm o0 s0
    cases he
  · intro e he r' h' hp hi' hm
    cases he
def krU4_L : List (Nat × sT) := [(0, .inr (.inl 0))]
def krU4_S : List sT := [.inr (.inr sf64)]
def krU4_A : sAs := ([], [], [], [])
def krU4_P : List sP0 := [(0, (none, 56), (0, 1))]
def krU4_G : List sP0 := []
def krU4_B : List (Nat × Nat × Int) := []
def krU4_m : sM := []
def krU4_r0 : sXr := (some (.inr (.inr sf64)), sA0, [], ([], [(0, ([(0, 1)], 0))], [], [([(1, 1)], 0), ([(1, (-1))], 0)]), [], [])
def krU4_r1 : sXr := (some (.inr (.inr sf64)), sA0, [], ([], [(0, ([], (-9223372036854775808)))], [], []), [(([(1, 1)], 0), ([], 0))], [])
theorem krU4_b : syeB swM sT0 krU4_m 400 0 237 krU4_L krU4_S krU4_A krU4_P krU4_G krU4_B 50 [] [krU4_r0, krU4_r1] = true := by decide +kernel
theorem krU4 {l : Launch} {Γ : zG} {d : Nat} (hd : 0 ≤ d) {Kp : Option Value → zH → Prop} {lo : zL} {h : zH} {v er : Int} (hi : sInv swM h) (b_v : (-9223372036854775808) ≤ v ∧ v ≤ 9223372036854775807) (b_er : 0 ≤ er ∧ er ≤ 1) (l0 : zget lo 0 = some (.ref 0)) {x_v : Int64} (e_v : x_v.toInt = v) (p_er : pI h 0 56 = er)
    (hR0 : ∀ (h' : zH) (r_ : Int64), sInv swM h' → sMd krU4_m h h' → er = 0 → r_.toInt = v → Kp (some (.long r_)) h')
    (hR1 : ∀ (h' : zH) (r_ : Int64), sInv swM h' → sMd krU4_m h h' → er ≠ 0 → r_.toInt = (-9223372036854775808) → Kp (some (.long r_)) h') : zX l Γ false (d + 1) (zhd 237) (zMQ' Γ false (zhd 237) Kp) 0 0 50 lo [.long x_v] h := by
  refine sye_ok (mi := 237) (pc := 50) (fun i => [v, er].getD i 0) krU4_b (fun _ _ hc _ => nomatch hc) hd ⟨l0, trivial⟩ ⟨x_v, _, rfl, e_v, ⟨by show (-9223372036854775808) ≤ v; omega, by show v ≤ 9223372036854775807; omega⟩, rfl⟩ ⟨(fun _ hc => nomatch hc), (fun _ hc => nomatch hc), (fun _ hc => nomatch hc), Or.inl rfl⟩ ⟨⟨p_er, by show 0 ≤ er; omega, by show er ≤ 1; omega⟩, trivial⟩ trivial (fun _ hc => nomatch hc) hi ?_ ?_
  · intro e he lo' st' h' hp hi' hm
    cases he
  · intro e he r' h' hp hi' hm
    rcases List.mem_cons.mp he with rfl | he
    · obtain ⟨p1, -, hz⟩ := hp
      obtain ⟨⟨z1, z2, z3, z4⟩, z5, z6⟩ := hz
      have c0 : er = 0 := by have q_ : (0 : Int) ≤ (1 * er + 0) + 0 := z4 ([(1, 1)], 0) (List.mem_of_getElem? (i := 0) rfl); have q2_ : (0 : Int) ≤ ((-1) * er + 0) + 0 := z4 ([(1, (-1))], 0) (List.mem_of_getElem? (i := 1) rfl); omega
      obtain ⟨r_, rfl, hv⟩ := ansJ p1 (z2 (0, ([(0, 1)], 0)) (List.mem_of_getElem? (i := 0) rfl))
      have s0 : r_.toInt = v := (show r_.toInt = (1 * v + 0) + 0 from hv).trans (by omega)
      exact hR0 h' r_ hi' hm c0 s0
    rcases List.mem_cons.mp he with rfl | he
    · obtain ⟨p1, -, hz⟩ := hp
      obtain ⟨⟨z1, z2, z3, z4⟩, z5, z6⟩ := hz
      have n0 : er ≠ 0 := fun e_ => z5 (([(1, 1)], 0), ([], 0)) (List.mem_of_getElem? (i := 0) rfl) (by show (1 * er + 0) + 0 = 0 + 0; omega)
      obtain ⟨r_, rfl, hv⟩ := ansJ p1 (z2 (0, ([], (-9223372036854775808))) (List.mem_of_getElem? (i := 0) rfl))
      have s0 : r_.toInt = (-9223372036854775808) := (show r_.toInt = 0 + (-9223372036854775808) from hv).trans (by omega)
      exact hR1 h' r_ hi' hm n0 s0
    cases he
