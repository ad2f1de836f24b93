def seC_L (t : Nat) : List sT := [.inr (.inl 0), .inl sf32, .inl sf32, .inl sf32, .inl (0, 1)]
def seC_A (t : Nat) : sAs := ([], [(0, 5, (17 * t + 9))], [], [])
def seC_P (t : Nat) : List sP0 := [((17 * t + 12), (none, 3), (0, 8)), (91, (none, 6), (0, 24))]
def seC_G (t : Nat) : List sP0 := []
def seC_B (t : Nat) : List (Nat × Nat × Int) := []
def seC_m (t : Nat) : sM := [(91, 6, 7), (92, 0, 24), (93, 0, 24), (94, 0, 24), (95, 0, 24), (96, 0, 24)]
def seC_r0 (t : Nat) : sXr := (some (.inl sf32), sA0, [], ([(91, (none, 6), ([(5, 1)], 0))], [(0, ([], (-1)))], [], [([(0, (-1))], 0)]), [], [])
def seC_r1 (t : Nat) : sXr := (some (.inl sf32), sA0, [], ([(91, (none, 6), ([(5, 1)], 0))], [(0, ([], (-1)))], [], [([(0, 1)], (-1)), ([(0, (-1))], 99), ([(1, (-1))], (-1))]), [], [])
def seC_r2 (t : Nat) : sXr := (some (.inl sf32), sA0, [], ([(91, (none, 6), ([(5, 1)], 0))], [(0, ([], (-1)))], [], [([(0, 1)], (-1)), ([(0, (-1))], 99), ([(1, 1)], 0), ([(1, 1)], (-8))]), [], [])
def seC_r3 (t : Nat) : sXr := (some (.inl sf32), sA0, [], ([(91, (none, 6), ([(5, 1)], 0))], [(0, ([], (-1)))], [], [([(0, 1)], (-1)), ([(0, (-1))], 99), ([(1, 1)], 0), ([(1, (-1))], 7), ([(1, (-1)), (4, 1)], (-1)), ([(2, (-1))], (-1))]), [], [])
def seC_r4 (t : Nat) : sXr := (some (.inl sf32), sA0, [], ([(91, (none, 6), ([(5, 1)], 1)), (96, (some 5, 0), ([], (-1))), (95, (some 5, 0), ([(3, 1)], 0)), (94, (some 5, 0), ([(2, 1)], 0)), (93, (some 5, 0), ([(1, 1)], 0)), (92, (some 5, 0), ([(0, 1)], 0))], [(0, ([(5, 1)], 0))], [], [([(0, 1)], (-1)), ([(0, (-1))], 99), ([(1, 1)], 0), ([(1, (-1))], 7), ([(1, (-1)), (4, 1)], (-1)), ([(2, 1)], 0), ([(2, (-1))], 999), ([(5, (-1))], 23)]), [], [])
def seC_r5 (t : Nat) : sXr := (some (.inl sf32), sA0, [], ([(91, (none, 6), ([(5, 1)], 0))], [(0, ([], (-1)))], [], [([(0, 1)], (-1)), ([(0, (-1))], 99), ([(1, 1)], 0), ([(1, (-1))], 7), ([(1, (-1)), (4, 1)], (-1)), ([(2, 1)], 0), ([(2, (-1))], 999), ([(5, 1)], (-24))]), [], [])
def seC_r6 (t : Nat) : sXr := (some (.inl sf32), sA0, [], ([(91, (none, 6), ([(5, 1)], 0))], [(0, ([], (-1)))], [], [([(0, 1)], (-1)), ([(0, (-1))], 99), ([(1, 1)], 0), ([(1, (-1))], 7), ([(1, (-1)), (4, 1)], (-1)), ([(2, 1)], 0), ([(2, 1)], (-1000))]), [], [])
def seC_r7 (t : Nat) : sXr := (some (.inl sf32), sA0, [], ([(91, (none, 6), ([(5, 1)], 0))], [(0, ([], (-1)))], [], [([(0, 1)], (-1)), ([(0, (-1))], 99), ([(1, 1)], 0), ([(1, (-1))], 7), ([(1, 1), (4, (-1))], 0)]), [], [])
def seC_r8 (t : Nat) : sXr := (some (.inl sf32), sA0, [], ([(91, (none, 6), ([(5, 1)], 0))], [(0, ([], (-1)))], [], [([(0, 1)], (-1)), ([(0, 1)], (-100))]), [], [])
theorem seC_b : ((List.range 2).all fun t => syfB swC sT0 (seC_m t) 400 1 158 (seC_L t) (seC_A t) (seC_P t) (seC_G t) (seC_B t) [] [seC_r0 t, seC_r1 t, seC_r2 t, seC_r3 t, seC_r4 t, seC_r5 t, seC_r6 t, seC_r7 t, seC_r8 t]) = true := by decide +kernel
theorem seC {l : Launch} {Γ : zG} {d : Nat} (hd : 1 ≤ d) {Kp : Option Value → zH → Prop} {h : zH} {t : Nat} (h_t : t < 2) {ti gl be al n sz : Int} (hi : sInv swC h) (b_ti : (-2147483648) ≤ ti ∧ ti ≤ 2147483647) (b_gl : (-2147483648) ≤ gl ∧ gl ≤ 2147483647) (b_be : (-2147483648) ≤ be ∧ be ≤ 2147483647) (b_al : 0 ≤ al ∧ al ≤ 1) (b_n : 0 ≤ n ∧ n ≤ 8) (b_sz : 0 ≤ sz ∧ sz ≤ 24) {x_ti : Int32} (e_ti : x_ti.toInt = ti) {x_gl : Int32} (e_gl : x_gl.toInt = gl) {x_be : Int32} (e_be : x_be.toInt = be) {x_al : Int32} (e_al : x_al.toInt = al) (p_n : pI h (17 * t + 12) 3 = n) (p_sz : pI h 91 6 = sz) (q0 : h.2.2.2 0 5 = some (17 * t + 9))
    (hR0 : ∀ (h' : zH) (r_ : Int32), sInv swC h' → sMd (seC_m t) h h' → 0 ≤ -ti → pI h' 91 6 = sz → r_.toInt = (-1) → Kp (some (.int r_)) h')
    (hR1 : ∀ (h' : zH) (r_ : Int32), sInv swC h' → sMd (seC_m t) h h' → 0 ≤ ti - 1 → 0 ≤ -ti + 99 → 0 ≤ -gl - 1 → pI h' 91 6 = sz → r_.toInt = (-1) → Kp (some (.int r_)) h')
    (hR2 : ∀ (h' : zH) (r_ : Int32), sInv swC h' → sMd (seC_m t) h h' → 0 ≤ ti - 1 → 0 ≤ -ti + 99 → 0 ≤ gl → 0 ≤ gl - 8 → pI h' 91 6 = sz → r_.toInt = (-1) → Kp (some (.int r_)) h')
    (hR3 : ∀ (h' : zH) (r_ : Int32), sInv swC h' → sMd (seC_m t) h h' → 0 ≤ ti - 1 → 0 ≤ -ti + 99 → 0 ≤ gl → 0 ≤ -gl + 7 → 0 ≤ -gl + n - 1 → 0 ≤ -be - 1 → pI h' 91 6 = sz → r_.toInt = (-1) → Kp (some (.int r_)) h')
    (hR4 : ∀ (h' : zH) (r_ : Int32), sInv swC h' → sMd (seC_m t) h h' → 0 ≤ ti - 1 → 0 ≤ -ti + 99 → 0 ≤ gl → 0 ≤ -gl + 7 → 0 ≤ -gl + n - 1 → 0 ≤ be → 0 ≤ -be + 999 → 0 ≤ -sz + 23 → pI h' 91 6 = sz + 1 → pI h' 96 (sz + 0).toNat = (-1) → pI h' 95 (sz + 0).toNat = al → pI h' 94 (sz + 0).toNat = be → pI h' 93 (sz + 0).toNat = gl → pI h' 92 (sz + 0).toNat = ti → r_.toInt = sz → Kp (some (.int r_)) h')
    (hR5 : ∀ (h' : zH) (r_ : Int32), sInv swC h' → sMd (seC_m t) h h' → 0 ≤ ti - 1 → 0 ≤ -ti + 99 → 0 ≤ gl → 0 ≤ -gl + 7 → 0 ≤ -gl + n - 1 → 0 ≤ be → 0 ≤ -be + 999 → 0 ≤ sz - 24 → pI h' 91 6 = sz → r_.toInt = (-1) → Kp (some (.int r_)) h')
    (hR6 : ∀ (h' : zH) (r_ : Int32), sInv swC h' → sMd (seC_m t) h h' → 0 ≤ ti - 1 → 0 ≤ -ti + 99 → 0 ≤ gl → 0 ≤ -gl + 7 → 0 ≤ -gl + n - 1 → 0 ≤ be → 0 ≤ be - 1000 → pI h' 91 6 = sz → r_.toInt = (-1) → Kp (some (.int r_)) h')
    (hR7 : ∀ (h' : zH) (r_ : Int32), sInv swC h' → sMd (seC_m t) h h' → 0 ≤ ti - 1 → 0 ≤ -ti + 99 → 0 ≤ gl → 0 ≤ -gl + 7 → 0 ≤ gl - n → pI h' 91 6 = sz → r_.toInt = (-1) → Kp (some (.int r_)) h')
    (hR8 : ∀ (h' : zH) (r_ : Int32), sInv swC h' → sMd (seC_m t) h h' → 0 ≤ ti - 1 → 0 ≤ ti - 100 → pI h' 91 6 = sz → r_.toInt = (-1) → Kp (some (.int r_)) h') : zSem l Γ false (d + 1) (zhd 158) [.ref 0, .int x_ti, .int x_gl, .int x_be, .int x_al] h Kp := by
  refine syf_ok (mi := 158) (fun i => [ti, gl, be, al, n, sz].getD i 0) (zall_r seC_b h_t) (fun _ _ hc _ => nomatch hc) hd ⟨_, _, rfl, rfl, ⟨_, _, rfl, ⟨x_ti, rfl, by show (-2147483648) ≤ x_ti.toInt; omega, by show x_ti.toInt ≤ 2147483647; omega⟩, ⟨_, _, rfl, ⟨x_gl, rfl, by show (-2147483648) ≤ x_gl.toInt; omega, by show x_gl.toInt ≤ 2147483647; omega⟩, ⟨_, _, rfl, ⟨x_be, rfl, by show (-2147483648) ≤ x_be.toInt; omega, by show x_be.toInt ≤ 2147483647; omega⟩, ⟨_, _, rfl, ⟨x_al, rfl, by show 0 ≤ x_al.toInt; omega, by show x_al.toInt ≤ 1; omega⟩, rfl⟩⟩⟩⟩⟩ ⟨rfl, ⟨x_ti, rfl, e_ti, by show (-2147483648) ≤ ti; omega, by show ti ≤ 2147483647; omega⟩, ⟨x_gl, rfl, e_gl, by show (-2147483648) ≤ gl; omega, by show gl ≤ 2147483647; omega⟩, ⟨x_be, rfl, e_be, by show (-2147483648) ≤ be; omega, by show be ≤ 2147483647; omega⟩, ⟨x_al, rfl, e_al, by show 0 ≤ al; omega, by show al ≤ 1; omega⟩, trivial⟩ ⟨(fun _ hc => nomatch hc), (sfm q0 (fun _ hc => nomatch hc)), (fun _ hc => nomatch hc), Or.inl rfl⟩ ⟨⟨p_n, by show 0 ≤ n; omega, by show n ≤ 8; omega⟩, ⟨p_sz, by show 0 ≤ sz; omega, by show sz ≤ 24; omega⟩, trivial⟩ trivial (fun _ hc => nomatch hc) hi ?_ ?_
  · intro e he lo' st' h' hp hi' hm
    cases he
  · intro e he r' h' hp hi' hm
    rcases List.mem_cons.mp he with rfl | he
    · obtain ⟨p1, -, hz⟩ := hp
      obtain ⟨⟨z1, z2, z3, z4⟩, z5, z6⟩ := hz
      have c0 : 0 ≤ -ti := by have q_ : (0 : Int) ≤ ((-1) * ti + 0) + 0 := z4 ([(0, (-1))], 0) (List.mem_of_getElem? (i := 0) rfl); omega
      have k0 : pI h' 91 6 = sz := (show pI h' 91 6 = (1 * sz + 0) + 0 from z1 (91, (none, 6), ([(5, 1)], 0)) (List.mem_of_getElem? (i := 0) rfl)).trans (by omega)
      obtain ⟨r_, rfl, hv⟩ := ansI p1 (z2 (0, ([], (-1))) (List.mem_of_getElem? (i := 0) rfl))
      have s0 : r_.toInt = (-1) := (show r_.toInt = 0 + (-1) from hv).trans (by omega)
      exact hR0 h' r_ hi' hm c0 k0 s0
    rcases List.mem_cons.mp he with rfl | he
    · obtain ⟨p1, -, hz⟩ := hp
      obtain ⟨⟨z1, z2, z3, z4⟩, z5, z6⟩ := hz
      have c0 : 0 ≤ ti - 1 := by have q_ : (0 : Int) ≤ (1 * ti + 0) + (-1) := z4 ([(0, 1)], (-1)) (List.mem_of_getElem? (i := 0) rfl); omega
      have c1 : 0 ≤ -ti + 99 := by have q_ : (0 : Int) ≤ ((-1) * ti + 0) + 99 := z4 ([(0, (-1))], 99) (List.mem_of_getElem? (i := 1) rfl); omega
      have c2 : 0 ≤ -gl - 1 := by have q_ : (0 : Int) ≤ ((-1) * gl + 0) + (-1) := z4 ([(1, (-1))], (-1)) (List.mem_of_getElem? (i := 2) rfl); omega
      have k0 : pI h' 91 6 = sz := (show pI h' 91 6 = (1 * sz + 0) + 0 from z1 (91, (none, 6), ([(5, 1)], 0)) (List.mem_of_getElem? (i := 0) rfl)).trans (by omega)
      obtain ⟨r_, rfl, hv⟩ := ansI p1 (z2 (0, ([], (-1))) (List.mem_of_getElem? (i := 0) rfl))
      have s0 : r_.toInt = (-1) := (show r_.toInt = 0 + (-1) from hv).trans (by omega)
      exact hR1 h' r_ hi' hm c0 c1 c2 k0 s0
    rcases List.mem_cons.mp he with rfl | he
    · obtain ⟨p1, -, hz⟩ := hp
      obtain ⟨⟨z1, z2, z3, z4⟩, z5, z6⟩ := hz
      have c0 : 0 ≤ ti - 1 := by have q_ : (0 : Int) ≤ (1 * ti + 0) + (-1) := z4 ([(0, 1)], (-1)) (List.mem_of_getElem? (i := 0) rfl); omega
      have c1 : 0 ≤ -ti + 99 := by have q_ : (0 : Int) ≤ ((-1) * ti + 0) + 99 := z4 ([(0, (-1))], 99) (List.mem_of_getElem? (i := 1) rfl); omega
      have c2 : 0 ≤ gl := by have q_ : (0 : Int) ≤ (1 * gl + 0) + 0 := z4 ([(1, 1)], 0) (List.mem_of_getElem? (i := 2) rfl); omega
      have c3 : 0 ≤ gl - 8 := by have q_ : (0 : Int) ≤ (1 * gl + 0) + (-8) := z4 ([(1, 1)], (-8)) (List.mem_of_getElem? (i := 3) rfl); omega
      have k0 : pI h' 91 6 = sz := (show pI h' 91 6 = (1 * sz + 0) + 0 from z1 (91, (none, 6), ([(5, 1)], 0)) (List.mem_of_getElem? (i := 0) rfl)).trans (by omega)
      obtain ⟨r_, rfl, hv⟩ := ansI p1 (z2 (0, ([], (-1))) (List.mem_of_getElem? (i := 0) rfl))
      have s0 : r_.toInt = (-1) := (show r_.toInt = 0 + (-1) from hv).trans (by omega)
      exact hR2 h' r_ hi' hm c0 c1 c2 c3 k0 s0
    rcases List.mem_cons.mp he with rfl | he
    · obtain ⟨p1, -, hz⟩ := hp
      obtain ⟨⟨z1, z2, z3, z4⟩, z5, z6⟩ := hz
      have c0 : 0 ≤ ti - 1 := by have q_ : (0 : Int) ≤ (1 * ti + 0) + (-1) := z4 ([(0, 1)], (-1)) (List.mem_of_getElem? (i := 0) rfl); omega
      have c1 : 0 ≤ -ti + 99 := by have q_ : (0 : Int) ≤ ((-1) * ti + 0) + 99 := z4 ([(0, (-1))], 99) (List.mem_of_getElem? (i := 1) rfl); omega
      have c2 : 0 ≤ gl := by have q_ : (0 : Int) ≤ (1 * gl + 0) + 0 := z4 ([(1, 1)], 0) (List.mem_of_getElem? (i := 2) rfl); omega
      have c3 : 0 ≤ -gl + 7 := by have q_ : (0 : Int) ≤ ((-1) * gl + 0) + 7 := z4 ([(1, (-1))], 7) (List.mem_of_getElem? (i := 3) rfl); omega
      have c4 : 0 ≤ -gl + n - 1 := by have q_ : (0 : Int) ≤ ((-1) * gl + (1 * n + 0)) + (-1) := z4 ([(1, (-1)), (4, 1)], (-1)) (List.mem_of_getElem? (i := 4) rfl); omega
      have c5 : 0 ≤ -be - 1 := by have q_ : (0 : Int) ≤ ((-1) * be + 0) + (-1) := z4 ([(2, (-1))], (-1)) (List.mem_of_getElem? (i := 5) rfl); omega
      have k0 : pI h' 91 6 = sz := (show pI h' 91 6 = (1 * sz + 0) + 0 from z1 (91, (none, 6), ([(5, 1)], 0)) (List.mem_of_getElem? (i := 0) rfl)).trans (by omega)
      obtain ⟨r_, rfl, hv⟩ := ansI p1 (z2 (0, ([], (-1))) (List.mem_of_getElem? (i := 0) rfl))
      have s0 : r_.toInt = (-1) := (show r_.toInt = 0 + (-1) from hv).trans (by omega)
      exact hR3 h' r_ hi' hm c0 c1 c2 c3 c4 c5 k0 s0
    rcases List.mem_cons.mp he with rfl | he
    · obtain ⟨p1, -, hz⟩ := hp
      obtain ⟨⟨z1, z2, z3, z4⟩, z5, z6⟩ := hz
      have c0 : 0 ≤ ti - 1 := by have q_ : (0 : Int) ≤ (1 * ti + 0) + (-1) := z4 ([(0, 1)], (-1)) (List.mem_of_getElem? (i := 0) rfl); omega
      have c1 : 0 ≤ -ti + 99 := by have q_ : (0 : Int) ≤ ((-1) * ti + 0) + 99 := z4 ([(0, (-1))], 99) (List.mem_of_getElem? (i := 1) rfl); omega
      have c2 : 0 ≤ gl := by have q_ : (0 : Int) ≤ (1 * gl + 0) + 0 := z4 ([(1, 1)], 0) (List.mem_of_getElem? (i := 2) rfl); omega
      have c3 : 0 ≤ -gl + 7 := by have q_ : (0 : Int) ≤ ((-1) * gl + 0) + 7 := z4 ([(1, (-1))], 7) (List.mem_of_getElem? (i := 3) rfl); omega
      have c4 : 0 ≤ -gl + n - 1 := by have q_ : (0 : Int) ≤ ((-1) * gl + (1 * n + 0)) + (-1) := z4 ([(1, (-1)), (4, 1)], (-1)) (List.mem_of_getElem? (i := 4) rfl); omega
      have c5 : 0 ≤ be := by have q_ : (0 : Int) ≤ (1 * be + 0) + 0 := z4 ([(2, 1)], 0) (List.mem_of_getElem? (i := 5) rfl); omega
      have c6 : 0 ≤ -be + 999 := by have q_ : (0 : Int) ≤ ((-1) * be + 0) + 999 := z4 ([(2, (-1))], 999) (List.mem_of_getElem? (i := 6) rfl); omega
      have c7 : 0 ≤ -sz + 23 := by have q_ : (0 : Int) ≤ ((-1) * sz + 0) + 23 := z4 ([(5, (-1))], 23) (List.mem_of_getElem? (i := 7) rfl); omega
      have k0 : pI h' 91 6 = sz + 1 := (show pI h' 91 6 = (1 * sz + 0) + 1 from z1 (91, (none, 6), ([(5, 1)], 1)) (List.mem_of_getElem? (i := 0) rfl)).trans (by omega)
      have k1 : pI h' 96 (sz + 0).toNat = (-1) := (show pI h' 96 (sz + 0).toNat = 0 + (-1) from z1 (96, (some 5, 0), ([], (-1))) (List.mem_of_getElem? (i := 1) rfl)).trans (by omega)
      have k2 : pI h' 95 (sz + 0).toNat = al := (show pI h' 95 (sz + 0).toNat = (1 * al + 0) + 0 from z1 (95, (some 5, 0), ([(3, 1)], 0)) (List.mem_of_getElem? (i := 2) rfl)).trans (by omega)
      have k3 : pI h' 94 (sz + 0).toNat = be := (show pI h' 94 (sz + 0).toNat = (1 * be + 0) + 0 from z1 (94, (some 5, 0), ([(2, 1)], 0)) (List.mem_of_getElem? (i := 3) rfl)).trans (by omega)
      have k4 : pI h' 93 (sz + 0).toNat = gl := (show pI h' 93 (sz + 0).toNat = (1 * gl + 0) + 0 from z1 (93, (some 5, 0), ([(1, 1)], 0)) (List.mem_of_getElem? (i := 4) rfl)).trans (by omega)
      have k5 : pI h' 92 (sz + 0).toNat = ti := (show pI h' 92 (sz + 0).toNat = (1 * ti + 0) + 0 from z1 (92, (some 5, 0), ([(0, 1)], 0)) (List.mem_of_getElem? (i := 5) rfl)).trans (by omega)
      obtain ⟨r_, rfl, hv⟩ := ansI p1 (z2 (0, ([(5, 1)], 0)) (List.mem_of_getElem? (i := 0) rfl))
      have s0 : r_.toInt = sz := (show r_.toInt = (1 * sz + 0) + 0 from hv).trans (by omega)
      exact hR4 h' r_ hi' hm c0 c1 c2 c3 c4 c5 c6 c7 k0 k1 k2 k3 k4 k5 s0
    rcases List.mem_cons.mp he with rfl | he
    · obtain ⟨p1, -, hz⟩ := hp
      obtain ⟨⟨z1, z2, z3, z4⟩, z5, z6⟩ := hz
      have c0 : 0 ≤ ti - 1 := by have q_ : (0 : Int) ≤ (1 * ti + 0) + (-1) := z4 ([(0, 1)], (-1)) (List.mem_of_getElem? (i := 0) rfl); omega
      have c1 : 0 ≤ -ti + 99 := by have q_ : (0 : Int) ≤ ((-1) * ti + 0) + 99 := z4 ([(0, (-1))], 99) (List.mem_of_getElem? (i := 1) rfl); omega
      have c2 : 0 ≤ gl := by have q_ : (0 : Int) ≤ (1 * gl + 0) + 0 := z4 ([(1, 1)], 0) (List.mem_of_getElem? (i := 2) rfl); omega
      have c3 : 0 ≤ -gl + 7 := by have q_ : (0 : Int) ≤ ((-1) * gl + 0) + 7 := z4 ([(1, (-1))], 7) (List.mem_of_getElem? (i := 3) rfl); omega
      have c4 : 0 ≤ -gl + n - 1 := by have q_ : (0 : Int) ≤ ((-1) * gl + (1 * n + 0)) + (-1) := z4 ([(1, (-1)), (4, 1)], (-1)) (List.mem_of_getElem? (i := 4) rfl); omega
      have c5 : 0 ≤ be := by have q_ : (0 : Int) ≤ (1 * be + 0) + 0 := z4 ([(2, 1)], 0) (List.mem_of_getElem? (i := 5) rfl); omega
      have c6 : 0 ≤ -be + 999 := by have q_ : (0 : Int) ≤ ((-1) * be + 0) + 999 := z4 ([(2, (-1))], 999) (List.mem_of_getElem? (i := 6) rfl); omega
      have c7 : 0 ≤ sz - 24 := by have q_ : (0 : Int) ≤ (1 * sz + 0) + (-24) := z4 ([(5, 1)], (-24)) (List.mem_of_getElem? (i := 7) rfl); omega
      have k0 : pI h' 91 6 = sz := (show pI h' 91 6 = (1 * sz + 0) + 0 from z1 (91, (none, 6), ([(5, 1)], 0)) (List.mem_of_getElem? (i := 0) rfl)).trans (by omega)
      obtain ⟨r_, rfl, hv⟩ := ansI p1 (z2 (0, ([], (-1))) (List.mem_of_getElem? (i := 0) rfl))
      have s0 : r_.toInt = (-1) := (show r_.toInt = 0 + (-1) from hv).trans (by omega)
      exact hR5 h' r_ hi' hm c0 c1 c2 c3 c4 c5 c6 c7 k0 s0
    rcases List.mem_cons.mp he with rfl | he
    · obtain ⟨p1, -, hz⟩ := hp
      obtain ⟨⟨z1, z2, z3, z4⟩, z5, z6⟩ := hz
      have c0 : 0 ≤ ti - 1 := by have q_ : (0 : Int) ≤ (1 * ti + 0) + (-1) := z4 ([(0, 1)], (-1)) (List.mem_of_getElem? (i := 0) rfl); omega
      have c1 : 0 ≤ -ti + 99 := by have q_ : (0 : Int) ≤ ((-1) * ti + 0) + 99 := z4 ([(0, (-1))], 99) (List.mem_of_getElem? (i := 1) rfl); omega
      have c2 : 0 ≤ gl := by have q_ : (0 : Int) ≤ (1 * gl + 0) + 0 := z4 ([(1, 1)], 0) (List.mem_of_getElem? (i := 2) rfl); omega
      have c3 : 0 ≤ -gl + 7 := by have q_ : (0 : Int) ≤ ((-1) * gl + 0) + 7 := z4 ([(1, (-1))], 7) (List.mem_of_getElem? (i := 3) rfl); omega
      have c4 : 0 ≤ -gl + n - 1 := by have q_ : (0 : Int) ≤ ((-1) * gl + (1 * n + 0)) + (-1) := z4 ([(1, (-1)), (4, 1)], (-1)) (List.mem_of_getElem? (i := 4) rfl); omega
      have c5 : 0 ≤ be := by have q_ : (0 : Int) ≤ (1 * be + 0) + 0 := z4 ([(2, 1)], 0) (List.mem_of_getElem? (i := 5) rfl); omega
      have c6 : 0 ≤ be - 1000 := by have q_ : (0 : Int) ≤ (1 * be + 0) + (-1000) := z4 ([(2, 1)], (-1000)) (List.mem_of_getElem? (i := 6) rfl); omega
      have k0 : pI h' 91 6 = sz := (show pI h' 91 6 = (1 * sz + 0) + 0 from z1 (91, (none, 6), ([(5, 1)], 0)) (List.mem_of_getElem? (i := 0) rfl)).trans (by omega)
      obtain ⟨r_, rfl, hv⟩ := ansI p1 (z2 (0, ([], (-1))) (List.mem_of_getElem? (i := 0) rfl))
      have s0 : r_.toInt = (-1) := (show r_.toInt = 0 + (-1) from hv).trans (by omega)
      exact hR6 h' r_ hi' hm c0 c1 c2 c3 c4 c5 c6 k0 s0
    rcases List.mem_cons.mp he with rfl | he
    · obtain ⟨p1, -, hz⟩ := hp
      obtain ⟨⟨z1, z2, z3, z4⟩, z5, z6⟩ := hz
      have c0 : 0 ≤ ti - 1 := by have q_ : (0 : Int) ≤ (1 * ti + 0) + (-1) := z4 ([(0, 1)], (-1)) (List.mem_of_getElem? (i := 0) rfl); omega
      have c1 : 0 ≤ -ti + 99 := by have q_ : (0 : Int) ≤ ((-1) * ti + 0) + 99 := z4 ([(0, (-1))], 99) (List.mem_of_getElem? (i := 1) rfl); omega
      have c2 : 0 ≤ gl := by have q_ : (0 : Int) ≤ (1 * gl + 0) + 0 := z4 ([(1, 1)], 0) (List.mem_of_getElem? (i := 2) rfl); omega
      have c3 : 0 ≤ -gl + 7 := by have q_ : (0 : Int) ≤ ((-1) * gl + 0) + 7 := z4 ([(1, (-1))], 7) (List.mem_of_getElem? (i := 3) rfl); omega
      have c4 : 0 ≤ gl - n := by have q_ : (0 : Int) ≤ (1 * gl + ((-1) * n + 0)) + 0 := z4 ([(1, 1), (4, (-1))], 0) (List.mem_of_getElem? (i := 4) rfl); omega
      have k0 : pI h' 91 6 = sz := (show pI h' 91 6 = (1 * sz + 0) + 0 from z1 (91, (none, 6), ([(5, 1)], 0)) (List.mem_of_getElem? (i := 0) rfl)).trans (by omega)
      obtain ⟨r_, rfl, hv⟩ := ansI p1 (z2 (0, ([], (-1))) (List.mem_of_getElem? (i := 0) rfl))
      have s0 : r_.toInt = (-1) := (show r_.toInt = 0 + (-1) from hv).trans (by omega)
      exact hR7 h' r_ hi' hm c0 c1 c2 c3 c4 k0 s0
    rcases List.mem_cons.mp he with rfl | he
    · obtain ⟨p1, -, hz⟩ := hp
      obtain ⟨⟨z1, z2, z3, z4⟩, z5, z6⟩ := hz
      have c0 : 0 ≤ ti - 1 := by have q_ : (0 : Int) ≤ (1 * ti + 0) + (-1) := z4 ([(0, 1)], (-1)) (List.mem_of_getElem? (i := 0) rfl); omega
      have c1 : 0 ≤ ti - 100 := by have q_ : (0 : Int) ≤ (1 * ti + 0) + (-100) := z4 ([(0, 1)], (-100)) (List.mem_of_getElem? (i := 1) rfl); omega
      have k0 : pI h' 91 6 = sz := (show pI h' 91 6 = (1 * sz + 0) + 0 from z1 (91, (none, 6), ([(5, 1)], 0)) (List.mem_of_getElem? (i := 0) rfl)).trans (by omega)
      obtain ⟨r_, rfl, hv⟩ := ansI p1 (z2 (0, ([], (-1))) (List.mem_of_getElem? (i := 0) rfl))
      have s0 : r_.toInt = (-1) := (show r_.toInt = 0 + (-1) from hv).trans (by omega)
      exact hR8 h' r_ hi' hm c0 c1 k0 s0
    cases he
def seN_L (v : Nat) : List sT := [.inr (.inl 0), .inl ((-1), 99), .inl (0, 23), .inl (0, 999), .inl (0, 1)]
def seN_A (v : Nat) : sAs := ([], [], [], [])
def seN_P (v : Nat) : List sP0 := [(0, (none, 76), ((v : Int), (v : Int)))]
def seN_G (v : Nat) : List sP0 := []
def seN_B (v : Nat) : List (Nat × Nat × Int) := []
def seN_m (v : Nat) : sM := [(0, 76, 77), (39, 4 * v, (4 * v + 4))]
def seN_r0 (v : Nat) : sXr := (some (.inl sf32), sA0, [], ([(0, (none, 76), ([], ((v : Int) + 1))), (39, (none, (((4 * v + 3) : Nat) : Int)), ([(3, 1)], 0)), (39, (none, (((4 * v + 2) : Nat) : Int)), ([(2, 1)], 0)), (39, (none, (((4 * v + 1) : Nat) : Int)), ([(1, 1)], 0)), (39, (none, ((4 * v : Nat) : Int)), ([(0, 1)], 0))], [(0, ([], (v : Int)))], [], []), [], [])
theorem seN_b : ((List.range 24).all fun v => syfB swMs sT0 (seN_m v) 400 0 296 (seN_L v) (seN_A v) (seN_P v) (seN_G v) (seN_B v) [] [seN_r0 v]) = true := by decide +kernel
theorem seN {l : Launch} {Γ : zG} {d : Nat} (hd : 0 ≤ d) {Kp : Option Value → zH → Prop} {h : zH} {v : Nat} (h_v : v < 24) {ti gl be al : Int} (hi : sInv swMs h) (b_ti : (-1) ≤ ti ∧ ti ≤ 99) (b_gl : 0 ≤ gl ∧ gl ≤ 23) (b_be : 0 ≤ be ∧ be ≤ 999) (b_al : 0 ≤ al ∧ al ≤ 1) {x_ti : Int32} (e_ti : x_ti.toInt = ti) {x_gl : Int32} (e_gl : x_gl.toInt = gl) {x_be : Int32} (e_be : x_be.toInt = be) {x_al : Int32} (e_al : x_al.toInt = al) (p_sz : pI h 0 76 = (v : Int))
    (hR0 : ∀ (h' : zH) (r_ : Int32), sInv swMs h' → sMd (seN_m v) h h' → pI h' 0 76 = ((v : Int) + 1) → pI h' 39 (4 * v + 3) = al → pI h' 39 (4 * v + 2) = be → pI h' 39 (4 * v + 1) = gl → pI h' 39 (4 * v) = ti → r_.toInt = (v : Int) → Kp (some (.int r_)) h') : zSem l Γ false (d + 1) (zhd 296) [.ref 0, .int x_ti, .int x_gl, .int x_be, .int x_al] h Kp := by
  refine syf_ok (mi := 296) (fun i => [ti, gl, be, al, (v : Int)].getD i 0) (zall_r seN_b h_v) (fun _ _ hc _ => nomatch hc) hd ⟨_, _, rfl, rfl, ⟨_, _, rfl, ⟨x_ti, rfl, by show (-1) ≤ x_ti.toInt; omega, by show x_ti.toInt ≤ 99; omega⟩, ⟨_, _, rfl, ⟨x_gl, rfl, by show 0 ≤ x_gl.toInt; omega, by show x_gl.toInt ≤ 23; omega⟩, ⟨_, _, rfl, ⟨x_be, rfl, by show 0 ≤ x_be.toInt; omega, by show x_be.toInt ≤ 999; omega⟩, ⟨_, _, rfl, ⟨x_al, rfl, by show 0 ≤ x_al.toInt; omega, by show x_al.toInt ≤ 1; omega⟩, rfl⟩⟩⟩⟩⟩ ⟨rfl, ⟨x_ti, rfl, e_ti, by show (-1) ≤ ti; omega, by show ti ≤ 99; omega⟩, ⟨x_gl, rfl, e_gl, by show 0 ≤ gl; omega, by show gl ≤ 23; omega⟩, ⟨x_be, rfl, e_be, by show 0 ≤ be; omega, by show be ≤ 999; omega⟩, ⟨x_al, rfl, e_al, by show 0 ≤ al; omega, by show al ≤ 1; omega⟩, trivial⟩ ⟨(fun _ hc => nomatch hc), (fun _ hc => nomatch hc), (fun _ hc => nomatch hc), Or.inl rfl⟩ ⟨⟨p_sz, by show (v : Int) ≤ (v : Int); omega, by show (v : Int) ≤ (v : Int); omega⟩, trivial⟩ trivial (fun _ hc => nomatch hc) hi ?_ ?_
  · intro e he lo' st' h' hp hi' hm
    cases he
  · intro e he r' h' hp hi' hm
    rcases List.mem_cons.mp he with rfl | he
    · obtain ⟨p1, -, hz⟩ := hp
      obtain ⟨⟨z1, z2, z3, z4⟩, z5, z6⟩ := hz
      have k0 : pI h' 0 76 = ((v : Int) + 1) := (show pI h' 0 76 = 0 + ((v : Int) + 1) from z1 (0, (none, 76), ([], ((v : Int) + 1))) (List.mem_of_getElem? (i := 0) rfl)).trans (by omega)
      have k1 : pI h' 39 (4 * v + 3) = al := (show pI h' 39 (4 * v + 3) = (1 * al + 0) + 0 from z1 (39, (none, (((4 * v + 3) : Nat) : Int)), ([(3, 1)], 0)) (List.mem_of_getElem? (i := 1) rfl)).trans (by omega)
      have k2 : pI h' 39 (4 * v + 2) = be := (show pI h' 39 (4 * v + 2) = (1 * be + 0) + 0 from z1 (39, (none, (((4 * v + 2) : Nat) : Int)), ([(2, 1)], 0)) (List.mem_of_getElem? (i := 2) rfl)).trans (by omega)
      have k3 : pI h' 39 (4 * v + 1) = gl := (show pI h' 39 (4 * v + 1) = (1 * gl + 0) + 0 from z1 (39, (none, (((4 * v + 1) : Nat) : Int)), ([(1, 1)], 0)) (List.mem_of_getElem? (i := 3) rfl)).trans (by omega)
      have k4 : pI h' 39 (4 * v) = ti := (show pI h' 39 (4 * v) = (1 * ti + 0) + 0 from z1 (39, (none, ((4 * v : Nat) : Int)), ([(0, 1)], 0)) (List.mem_of_getElem? (i := 4) rfl)).trans (by omega)
      obtain ⟨r_, rfl, hv⟩ := ansI p1 (z2 (0, ([], (v : Int))) (List.mem_of_getElem? (i := 0) rfl))
      have s0 : r_.toInt = (v : Int) := (show r_.toInt = 0 + (v : Int) from hv).trans (by omega)
      exact hR0 h' r_ hi' hm k0 k1 k2 k3 k4 s0
    cases he
def seM_L (v : Nat) : List sT := [.inr (.inl 0), .inl sf32, .inl sf32, .inl sf32, .inl (0, 1)]
def seM_A (v : Nat) : sAs := ([], [], [], [])
def seM_P (v : Nat) : List sP0 := [(0, (none, 13), (0, 8)), (0, (none, 76), ((v : Int), (v : Int)))]
def seM_G (v : Nat) : List sP0 := []
def seM_B (v : Nat) : List (Nat × Nat × Int) := []
def seM_m (v : Nat) : sM := [(0, 2, 3)]
def seM_e0 (v : Nat) : sXe := (61, [.inl sf32, .inl sf32, .inl sf32, .inl sf32, .inr (.inl 0)], [], sA0, [], ([(0, (none, 2), ([], 0))], [(0, ([], 0)), (1, ([(2, 1)], 0)), (2, ([(1, 1)], 0)), (3, ([(0, 1)], 0))], [], [([(0, 1)], (-1)), ([(0, (-1))], 99), ([(1, 1)], 0), ([(1, (-1)), (4, 1)], (-1)), ([(2, 1)], 0), ([(2, (-1))], 999), ([(3, 1)], 0), ([(3, (-1))], 0)]), [], [])
def seM_e1 (v : Nat) : sXe := (61, [.inl sf32, .inl sf32, .inl sf32, .inl sf32, .inr (.inl 0)], [], sA0, [], ([(0, (none, 2), ([], 0))], [(0, ([], 1)), (1, ([(2, 1)], 0)), (2, ([(1, 1)], 0)), (3, ([(0, 1)], 0))], [], [([(0, 1)], (-1)), ([(0, (-1))], 99), ([(1, 1)], 0), ([(1, (-1)), (4, 1)], (-1)), ([(2, 1)], 0), ([(2, (-1))], 999)]), [(([(3, 1)], 0), ([], 0))], [])
def seM_r0 (v : Nat) : sXr := (some (.inl sf32), sA0, [], ([(0, (none, 2), ([], 0))], [(0, ([], (-1)))], [], [([(0, (-1))], 0)]), [], [])
def seM_r1 (v : Nat) : sXr := (some (.inl sf32), sA0, [], ([(0, (none, 2), ([], 0))], [(0, ([], (-1)))], [], [([(0, 1)], (-1)), ([(0, 1)], (-100))]), [], [])
def seM_r2 (v : Nat) : sXr := (some (.inl sf32), sA0, [], ([(0, (none, 2), ([], 0))], [(0, ([], (-1)))], [], [([(0, 1)], (-1)), ([(0, (-1))], 99), ([(1, (-1))], (-1))]), [], [])
def seM_r3 (v : Nat) : sXr := (some (.inl sf32), sA0, [], ([(0, (none, 2), ([], 0))], [(0, ([], (-1)))], [], [([(0, 1)], (-1)), ([(0, (-1))], 99), ([(1, 1)], 0), ([(1, 1), (4, (-1))], 0)]), [], [])
def seM_r4 (v : Nat) : sXr := (some (.inl sf32), sA0, [], ([(0, (none, 2), ([], 0))], [(0, ([], (-1)))], [], [([(0, 1)], (-1)), ([(0, (-1))], 99), ([(1, 1)], 0), ([(1, (-1)), (4, 1)], (-1)), ([(2, (-1))], (-1))]), [], [])
def seM_r5 (v : Nat) : sXr := (some (.inl sf32), sA0, [], ([(0, (none, 2), ([], 0))], [(0, ([], (-1)))], [], [([(0, 1)], (-1)), ([(0, (-1))], 99), ([(1, 1)], 0), ([(1, (-1)), (4, 1)], (-1)), ([(2, 1)], 0), ([(2, 1)], (-1000))]), [], [])
theorem seM_b : ((List.range 24).all fun v => syfB swM sT0 (seM_m v) 400 1 295 (seM_L v) (seM_A v) (seM_P v) (seM_G v) (seM_B v) [seM_e0 v, seM_e1 v] [seM_r0 v, seM_r1 v, seM_r2 v, seM_r3 v, seM_r4 v, seM_r5 v]) = true := by decide +kernel
theorem seM {l : Launch} {Γ : zG} {d : Nat} (hd : 1 ≤ d) {Kp : Option Value → zH → Prop} {h : zH} {v : Nat} (h_v : v < 24) {ti gl be al n : Int} (hi : sInv swM h) (b_ti : (-2147483648) ≤ ti ∧ ti ≤ 2147483647) (b_gl : (-2147483648) ≤ gl ∧ gl ≤ 2147483647) (b_be : (-2147483648) ≤ be ∧ be ≤ 2147483647) (b_al : 0 ≤ al ∧ al ≤ 1) (b_n : 0 ≤ n ∧ n ≤ 8) {x_ti : Int32} (e_ti : x_ti.toInt = ti) {x_gl : Int32} (e_gl : x_gl.toInt = gl) {x_be : Int32} (e_be : x_be.toInt = be) {x_al : Int32} (e_al : x_al.toInt = al) (p_n : pI h 0 13 = n) (p_sz : pI h 0 76 = (v : Int))
    (hE0 : ∀ (lo' : zL) (h' : zH) (y0 : Int32) (y1 : Int32) (y2 : Int32) (y3 : Int32), sInv swM h' → sMd (seM_m v) h h' → 0 ≤ ti - 1 → 0 ≤ -ti + 99 → 0 ≤ gl → 0 ≤ -gl + n - 1 → 0 ≤ be → 0 ≤ -be + 999 → al = 0 → pI h' 0 2 = 0 → y0.toInt = 0 → y1.toInt = be → y2.toInt = gl → y3.toInt = ti → zX l Γ false (d + 1) (zhd 295) (zMQ' Γ false (zhd 295) Kp) 0 0 61 lo' [.int y0, .int y1, .int y2, .int y3, .ref 0] h')
    (hE1 : ∀ (lo' : zL) (h' : zH) (y0 : Int32) (y1 : Int32) (y2 : Int32) (y3 : Int32), sInv swM h' → sMd (seM_m v) h h' → 0 ≤ ti - 1 → 0 ≤ -ti + 99 → 0 ≤ gl → 0 ≤ -gl + n - 1 → 0 ≤ be → 0 ≤ -be + 999 → al ≠ 0 → pI h' 0 2 = 0 → y0.toInt = 1 → y1.toInt = be → y2.toInt = gl → y3.toInt = ti → zX l Γ false (d + 1) (zhd 295) (zMQ' Γ false (zhd 295) Kp) 0 0 61 lo' [.int y0, .int y1, .int y2, .int y3, .ref 0] h')
    (hR0 : ∀ (h' : zH) (r_ : Int32), sInv swM h' → sMd (seM_m v) h h' → 0 ≤ -ti → pI h' 0 2 = 0 → r_.toInt = (-1) → Kp (some (.int r_)) h')
    (hR1 : ∀ (h' : zH) (r_ : Int32), sInv swM h' → sMd (seM_m v) h h' → 0 ≤ ti - 1 → 0 ≤ ti - 100 → pI h' 0 2 = 0 → r_.toInt = (-1) → Kp (some (.int r_)) h')
    (hR2 : ∀ (h' : zH) (r_ : Int32), sInv swM h' → sMd (seM_m v) h h' → 0 ≤ ti - 1 → 0 ≤ -ti + 99 → 0 ≤ -gl - 1 → pI h' 0 2 = 0 → r_.toInt = (-1) → Kp (some (.int r_)) h')
    (hR3 : ∀ (h' : zH) (r_ : Int32), sInv swM h' → sMd (seM_m v) h h' → 0 ≤ ti - 1 → 0 ≤ -ti + 99 → 0 ≤ gl → 0 ≤ gl - n → pI h' 0 2 = 0 → r_.toInt = (-1) → Kp (some (.int r_)) h')
    (hR4 : ∀ (h' : zH) (r_ : Int32), sInv swM h' → sMd (seM_m v) h h' → 0 ≤ ti - 1 → 0 ≤ -ti + 99 → 0 ≤ gl → 0 ≤ -gl + n - 1 → 0 ≤ -be - 1 → pI h' 0 2 = 0 → r_.toInt = (-1) → Kp (some (.int r_)) h')
    (hR5 : ∀ (h' : zH) (r_ : Int32), sInv swM h' → sMd (seM_m v) h h' → 0 ≤ ti - 1 → 0 ≤ -ti + 99 → 0 ≤ gl → 0 ≤ -gl + n - 1 → 0 ≤ be → 0 ≤ be - 1000 → pI h' 0 2 = 0 → r_.toInt = (-1) → Kp (some (.int r_)) h') : zSem l Γ false (d + 1) (zhd 295) [.ref 0, .int x_ti, .int x_gl, .int x_be, .int x_al] h Kp := by
  refine syf_ok (mi := 295) (fun i => [ti, gl, be, al, n, (v : Int)].getD i 0) (zall_r seM_b h_v) (fun _ _ hc _ => nomatch hc) hd ⟨_, _, rfl, rfl, ⟨_, _, rfl, ⟨x_ti, rfl, by show (-2147483648) ≤ x_ti.toInt; omega, by show x_ti.toInt ≤ 2147483647; omega⟩, ⟨_, _, rfl, ⟨x_gl, rfl, by show (-2147483648) ≤ x_gl.toInt; omega, by show x_gl.toInt ≤ 2147483647; omega⟩, ⟨_, _, rfl, ⟨x_be, rfl, by show (-2147483648) ≤ x_be.toInt; omega, by show x_be.toInt ≤ 2147483647; omega⟩, ⟨_, _, rfl, ⟨x_al, rfl, by show 0 ≤ x_al.toInt; omega, by show x_al.toInt ≤ 1; omega⟩, rfl⟩⟩⟩⟩⟩ ⟨rfl, ⟨x_ti, rfl, e_ti, by show (-2147483648) ≤ ti; omega, by show ti ≤ 2147483647; omega⟩, ⟨x_gl, rfl, e_gl, by show (-2147483648) ≤ gl; omega, by show gl ≤ 2147483647; omega⟩, ⟨x_be, rfl, e_be, by show (-2147483648) ≤ be; omega, by show be ≤ 2147483647; omega⟩, ⟨x_al, rfl, e_al, by show 0 ≤ al; omega, by show al ≤ 1; omega⟩, trivial⟩ ⟨(fun _ hc => nomatch hc), (fun _ hc => nomatch hc), (fun _ hc => nomatch hc), Or.inl rfl⟩ ⟨⟨p_n, by show 0 ≤ n; omega, by show n ≤ 8; omega⟩, ⟨p_sz, by show (v : Int) ≤ (v : Int); omega, by show (v : Int) ≤ (v : Int); omega⟩, trivial⟩ trivial (fun _ hc => nomatch hc) hi ?_ ?_
  · intro e he lo' st' h' hp hi' hm
    rcases List.mem_cons.mp he with rfl | he
    · obtain ⟨p1, p2, -, hz⟩ := hp
      obtain ⟨⟨z1, z2, z3, z4⟩, z5, z6⟩ := hz
      have c0 : 0 ≤ ti - 1 := by have q_ : (0 : Int) ≤ (1 * ti + 0) + (-1) := z4 ([(0, 1)], (-1)) (List.mem_of_getElem? (i := 0) rfl); omega
      have c1 : 0 ≤ -ti + 99 := by have q_ : (0 : Int) ≤ ((-1) * ti + 0) + 99 := z4 ([(0, (-1))], 99) (List.mem_of_getElem? (i := 1) rfl); omega
      have c2 : 0 ≤ gl := by have q_ : (0 : Int) ≤ (1 * gl + 0) + 0 := z4 ([(1, 1)], 0) (List.mem_of_getElem? (i := 2) rfl); omega
      have c3 : 0 ≤ -gl + n - 1 := by have q_ : (0 : Int) ≤ ((-1) * gl + (1 * n + 0)) + (-1) := z4 ([(1, (-1)), (4, 1)], (-1)) (List.mem_of_getElem? (i := 3) rfl); omega
      have c4 : 0 ≤ be := by have q_ : (0 : Int) ≤ (1 * be + 0) + 0 := z4 ([(2, 1)], 0) (List.mem_of_getElem? (i := 4) rfl); omega
      have c5 : 0 ≤ -be + 999 := by have q_ : (0 : Int) ≤ ((-1) * be + 0) + 999 := z4 ([(2, (-1))], 999) (List.mem_of_getElem? (i := 5) rfl); omega
      have c6 : al = 0 := by have q_ : (0 : Int) ≤ (1 * al + 0) + 0 := z4 ([(3, 1)], 0) (List.mem_of_getElem? (i := 6) rfl); have q2_ : (0 : Int) ≤ ((-1) * al + 0) + 0 := z4 ([(3, (-1))], 0) (List.mem_of_getElem? (i := 7) rfl); omega
      have k0 : pI h' 0 2 = 0 := (show pI h' 0 2 = 0 + 0 from z1 (0, (none, 2), ([], 0)) (List.mem_of_getElem? (i := 0) rfl)).trans (by omega)
      obtain ⟨_, _, rfl, ⟨y0, rfl, -⟩, p1⟩ := p1
      obtain ⟨_, _, rfl, ⟨y1, rfl, -⟩, p1⟩ := p1
      obtain ⟨_, _, rfl, ⟨y2, rfl, -⟩, p1⟩ := p1
      obtain ⟨_, _, rfl, ⟨y3, rfl, -⟩, p1⟩ := p1
      obtain ⟨_, _, rfl, hr, p1⟩ := p1
      have hr : _ = Value.ref 0 := hr
      subst hr
      have p1 : _ = [] := p1
      subst p1
      obtain ⟨v_, ev, hv⟩ := z2 (0, ([], 0)) (List.mem_of_getElem? (i := 0) rfl)
      cases ev
      have s0 : y0.toInt = 0 := (show y0.toInt = 0 + 0 from hv).trans (by omega)
      obtain ⟨v_, ev, hv⟩ := z2 (1, ([(2, 1)], 0)) (List.mem_of_getElem? (i := 1) rfl)
      cases ev
      have s1 : y1.toInt = be := (show y1.toInt = (1 * be + 0) + 0 from hv).trans (by omega)
      obtain ⟨v_, ev, hv⟩ := z2 (2, ([(1, 1)], 0)) (List.mem_of_getElem? (i := 2) rfl)
      cases ev
      have s2 : y2.toInt = gl := (show y2.toInt = (1 * gl + 0) + 0 from hv).trans (by omega)
      obtain ⟨v_, ev, hv⟩ := z2 (3, ([(0, 1)], 0)) (List.mem_of_getElem? (i := 3) rfl)
      cases ev
      have s3 : y3.toInt = ti := (show y3.toInt = (1 * ti + 0) + 0 from hv).trans (by omega)
      exact hE0 lo' h' y0 y1 y2 y3 hi' hm c0 c1 c2 c3 c4 c5 c6 k0 s0 s1 s2 s3
    rcases List.mem_cons.mp he with rfl | he
    · obtain ⟨p1, p2, -, hz⟩ := hp
      obtain ⟨⟨z1, z2, z3, z4⟩, z5, z6⟩ := hz
      have c0 : 0 ≤ ti - 1 := by have q_ : (0 : Int) ≤ (1 * ti + 0) + (-1) := z4 ([(0, 1)], (-1)) (List.mem_of_getElem? (i := 0) rfl); omega
      have c1 : 0 ≤ -ti + 99 := by have q_ : (0 : Int) ≤ ((-1) * ti + 0) + 99 := z4 ([(0, (-1))], 99) (List.mem_of_getElem? (i := 1) rfl); omega
      have c2 : 0 ≤ gl := by have q_ : (0 : Int) ≤ (1 * gl + 0) + 0 := z4 ([(1, 1)], 0) (List.mem_of_getElem? (i := 2) rfl); omega
      have c3 : 0 ≤ -gl + n - 1 := by have q_ : (0 : Int) ≤ ((-1) * gl + (1 * n + 0)) + (-1) := z4 ([(1, (-1)), (4, 1)], (-1)) (List.mem_of_getElem? (i := 3) rfl); omega
      have c4 : 0 ≤ be := by have q_ : (0 : Int) ≤ (1 * be + 0) + 0 := z4 ([(2, 1)], 0) (List.mem_of_getElem? (i := 4) rfl); omega
      have c5 : 0 ≤ -be + 999 := by have q_ : (0 : Int) ≤ ((-1) * be + 0) + 999 := z4 ([(2, (-1))], 999) (List.mem_of_getElem? (i := 5) rfl); omega
      have n0 : al ≠ 0 := fun e_ => z5 (([(3, 1)], 0), ([], 0)) (List.mem_of_getElem? (i := 0) rfl) (by show (1 * al + 0) + 0 = 0 + 0; omega)
      have k0 : pI h' 0 2 = 0 := (show pI h' 0 2 = 0 + 0 from z1 (0, (none, 2), ([], 0)) (List.mem_of_getElem? (i := 0) rfl)).trans (by omega)
      obtain ⟨_, _, rfl, ⟨y0, rfl, -⟩, p1⟩ := p1
      obtain ⟨_, _, rfl, ⟨y1, rfl, -⟩, p1⟩ := p1
      obtain ⟨_, _, rfl, ⟨y2, rfl, -⟩, p1⟩ := p1
      obtain ⟨_, _, rfl, ⟨y3, rfl, -⟩, p1⟩ := p1
      obtain ⟨_, _, rfl, hr, p1⟩ := p1
      have hr : _ = Value.ref 0 := hr
      subst hr
      have p1 : _ = [] := p1
      subst p1
      obtain ⟨v_, ev, hv⟩ := z2 (0, ([], 1)) (List.mem_of_getElem? (i := 0) rfl)
      cases ev
      have s0 : y0.toInt = 1 := (show y0.toInt = 0 + 1 from hv).trans (by omega)
      obtain ⟨v_, ev, hv⟩ := z2 (1, ([(2, 1)], 0)) (List.mem_of_getElem? (i := 1) rfl)
      cases ev
      have s1 : y1.toInt = be := (show y1.toInt = (1 * be + 0) + 0 from hv).trans (by omega)
      obtain ⟨v_, ev, hv⟩ := z2 (2, ([(1, 1)], 0)) (List.mem_of_getElem? (i := 2) rfl)
      cases ev
      have s2 : y2.toInt = gl := (show y2.toInt = (1 * gl + 0) + 0 from hv).trans (by omega)
      obtain ⟨v_, ev, hv⟩ := z2 (3, ([(0, 1)], 0)) (List.mem_of_getElem? (i := 3) rfl)
      cases ev
      have s3 : y3.toInt = ti := (show y3.toInt = (1 * ti + 0) + 0 from hv).trans (by omega)
      exact hE1 lo' h' y0 y1 y2 y3 hi' hm c0 c1 c2 c3 c4 c5 n0 k0 s0 s1 s2 s3
    cases he
  · intro e he r' h' hp hi' hm
    rcases List.mem_cons.mp he with rfl | he
    · obtain ⟨p1, -, hz⟩ := hp
      obtain ⟨⟨z1, z2, z3, z4⟩, z5, z6⟩ := hz
      have c0 : 0 ≤ -ti := by have q_ : (0 : Int) ≤ ((-1) * ti + 0) + 0 := z4 ([(0, (-1))], 0) (List.mem_of_getElem? (i := 0) rfl); omega
      have k0 : pI h' 0 2 = 0 := (show pI h' 0 2 = 0 + 0 from z1 (0, (none, 2), ([], 0)) (List.mem_of_getElem? (i := 0) rfl)).trans (by omega)
      obtain ⟨r_, rfl, hv⟩ := ansI p1 (z2 (0, ([], (-1))) (List.mem_of_getElem? (i := 0) rfl))
      have s0 : r_.toInt = (-1) := (show r_.toInt = 0 + (-1) from hv).trans (by omega)
      exact hR0 h' r_ hi' hm c0 k0 s0
    rcases List.mem_cons.mp he with rfl | he
    · obtain ⟨p1, -, hz⟩ := hp
      obtain ⟨⟨z1, z2, z3, z4⟩, z5, z6⟩ := hz
      have c0 : 0 ≤ ti - 1 := by have q_ : (0 : Int) ≤ (1 * ti + 0) + (-1) := z4 ([(0, 1)], (-1)) (List.mem_of_getElem? (i := 0) rfl); omega
      have c1 : 0 ≤ ti - 100 := by have q_ : (0 : Int) ≤ (1 * ti + 0) + (-100) := z4 ([(0, 1)], (-100)) (List.mem_of_getElem? (i := 1) rfl); omega
      have k0 : pI h' 0 2 = 0 := (show pI h' 0 2 = 0 + 0 from z1 (0, (none, 2), ([], 0)) (List.mem_of_getElem? (i := 0) rfl)).trans (by omega)
      obtain ⟨r_, rfl, hv⟩ := ansI p1 (z2 (0, ([], (-1))) (List.mem_of_getElem? (i := 0) rfl))
      have s0 : r_.toInt = (-1) := (show r_.toInt = 0 + (-1) from hv).trans (by omega)
      exact hR1 h' r_ hi' hm c0 c1 k0 s0
    rcases List.mem_cons.mp he with rfl | he
    · obtain ⟨p1, -, hz⟩ := hp
      obtain ⟨⟨z1, z2, z3, z4⟩, z5, z6⟩ := hz
      have c0 : 0 ≤ ti - 1 := by have q_ : (0 : Int) ≤ (1 * ti + 0) + (-1) := z4 ([(0, 1)], (-1)) (List.mem_of_getElem? (i := 0) rfl); omega
      have c1 : 0 ≤ -ti + 99 := by have q_ : (0 : Int) ≤ ((-1) * ti + 0) + 99 := z4 ([(0, (-1))], 99) (List.mem_of_getElem? (i := 1) rfl); omega
      have c2 : 0 ≤ -gl - 1 := by have q_ : (0 : Int) ≤ ((-1) * gl + 0) + (-1) := z4 ([(1, (-1))], (-1)) (List.mem_of_getElem? (i := 2) rfl); omega
      have k0 : pI h' 0 2 = 0 := (show pI h' 0 2 = 0 + 0 from z1 (0, (none, 2), ([], 0)) (List.mem_of_getElem? (i := 0) rfl)).trans (by omega)
      obtain ⟨r_, rfl, hv⟩ := ansI p1 (z2 (0, ([], (-1))) (List.mem_of_getElem? (i := 0) rfl))
      have s0 : r_.toInt = (-1) := (show r_.toInt = 0 + (-1) from hv).trans (by omega)
      exact hR2 h' r_ hi' hm c0 c1 c2 k0 s0
    rcases List.mem_cons.mp he with rfl | he
    · obtain ⟨p1, -, hz⟩ := hp
      obtain ⟨⟨z1, z2, z3, z4⟩, z5, z6⟩ := hz
      have c0 : 0 ≤ ti - 1 := by have q_ : (0 : Int) ≤ (1 * ti + 0) + (-1) := z4 ([(0, 1)], (-1)) (List.mem_of_getElem? (i := 0) rfl); omega
      have c1 : 0 ≤ -ti + 99 := by have q_ : (0 : Int) ≤ ((-1) * ti + 0) + 99 := z4 ([(0, (-1))], 99) (List.mem_of_getElem? (i := 1) rfl); omega
      have c2 : 0 ≤ gl := by have q_ : (0 : Int) ≤ (1 * gl + 0) + 0 := z4 ([(1, 1)], 0) (List.mem_of_getElem? (i := 2) rfl); omega
      have c3 : 0 ≤ gl - n := by have q_ : (0 : Int) ≤ (1 * gl + ((-1) * n + 0)) + 0 := z4 ([(1, 1), (4, (-1))], 0) (List.mem_of_getElem? (i := 3) rfl); omega
      have k0 : pI h' 0 2 = 0 := (show pI h' 0 2 = 0 + 0 from z1 (0, (none, 2), ([], 0)) (List.mem_of_getElem? (i := 0) rfl)).trans (by omega)
      obtain ⟨r_, rfl, hv⟩ := ansI p1 (z2 (0, ([], (-1))) (List.mem_of_getElem? (i := 0) rfl))
      have s0 : r_.toInt = (-1) := (show r_.toInt = 0 + (-1) from hv).trans (by omega)
      exact hR3 h' r_ hi' hm c0 c1 c2 c3 k0 s0
    rcases List.mem_cons.mp he with rfl | he
    · obtain ⟨p1, -, hz⟩ := hp
      obtain ⟨⟨z1, z2, z3, z4⟩, z5, z6⟩ := hz
      have c0 : 0 ≤ ti - 1 := by have q_ : (0 : Int) ≤ (1 * ti + 0) + (-1) := z4 ([(0, 1)], (-1)) (List.mem_of_getElem? (i := 0) rfl); omega
      have c1 : 0 ≤ -ti + 99 := by have q_ : (0 : Int) ≤ ((-1) * ti + 0) + 99 := z4 ([(0, (-1))], 99) (List.mem_of_getElem? (i := 1) rfl); omega
      have c2 : 0 ≤ gl := by have q_ : (0 : Int) ≤ (1 * gl + 0) + 0 := z4 ([(1, 1)], 0) (List.mem_of_getElem? (i := 2) rfl); omega
      have c3 : 0 ≤ -gl + n - 1 := by have q_ : (0 : Int) ≤ ((-1) * gl + (1 * n + 0)) + (-1) := z4 ([(1, (-1)), (4, 1)], (-1)) (List.mem_of_getElem? (i := 3) rfl); omega
      have c4 : 0 ≤ -be - 1 := by have q_ : (0 : Int) ≤ ((-1) * be + 0) + (-1) := z4 ([(2, (-1))], (-1)) (List.mem_of_getElem? (i := 4) rfl); omega
      have k0 : pI h' 0 2 = 0 := (show pI h' 0 2 = 0 + 0 from z1 (0, (none, 2), ([], 0)) (List.mem_of_getElem? (i := 0) rfl)).trans (by omega)
      obtain ⟨r_, rfl, hv⟩ := ansI p1 (z2 (0, ([], (-1))) (List.mem_of_getElem? (i := 0) rfl))
      have s0 : r_.toInt = (-1) := (show r_.toInt = 0 + (-1) from hv).trans (by omega)
      exact hR4 h' r_ hi' hm c0 c1 c2 c3 c4 k0 s0
    rcases List.mem_cons.mp he with rfl | he
    · obtain ⟨p1, -, hz⟩ := hp
      obtain ⟨⟨z1, z2, z3, z4⟩, z5, z6⟩ := hz
      have c0 : 0 ≤ ti - 1 := by have q_ : (0 : Int) ≤ (1 * ti + 0) + (-1) := z4 ([(0, 1)], (-1)) (List.mem_of_getElem? (i := 0) rfl); omega
      have c1 : 0 ≤ -ti + 99 := by have q_ : (0 : Int) ≤ ((-1) * ti + 0) + 99 := z4 ([(0, (-1))], 99) (List.mem_of_getElem? (i := 1) rfl); omega
      have c2 : 0 ≤ gl := by have q_ : (0 : Int) ≤ (1 * gl + 0) + 0 := z4 ([(1, 1)], 0) (List.mem_of_getElem? (i := 2) rfl); omega
      have c3 : 0 ≤ -gl + n - 1 := by have q_ : (0 : Int) ≤ ((-1) * gl + (1 * n + 0)) + (-1) := z4 ([(1, (-1)), (4, 1)], (-1)) (List.mem_of_getElem? (i := 3) rfl); omega
      have c4 : 0 ≤ be := by have q_ : (0 : Int) ≤ (1 * be + 0) + 0 := z4 ([(2, 1)], 0) (List.mem_of_getElem? (i := 4) rfl); omega
      have c5 : 0 ≤ be - 1000 := by have q_ : (0 : Int) ≤ (1 * be + 0) + (-1000) := z4 ([(2, 1)], (-1000)) (List.mem_of_getElem? (i := 5) rfl); omega
      have k0 : pI h' 0 2 = 0 := (show pI h' 0 2 = 0 + 0 from z1 (0, (none, 2), ([], 0)) (List.mem_of_getElem? (i := 0) rfl)).trans (by omega)
      obtain ⟨r_, rfl, hv⟩ := ansI p1 (z2 (0, ([], (-1))) (List.mem_of_getElem? (i := 0) rfl))
      have s0 : r_.toInt = (-1) := (show r_.toInt = 0 + (-1) from hv).trans (by omega)
      exact hR5 h' r_ hi' hm c0 c1 c2 c3 c4 c5 k0 s0
    cases he
def seX_L : List sT := [.inr (.inl 0), .inl sf32, .inl sf32, .inl sf32, .inl (0, 1)]
def seX_A : sAs := ([], [], [], [])
def seX_P : List sP0 := [(0, (none, 13), (0, 8)), (0, (none, 76), (24, 24))]
def seX_G : List sP0 := []
def seX_B : List (Nat × Nat × Int) := []
def seX_m : sM := [(0, 2, 3)]
def seX_r0 : sXr := (some (.inl sf32), sA0, [], ([(0, (none, 2), ([], 0))], [(0, ([], (-1)))], [], []), [], [])
theorem seX_b : syfB swM sT0 seX_m 400 0 295 seX_L seX_A seX_P seX_G seX_B [] [seX_r0] = true := by decide +kernel
theorem seX {l : Launch} {Γ : zG} {d : Nat} (hd : 0 ≤ d) {Kp : Option Value → zH → Prop} {h : zH} {ti gl be al n : Int} (hi : sInv swM h) (b_ti : (-2147483648) ≤ ti ∧ ti ≤ 2147483647) (b_gl : (-2147483648) ≤ gl ∧ gl ≤ 2147483647) (b_be : (-2147483648) ≤ be ∧ be ≤ 2147483647) (b_al : 0 ≤ al ∧ al ≤ 1) (b_n : 0 ≤ n ∧ n ≤ 8) {x_ti : Int32} (e_ti : x_ti.toInt = ti) {x_gl : Int32} (e_gl : x_gl.toInt = gl) {x_be : Int32} (e_be : x_be.toInt = be) {x_al : Int32} (e_al : x_al.toInt = al) (p_n : pI h 0 13 = n) (p_sz : pI h 0 76 = 24)
    (hR0 : ∀ (h' : zH) (r_ : Int32), sInv swM h' → sMd seX_m h h' → pI h' 0 2 = 0 → r_.toInt = (-1) → Kp (some (.int r_)) h') : zSem l Γ false (d + 1) (zhd 295) [.ref 0, .int x_ti, .int x_gl, .int x_be, .int x_al] h Kp := by
  refine syf_ok (mi := 295) (fun i => [ti, gl, be, al, n, 24].getD i 0) seX_b (fun _ _ hc _ => nomatch hc) hd ⟨_, _, rfl, rfl, ⟨_, _, rfl, ⟨x_ti, rfl, by show (-2147483648) ≤ x_ti.toInt; omega, by show x_ti.toInt ≤ 2147483647; omega⟩, ⟨_, _, rfl, ⟨x_gl, rfl, by show (-2147483648) ≤ x_gl.toInt; omega, by show x_gl.toInt ≤ 2147483647; omega⟩, ⟨_, _, rfl, ⟨x_be, rfl, by show (-2147483648) ≤ x_be.toInt; omega, by show x_be.toInt ≤ 2147483647; omega⟩, ⟨_, _, rfl, ⟨x_al, rfl, by show 0 ≤ x_al.toInt; omega, by show x_al.toInt ≤ 1; omega⟩, rfl⟩⟩⟩⟩⟩ ⟨rfl, ⟨x_ti, rfl, e_ti, by show (-2147483648) ≤ ti; omega, by show ti ≤ 2147483647; omega⟩, ⟨x_gl, rfl, e_gl, by show (-2147483648) ≤ gl; omega, by show gl ≤ 2147483647; omega⟩, ⟨x_be, rfl, e_be, by show (-2147483648) ≤ be; omega, by show be ≤ 2147483647; omega⟩, ⟨x_al, rfl, e_al, by show 0 ≤ al; omega, by show al ≤ 1; omega⟩, trivial⟩ ⟨(fun _ hc => nomatch hc), (fun _ hc => nomatch hc), (fun _ hc => nomatch hc), Or.inl rfl⟩ ⟨⟨p_n, by show 0 ≤ n; omega, by show n ≤ 8; omega⟩, ⟨p_sz, by show 24 ≤ 24; omega, by show 24 ≤ 24; omega⟩, trivial⟩ trivial (fun _ hc => nomatch hc) hi ?_ ?_
  · intro e he lo' st' h' hp hi' hm
    cases he
  · intro e he r' h' hp hi' hm
    rcases List.mem_cons.mp he with rfl | he
    · obtain ⟨p1, -, hz⟩ := hp
      obtain ⟨⟨z1, z2, z3, z4⟩, z5, z6⟩ := hz
      have k0 : pI h' 0 2 = 0 := (show pI h' 0 2 = 0 + 0 from z1 (0, (none, 2), ([], 0)) (List.mem_of_getElem? (i := 0) rfl)).trans (by omega)
      obtain ⟨r_, rfl, hv⟩ := ansI p1 (z2 (0, ([], (-1))) (List.mem_of_getElem? (i := 0) rfl))
      have s0 : r_.toInt = (-1) := (show r_.toInt = 0 + (-1) from hv).trans (by omega)
      exact hR0 h' r_ hi' hm k0 s0
    cases he
def seR_L : List (Nat × sT) := []
def seR_S : List sT := [.inl sf32]
def seR_A : sAs := ([], [], [], [])
def seR_P : List sP0 := []
def seR_G : List sP0 := []
def seR_B : List (Nat × Nat × Int) := []
def seR_m : sM := []
def seR_r0 : sXr := (some (.inl sf32), sA0, [], ([], [(0, ([(0, 1)], 0))], [], []), [], [])
theorem seR_b : syeB swM sT0 seR_m 400 0 295 seR_L seR_S seR_A seR_P seR_G seR_B 64 [] [seR_r0] = true := by decide +kernel
theorem seR {l : Launch} {Γ : zG} {d : Nat} (hd : 0 ≤ d) {Kp : Option Value → zH → Prop} {lo : zL} {h : zH} {yv : Int} (hi : sInv swM h) (b_yv : (-2147483648) ≤ yv ∧ yv ≤ 2147483647) {x_yv : Int32} (e_yv : x_yv.toInt = yv)
    (hR0 : ∀ (h' : zH) (r_ : Int32), sInv swM h' → sMd seR_m h h' → r_.toInt = yv → Kp (some (.int r_)) h') : zX l Γ false (d + 1) (zhd 295) (zMQ' Γ false (zhd 295) Kp) 0 0 64 lo [.int x_yv] h := by
  refine sye_ok (mi := 295) (pc := 64) (fun i => [yv].getD i 0) seR_b (fun _ _ hc _ => nomatch hc) hd trivial ⟨x_yv, _, rfl, e_yv, ⟨by show (-2147483648) ≤ yv; omega, by show yv ≤ 2147483647; omega⟩, rfl⟩ ⟨(fun _ hc => nomatch hc), (fun _ hc => nomatch hc), (fun _ hc => nomatch hc), Or.inl rfl⟩ trivial trivial (fun _ hc => nomatch hc) hi ?_ ?_
  · intro e he lo' st' h' hp hi' hm
    cases he
  · intro e he r' h' hp hi' hm
    rcases List.mem_cons.mp he with rfl | he
    · obtain ⟨p1, -, hz⟩ := hp
      obtain ⟨⟨z1, z2, z3, z4⟩, z5, z6⟩ := hz
      obtain ⟨r_, rfl, hv⟩ := ansI p1 (z2 (0, ([(0, 1)], 0)) (List.mem_of_getElem? (i := 0) rfl))
      have s0 : r_.toInt = yv := (show r_.toInt = (1 * yv + 0) + 0 from hv).trans (by omega)
      exact hR0 h' r_ hi' hm s0
    cases he
def skC_L : List sT := [.inr (.inl 0), .inl sf32]
def skC_A : sAs := ([], [], [], [])
def skC_P : List sP0 := [(91, (none, 6), (0, 24))]
def skC_G : List sP0 := []
def skC_B : List (Nat × Nat × Int) := []
def skC_m : sM := [(91, 6, 7), (96, 1, 24)]
def skC_r0 : sXr := (some (.inl sf32), sA0, [], ([(91, (none, 6), ([(1, 1)], 0))], [(0, ([], (-1)))], [], [([(0, (-1))], (-1))]), [], [])
def skC_r1 : sXr := (some (.inl sf32), sA0, [], ([(91, (none, 6), ([(1, 1)], 0))], [(0, ([], (-1)))], [], [([(0, 1)], 0), ([(0, 1), (1, (-1))], 0)]), [], [])
def skC_r2 : sXr := (some (.inl sf32), sA0, [], ([(91, (none, 6), ([(1, 1)], 1)), (96, (some 1, 0), ([(0, 1)], 0))], [(0, ([(1, 1)], 0))], [], [([(0, 1)], 0), ([(0, (-1)), (1, 1)], (-1)), ([(1, (-1))], 23)]), [], [])
def skC_r3 : sXr := (some (.inl sf32), sA0, [], ([(91, (none, 6), ([(1, 1)], 0))], [(0, ([], (-1)))], [], [([(0, 1)], 0), ([(0, (-1)), (1, 1)], (-1)), ([(1, 1)], (-24))]), [], [])
theorem skC_b : syfB swC sT0 skC_m 400 1 160 skC_L skC_A skC_P skC_G skC_B [] [skC_r0, skC_r1, skC_r2, skC_r3] = true := by decide +kernel
theorem skC {l : Launch} {Γ : zG} {d : Nat} (hd : 1 ≤ d) {Kp : Option Value → zH → Prop} {h : zH} {ki sz : Int} (hi : sInv swC h) (b_ki : (-2147483648) ≤ ki ∧ ki ≤ 2147483647) (b_sz : 0 ≤ sz ∧ sz ≤ 24) {x_ki : Int32} (e_ki : x_ki.toInt = ki) (p_sz : pI h 91 6 = sz)
    (hR0 : ∀ (h' : zH) (r_ : Int32), sInv swC h' → sMd skC_m h h' → 0 ≤ -ki - 1 → pI h' 91 6 = sz → r_.toInt = (-1) → Kp (some (.int r_)) h')
    (hR1 : ∀ (h' : zH) (r_ : Int32), sInv swC h' → sMd skC_m h h' → 0 ≤ ki → 0 ≤ ki - sz → pI h' 91 6 = sz → r_.toInt = (-1) → Kp (some (.int r_)) h')
    (hR2 : ∀ (h' : zH) (r_ : Int32), sInv swC h' → sMd skC_m h h' → 0 ≤ ki → 0 ≤ -ki + sz - 1 → 0 ≤ -sz + 23 → pI h' 91 6 = sz + 1 → pI h' 96 (sz + 0).toNat = ki → r_.toInt = sz → Kp (some (.int r_)) h')
    (hR3 : ∀ (h' : zH) (r_ : Int32), sInv swC h' → sMd skC_m h h' → 0 ≤ ki → 0 ≤ -ki + sz - 1 → 0 ≤ sz - 24 → pI h' 91 6 = sz → r_.toInt = (-1) → Kp (some (.int r_)) h') : zSem l Γ false (d + 1) (zhd 160) [.ref 0, .int x_ki] h Kp := by
  refine syf_ok (mi := 160) (fun i => [ki, sz].getD i 0) skC_b (fun _ _ hc _ => nomatch hc) hd ⟨_, _, rfl, rfl, ⟨_, _, rfl, ⟨x_ki, rfl, by show (-2147483648) ≤ x_ki.toInt; omega, by show x_ki.toInt ≤ 2147483647; omega⟩, rfl⟩⟩ ⟨rfl, ⟨x_ki, rfl, e_ki, by show (-2147483648) ≤ ki; omega, by show ki ≤ 2147483647; omega⟩, trivial⟩ ⟨(fun _ hc => nomatch hc), (fun _ hc => nomatch hc), (fun _ hc => nomatch hc), Or.inl rfl⟩ ⟨⟨p_sz, by show 0 ≤ sz; omega, by show sz ≤ 24; omega⟩, trivial⟩ trivial (fun _ hc => nomatch hc) hi ?_ ?_
  · intro e he lo' st' h' hp hi' hm
    cases he
  · intro e he r' h' hp hi' hm
    rcases List.mem_cons.mp he with rfl | he
    · obtain ⟨p1, -, hz⟩ := hp
      obtain ⟨⟨z1, z2, z3, z4⟩, z5, z6⟩ := hz
      have c0 : 0 ≤ -ki - 1 := by have q_ : (0 : Int) ≤ ((-1) * ki + 0) + (-1) := z4 ([(0, (-1))], (-1)) (List.mem_of_getElem? (i := 0) rfl); omega
      have k0 : pI h' 91 6 = sz := (show pI h' 91 6 = (1 * sz + 0) + 0 from z1 (91, (none, 6), ([(1, 1)], 0)) (List.mem_of_getElem? (i := 0) rfl)).trans (by omega)
      obtain ⟨r_, rfl, hv⟩ := ansI p1 (z2 (0, ([], (-1))) (List.mem_of_getElem? (i := 0) rfl))
      have s0 : r_.toInt = (-1) := (show r_.toInt = 0 + (-1) from hv).trans (by omega)
      exact hR0 h' r_ hi' hm c0 k0 s0
    rcases List.mem_cons.mp he with rfl | he
    · obtain ⟨p1, -, hz⟩ := hp
      obtain ⟨⟨z1, z2, z3, z4⟩, z5, z6⟩ := hz
      have c0 : 0 ≤ ki := by have q_ : (0 : Int) ≤ (1 * ki + 0) + 0 := z4 ([(0, 1)], 0) (List.mem_of_getElem? (i := 0) rfl); omega
      have c1 : 0 ≤ ki - sz := by have q_ : (0 : Int) ≤ (1 * ki + ((-1) * sz + 0)) + 0 := z4 ([(0, 1), (1, (-1))], 0) (List.mem_of_getElem? (i := 1) rfl); omega
      have k0 : pI h' 91 6 = sz := (show pI h' 91 6 = (1 * sz + 0) + 0 from z1 (91, (none, 6), ([(1, 1)], 0)) (List.mem_of_getElem? (i := 0) rfl)).trans (by omega)
      obtain ⟨r_, rfl, hv⟩ := ansI p1 (z2 (0, ([], (-1))) (List.mem_of_getElem? (i := 0) rfl))
      have s0 : r_.toInt = (-1) := (show r_.toInt = 0 + (-1) from hv).trans (by omega)
      exact hR1 h' r_ hi' hm c0 c1 k0 s0
    rcases List.mem_cons.mp he with rfl | he
    · obtain ⟨p1, -, hz⟩ := hp
      obtain ⟨⟨z1, z2, z3, z4⟩, z5, z6⟩ := hz
      have c0 : 0 ≤ ki := by have q_ : (0 : Int) ≤ (1 * ki + 0) + 0 := z4 ([(0, 1)], 0) (List.mem_of_getElem? (i := 0) rfl); omega
      have c1 : 0 ≤ -ki + sz - 1 := by have q_ : (0 : Int) ≤ ((-1) * ki + (1 * sz + 0)) + (-1) := z4 ([(0, (-1)), (1, 1)], (-1)) (List.mem_of_getElem? (i := 1) rfl); omega
      have c2 : 0 ≤ -sz + 23 := by have q_ : (0 : Int) ≤ ((-1) * sz + 0) + 23 := z4 ([(1, (-1))], 23) (List.mem_of_getElem? (i := 2) rfl); omega
      have k0 : pI h' 91 6 = sz + 1 := (show pI h' 91 6 = (1 * sz + 0) + 1 from z1 (91, (none, 6), ([(1, 1)], 1)) (List.mem_of_getElem? (i := 0) rfl)).trans (by omega)
      have k1 : pI h' 96 (sz + 0).toNat = ki := (show pI h' 96 (sz + 0).toNat = (1 * ki + 0) + 0 from z1 (96, (some 1, 0), ([(0, 1)], 0)) (List.mem_of_getElem? (i := 1) rfl)).trans (by omega)
      obtain ⟨r_, rfl, hv⟩ := ansI p1 (z2 (0, ([(1, 1)], 0)) (List.mem_of_getElem? (i := 0) rfl))
      have s0 : r_.toInt = sz := (show r_.toInt = (1 * sz + 0) + 0 from hv).trans (by omega)
      exact hR2 h' r_ hi' hm c0 c1 c2 k0 k1 s0
    rcases List.mem_cons.mp he with rfl | he
    · obtain ⟨p1, -, hz⟩ := hp
      obtain ⟨⟨z1, z2, z3, z4⟩, z5, z6⟩ := hz
      have c0 : 0 ≤ ki := by have q_ : (0 : Int) ≤ (1 * ki + 0) + 0 := z4 ([(0, 1)], 0) (List.mem_of_getElem? (i := 0) rfl); omega
      have c1 : 0 ≤ -ki + sz - 1 := by have q_ : (0 : Int) ≤ ((-1) * ki + (1 * sz + 0)) + (-1) := z4 ([(0, (-1)), (1, 1)], (-1)) (List.mem_of_getElem? (i := 1) rfl); omega
      have c2 : 0 ≤ sz - 24 := by have q_ : (0 : Int) ≤ (1 * sz + 0) + (-24) := z4 ([(1, 1)], (-24)) (List.mem_of_getElem? (i := 2) rfl); omega
      have k0 : pI h' 91 6 = sz := (show pI h' 91 6 = (1 * sz + 0) + 0 from z1 (91, (none, 6), ([(1, 1)], 0)) (List.mem_of_getElem? (i := 0) rfl)).trans (by omega)
      obtain ⟨r_, rfl, hv⟩ := ansI p1 (z2 (0, ([], (-1))) (List.mem_of_getElem? (i := 0) rfl))
      have s0 : r_.toInt = (-1) := (show r_.toInt = 0 + (-1) from hv).trans (by omega)
      exact hR3 h' r_ hi' hm c0 c1 c2 k0 s0
    cases he
def skM_L (v : Nat) : List sT := [.inr (.inl 0), .inl sf32]
def skM_A (v : Nat) : sAs := ([], [], [], [])
def skM_P (v : Nat) : List sP0 := [(0, (none, 76), ((v : Int), (v : Int)))]
def skM_G (v : Nat) : List sP0 := []
def skM_B (v : Nat) : List (Nat × Nat × Int) := []
def skM_m (v : Nat) : sM := [(0, 2, 3)]
def skM_e0 (v : Nat) : sXe := (35, [.inl sf32, .inl sf32, .inl sf32, .inl sf32, .inr (.inl 0)], [], sA0, [], ([(0, (none, 2), ([], 0))], [(0, ([], 0)), (1, ([], 0)), (2, ([(0, 1)], 0)), (3, ([], (-1)))], [], [([(0, 1)], 0), ([(0, (-1))], ((v : Int) - 1))]), [], [])
def skM_r0 (v : Nat) : sXr := (some (.inl sf32), sA0, [], ([(0, (none, 2), ([], 0))], [(0, ([], (-1)))], [], [([(0, (-1))], (-1))]), [], [])
def skM_r1 (v : Nat) : sXr := (some (.inl sf32), sA0, [], ([(0, (none, 2), ([], 0))], [(0, ([], (-1)))], [], [([(0, 1)], 0), ([(0, 1)], (-1 * (v : Int)))]), [], [])
theorem skM_b : ((List.range 24).all fun v => syfB swM sT0 (skM_m v) 400 0 297 (skM_L v) (skM_A v) (skM_P v) (skM_G v) (skM_B v) [skM_e0 v] [skM_r0 v, skM_r1 v]) = true := by decide +kernel
theorem skM {l : Launch} {Γ : zG} {d : Nat} (hd : 0 ≤ d) {Kp : Option Value → zH → Prop} {h : zH} {v : Nat} (h_v : v < 24) {ki : Int} (hi : sInv swM h) (b_ki : (-2147483648) ≤ ki ∧ ki ≤ 2147483647) {x_ki : Int32} (e_ki : x_ki.toInt = ki) (p_sz : pI h 0 76 = (v : Int))
    (hE0 : ∀ (lo' : zL) (h' : zH) (y0 : Int32) (y1 : Int32) (y2 : Int32) (y3 : Int32), sInv swM h' → sMd (skM_m v) h h' → 0 ≤ ki → 0 ≤ -ki + ((v : Int) - 1) → pI h' 0 2 = 0 → y0.toInt = 0 → y1.toInt = 0 → y2.toInt = ki → y3.toInt = (-1) → zX l Γ false (d + 1) (zhd 297) (zMQ' Γ false (zhd 297) Kp) 0 0 35 lo' [.int y0, .int y1, .int y2, .int y3, .ref 0] h')
    (hR0 : ∀ (h' : zH) (r_ : Int32), sInv swM h' → sMd (skM_m v) h h' → 0 ≤ -ki - 1 → pI h' 0 2 = 0 → r_.toInt = (-1) → Kp (some (.int r_)) h')
    (hR1 : ∀ (h' : zH) (r_ : Int32), sInv swM h' → sMd (skM_m v) h h' → 0 ≤ ki → 0 ≤ ki + (-1 * (v : Int)) → pI h' 0 2 = 0 → r_.toInt = (-1) → Kp (some (.int r_)) h') : zSem l Γ false (d + 1) (zhd 297) [.ref 0, .int x_ki] h Kp := by
  refine syf_ok (mi := 297) (fun i => [ki, (v : Int)].getD i 0) (zall_r skM_b h_v) (fun _ _ hc _ => nomatch hc) hd ⟨_, _, rfl, rfl, ⟨_, _, rfl, ⟨x_ki, rfl, by show (-2147483648) ≤ x_ki.toInt; omega, by show x_ki.toInt ≤ 2147483647; omega⟩, rfl⟩⟩ ⟨rfl, ⟨x_ki, rfl, e_ki, by show (-2147483648) ≤ ki; omega, by show ki ≤ 2147483647; omega⟩, trivial⟩ ⟨(fun _ hc => nomatch hc), (fun _ hc => nomatch hc), (fun _ hc => nomatch hc), Or.inl rfl⟩ ⟨⟨p_sz, by show (v : Int) ≤ (v : Int); omega, by show (v : Int) ≤ (v : Int); omega⟩, trivial⟩ trivial (fun _ hc => nomatch hc) hi ?_ ?_
  · intro e he lo' st' h' hp hi' hm
    rcases List.mem_cons.mp he with rfl | he
    · obtain ⟨p1, p2, -, hz⟩ := hp
      obtain ⟨⟨z1, z2, z3, z4⟩, z5, z6⟩ := hz
      have c0 : 0 ≤ ki := by have q_ : (0 : Int) ≤ (1 * ki + 0) + 0 := z4 ([(0, 1)], 0) (List.mem_of_getElem? (i := 0) rfl); omega
      have c1 : 0 ≤ -ki + ((v : Int) - 1) := by have q_ : (0 : Int) ≤ ((-1) * ki + 0) + ((v : Int) - 1) := z4 ([(0, (-1))], ((v : Int) - 1)) (List.mem_of_getElem? (i := 1) rfl); omega
      have k0 : pI h' 0 2 = 0 := (show pI h' 0 2 = 0 + 0 from z1 (0, (none, 2), ([], 0)) (List.mem_of_getElem? (i := 0) rfl)).trans (by omega)
      obtain ⟨_, _, rfl, ⟨y0, rfl, -⟩, p1⟩ := p1
      obtain ⟨_, _, rfl, ⟨y1, rfl, -⟩, p1⟩ := p1
      obtain ⟨_, _, rfl, ⟨y2, rfl, -⟩, p1⟩ := p1
      obtain ⟨_, _, rfl, ⟨y3, rfl, -⟩, p1⟩ := p1
      obtain ⟨_, _, rfl, hr, p1⟩ := p1
      have hr : _ = Value.ref 0 := hr
      subst hr
      have p1 : _ = [] := p1
      subst p1
      obtain ⟨v_, ev, hv⟩ := z2 (0, ([], 0)) (List.mem_of_getElem? (i := 0) rfl)
      cases ev
      have s0 : y0.toInt = 0 := (show y0.toInt = 0 + 0 from hv).trans (by omega)
      obtain ⟨v_, ev, hv⟩ := z2 (1, ([], 0)) (List.mem_of_getElem? (i := 1) rfl)
      cases ev
      have s1 : y1.toInt = 0 := (show y1.toInt = 0 + 0 from hv).trans (by omega)
      obtain ⟨v_, ev, hv⟩ := z2 (2, ([(0, 1)], 0)) (List.mem_of_getElem? (i := 2) rfl)
      cases ev
      have s2 : y2.toInt = ki := (show y2.toInt = (1 * ki + 0) + 0 from hv).trans (by omega)
      obtain ⟨v_, ev, hv⟩ := z2 (3, ([], (-1))) (List.mem_of_getElem? (i := 3) rfl)
      cases ev
      have s3 : y3.toInt = (-1) := (show y3.toInt = 0 + (-1) from hv).trans (by omega)
      exact hE0 lo' h' y0 y1 y2 y3 hi' hm c0 c1 k0 s0 s1 s2 s3
    cases he
  · intro e he r' h' hp hi' hm
    rcases List.mem_cons.mp he with rfl | he
    · obtain ⟨p1, -, hz⟩ := hp
      obtain ⟨⟨z1, z2, z3, z4⟩, z5, z6⟩ := hz
      have c0 : 0 ≤ -ki - 1 := by have q_ : (0 : Int) ≤ ((-1) * ki + 0) + (-1) := z4 ([(0, (-1))], (-1)) (List.mem_of_getElem? (i := 0) rfl); omega
      have k0 : pI h' 0 2 = 0 := (show pI h' 0 2 = 0 + 0 from z1 (0, (none, 2), ([], 0)) (List.mem_of_getElem? (i := 0) rfl)).trans (by omega)
      obtain ⟨r_, rfl, hv⟩ := ansI p1 (z2 (0, ([], (-1))) (List.mem_of_getElem? (i := 0) rfl))
      have s0 : r_.toInt = (-1) := (show r_.toInt = 0 + (-1) from hv).trans (by omega)
      exact hR0 h' r_ hi' hm c0 k0 s0
    rcases List.mem_cons.mp he with rfl | he
    · obtain ⟨p1, -, hz⟩ := hp
      obtain ⟨⟨z1, z2, z3, z4⟩, z5, z6⟩ := hz
      have c0 : 0 ≤ ki := by have q_ : (0 : Int) ≤ (1 * ki + 0) + 0 := z4 ([(0, 1)], 0) (List.mem_of_getElem? (i := 0) rfl); omega
      have c1 : 0 ≤ ki + (-1 * (v : Int)) := by have q_ : (0 : Int) ≤ (1 * ki + 0) + (-1 * (v : Int)) := z4 ([(0, 1)], (-1 * (v : Int))) (List.mem_of_getElem? (i := 1) rfl); omega
      have k0 : pI h' 0 2 = 0 := (show pI h' 0 2 = 0 + 0 from z1 (0, (none, 2), ([], 0)) (List.mem_of_getElem? (i := 0) rfl)).trans (by omega)
      obtain ⟨r_, rfl, hv⟩ := ansI p1 (z2 (0, ([], (-1))) (List.mem_of_getElem? (i := 0) rfl))
      have s0 : r_.toInt = (-1) := (show r_.toInt = 0 + (-1) from hv).trans (by omega)
      exact hR1 h' r_ hi' hm c0 c1 k0 s0
    cases he
def skX_L : List sT := [.inr (.inl 0), .inl sf32]
def skX_A : sAs := ([], [], [], [])
def skX_P : List sP0 := [(0, (none, 76), (24, 24))]
def skX_G : List sP0 := []
def skX_B : List (Nat × Nat × Int) := []
def skX_m : sM := [(0, 2, 3)]
def skX_r0 : sXr := (some (.inl sf32), sA0, [], ([(0, (none, 2), ([], 0))], [(0, ([], (-1)))], [], []), [], [])
theorem skX_b : syfB swM sT0 skX_m 400 0 297 skX_L skX_A skX_P skX_G skX_B [] [skX_r0] = true := by decide +kernel
theorem skX {l : Launch} {Γ : zG} {d : Nat} (hd : 0 ≤ d) {Kp : Option Value → zH → Prop} {h : zH} {ki : Int} (hi : sInv swM h) (b_ki : (-2147483648) ≤ ki ∧ ki ≤ 2147483647) {x_ki : Int32} (e_ki : x_ki.toInt = ki) (p_sz : pI h 0 76 = 24)
    (hR0 : ∀ (h' : zH) (r_ : Int32), sInv swM h' → sMd skX_m h h' → pI h' 0 2 = 0 → r_.toInt = (-1) → Kp (some (.int r_)) h') : zSem l Γ false (d + 1) (zhd 297) [.ref 0, .int x_ki] h Kp := by
  refine syf_ok (mi := 297) (fun i => [ki, 24].getD i 0) skX_b (fun _ _ hc _ => nomatch hc) hd ⟨_, _, rfl, rfl, ⟨_, _, rfl, ⟨x_ki, rfl, by show (-2147483648) ≤ x_ki.toInt; omega, by show x_ki.toInt ≤ 2147483647; omega⟩, rfl⟩⟩ ⟨rfl, ⟨x_ki, rfl, e_ki, by show (-2147483648) ≤ ki; omega, by show ki ≤ 2147483647; omega⟩, trivial⟩ ⟨(fun _ hc => nomatch hc), (fun _ hc => nomatch hc), (fun _ hc => nomatch hc), Or.inl rfl⟩ ⟨⟨p_sz, by show 24 ≤ 24; omega, by show 24 ≤ 24; omega⟩, trivial⟩ trivial (fun _ hc => nomatch hc) hi ?_ ?_
  · intro e he lo' st' h' hp hi' hm
    cases he
  · intro e he r' h' hp hi' hm
    rcases List.mem_cons.mp he with rfl | he
    · obtain ⟨p1, -, hz⟩ := hp
      obtain ⟨⟨z1, z2, z3, z4⟩, z5, z6⟩ := hz
      have k0 : pI h' 0 2 = 0 := (show pI h' 0 2 = 0 + 0 from z1 (0, (none, 2), ([], 0)) (List.mem_of_getElem? (i := 0) rfl)).trans (by omega)
      obtain ⟨r_, rfl, hv⟩ := ansI p1 (z2 (0, ([], (-1))) (List.mem_of_getElem? (i := 0) rfl))
      have s0 : r_.toInt = (-1) := (show r_.toInt = 0 + (-1) from hv).trans (by omega)
      exact hR0 h' r_ hi' hm k0 s0
    cases he
def skR_L : List (Nat × sT) := []
def skR_S : List sT := [.inl sf32]
def skR_A : sAs := ([], [], [], [])
def skR_P : List sP0 := []
def skR_G : List sP0 := []
def skR_B : List (Nat × Nat × Int) := []
def skR_m : sM := []
def skR_r0 : sXr := (some (.inl sf32), sA0, [], ([], [(0, ([(0, 1)], 0))], [], []), [], [])
theorem skR_b : syeB swM sT0 skR_m 400 0 297 skR_L skR_S skR_A skR_P skR_G skR_B 38 [] [skR_r0] = true := by decide +kernel
theorem skR {l : Launch} {Γ : zG} {d : Nat} (hd : 0 ≤ d) {Kp : Option Value → zH → Prop} {lo : zL} {h : zH} {yv : Int} (hi : sInv swM h) (b_yv : (-2147483648) ≤ yv ∧ yv ≤ 2147483647) {x_yv : Int32} (e_yv : x_yv.toInt = yv)
    (hR0 : ∀ (h' : zH) (r_ : Int32), sInv swM h' → sMd skR_m h h' → r_.toInt = yv → Kp (some (.int r_)) h') : zX l Γ false (d + 1) (zhd 297) (zMQ' Γ false (zhd 297) Kp) 0 0 38 lo [.int x_yv] h := by
  refine sye_ok (mi := 297) (pc := 38) (fun i => [yv].getD i 0) skR_b (fun _ _ hc _ => nomatch hc) hd trivial ⟨x_yv, _, rfl, e_yv, ⟨by show (-2147483648) ≤ yv; omega, by show yv ≤ 2147483647; omega⟩, rfl⟩ ⟨(fun _ hc => nomatch hc), (fun _ hc => nomatch hc), (fun _ hc => nomatch hc), Or.inl rfl⟩ trivial trivial (fun _ hc => nomatch hc) hi ?_ ?_
  · intro e he lo' st' h' hp hi' hm
    cases he
  · intro e he r' h' hp hi' hm
    rcases List.mem_cons.mp he with rfl | he
    · obtain ⟨p1, -, hz⟩ := hp
      obtain ⟨⟨z1, z2, z3, z4⟩, z5, z6⟩ := hz
      obtain ⟨r_, rfl, hv⟩ := ansI p1 (z2 (0, ([(0, 1)], 0)) (List.mem_of_getElem? (i := 0) rfl))
      have s0 : r_.toInt = yv := (show r_.toInt = (1 * yv + 0) + 0 from hv).trans (by omega)
      exact hR0 h' r_ hi' hm s0
    cases he
def knC_L : List sT := [.inr (.inl 0), .inl sf32]
def knC_A : sAs := ([], [], [], [])
def knC_P : List sP0 := [(91, (none, 6), (0, 24)), (91, (none, 7), ((-1), 24))]
def knC_G : List sP0 := []
def knC_B : List (Nat × Nat × Int) := []
def knC_m : sM := [(91, 7, 8)]
def knC_r0 : sXr := (some (.inl sf32), sA0, [], ([(91, (none, 7), ([(2, 1)], 0))], [(0, ([], 0))], [], [([(0, (-1))], (-2))]), [], [])
def knC_r1 : sXr := (some (.inl sf32), sA0, [], ([(91, (none, 7), ([(0, 1)], 0))], [(0, ([], 1))], [], [([(0, 1)], 1), ([(0, (-1)), (1, 1)], 0)]), [], [])
def knC_r2 : sXr := (some (.inl sf32), sA0, [], ([(91, (none, 7), ([(2, 1)], 0))], [(0, ([], 0))], [], [([(0, 1)], 1), ([(0, 1), (1, (-1))], (-1))]), [], [])
theorem knC_b : syfB swC sT0 knC_m 400 1 162 knC_L knC_A knC_P knC_G knC_B [] [knC_r0, knC_r1, knC_r2] = true := by decide +kernel
theorem knC {l : Launch} {Γ : zG} {d : Nat} (hd : 1 ≤ d) {Kp : Option Value → zH → Prop} {h : zH} {ki sz kb : Int} (hi : sInv swC h) (b_ki : (-2147483648) ≤ ki ∧ ki ≤ 2147483647) (b_sz : 0 ≤ sz ∧ sz ≤ 24) (b_kb : (-1) ≤ kb ∧ kb ≤ 24) {x_ki : Int32} (e_ki : x_ki.toInt = ki) (p_sz : pI h 91 6 = sz) (p_kb : pI h 91 7 = kb)
    (hR0 : ∀ (h' : zH) (r_ : Int32), sInv swC h' → sMd knC_m h h' → 0 ≤ -ki - 2 → pI h' 91 7 = kb → r_.toInt = 0 → Kp (some (.int r_)) h')
    (hR1 : ∀ (h' : zH) (r_ : Int32), sInv swC h' → sMd knC_m h h' → 0 ≤ ki + 1 → 0 ≤ -ki + sz → pI h' 91 7 = ki → r_.toInt = 1 → Kp (some (.int r_)) h')
    (hR2 : ∀ (h' : zH) (r_ : Int32), sInv swC h' → sMd knC_m h h' → 0 ≤ ki + 1 → 0 ≤ ki - sz - 1 → pI h' 91 7 = kb → r_.toInt = 0 → Kp (some (.int r_)) h') : zSem l Γ false (d + 1) (zhd 162) [.ref 0, .int x_ki] h Kp := by
  refine syf_ok (mi := 162) (fun i => [ki, sz, kb].getD i 0) knC_b (fun _ _ hc _ => nomatch hc) hd ⟨_, _, rfl, rfl, ⟨_, _, rfl, ⟨x_ki, rfl, by show (-2147483648) ≤ x_ki.toInt; omega, by show x_ki.toInt ≤ 2147483647; omega⟩, rfl⟩⟩ ⟨rfl, ⟨x_ki, rfl, e_ki, by show (-2147483648) ≤ ki; omega, by show ki ≤ 2147483647; omega⟩, trivial⟩ ⟨(fun _ hc => nomatch hc), (fun _ hc => nomatch hc), (fun _ hc => nomatch hc), Or.inl rfl⟩ ⟨⟨p_sz, by show 0 ≤ sz; omega, by show sz ≤ 24; omega⟩, ⟨p_kb, by show (-1) ≤ kb; omega, by show kb ≤ 24; omega⟩, trivial⟩ trivial (fun _ hc => nomatch hc) hi ?_ ?_
  · intro e he lo' st' h' hp hi' hm
    cases he
  · intro e he r' h' hp hi' hm
    rcases List.mem_cons.mp he with rfl | he
    · obtain ⟨p1, -, hz⟩ := hp
      obtain ⟨⟨z1, z2, z3, z4⟩, z5, z6⟩ := hz
      have c0 : 0 ≤ -ki - 2 := by have q_ : (0 : Int) ≤ ((-1) * ki + 0) + (-2) := z4 ([(0, (-1))], (-2)) (List.mem_of_getElem? (i := 0) rfl); omega
      have k0 : pI h' 91 7 = kb := (show pI h' 91 7 = (1 * kb + 0) + 0 from z1 (91, (none, 7), ([(2, 1)], 0)) (List.mem_of_getElem? (i := 0) rfl)).trans (by omega)
      obtain ⟨r_, rfl, hv⟩ := ansI p1 (z2 (0, ([], 0)) (List.mem_of_getElem? (i := 0) rfl))
      have s0 : r_.toInt = 0 := (show r_.toInt = 0 + 0 from hv).trans (by omega)
      exact hR0 h' r_ hi' hm c0 k0 s0
    rcases List.mem_cons.mp he with rfl | he
    · obtain ⟨p1, -, hz⟩ := hp
      obtain ⟨⟨z1, z2, z3, z4⟩, z5, z6⟩ := hz
      have c0 : 0 ≤ ki + 1 := by have q_ : (0 : Int) ≤ (1 * ki + 0) + 1 := z4 ([(0, 1)], 1) (List.mem_of_getElem? (i := 0) rfl); omega
      have c1 : 0 ≤ -ki + sz := by have q_ : (0 : Int) ≤ ((-1) * ki + (1 * sz + 0)) + 0 := z4 ([(0, (-1)), (1, 1)], 0) (List.mem_of_getElem? (i := 1) rfl); omega
      have k0 : pI h' 91 7 = ki := (show pI h' 91 7 = (1 * ki + 0) + 0 from z1 (91, (none, 7), ([(0, 1)], 0)) (List.mem_of_getElem? (i := 0) rfl)).trans (by omega)
      obtain ⟨r_, rfl, hv⟩ := ansI p1 (z2 (0, ([], 1)) (List.mem_of_getElem? (i := 0) rfl))
      have s0 : r_.toInt = 1 := (show r_.toInt = 0 + 1 from hv).trans (by omega)
      exact hR1 h' r_ hi' hm c0 c1 k0 s0
    rcases List.mem_cons.mp he with rfl | he
    · obtain ⟨p1, -, hz⟩ := hp
      obtain ⟨⟨z1, z2, z3, z4⟩, z5, z6⟩ := hz
      have c0 : 0 ≤ ki + 1 := by have q_ : (0 : Int) ≤ (1 * ki + 0) + 1 := z4 ([(0, 1)], 1) (List.mem_of_getElem? (i := 0) rfl); omega
      have c1 : 0 ≤ ki - sz - 1 := by have q_ : (0 : Int) ≤ (1 * ki + ((-1) * sz + 0)) + (-1) := z4 ([(0, 1), (1, (-1))], (-1)) (List.mem_of_getElem? (i := 1) rfl); omega
      have k0 : pI h' 91 7 = kb := (show pI h' 91 7 = (1 * kb + 0) + 0 from z1 (91, (none, 7), ([(2, 1)], 0)) (List.mem_of_getElem? (i := 0) rfl)).trans (by omega)
      obtain ⟨r_, rfl, hv⟩ := ansI p1 (z2 (0, ([], 0)) (List.mem_of_getElem? (i := 0) rfl))
      have s0 : r_.toInt = 0 := (show r_.toInt = 0 + 0 from hv).trans (by omega)
      exact hR2 h' r_ hi' hm c0 c1 k0 s0
    cases he
def knM_L (v : Nat) : List sT := [.inr (.inl 0), .inl sf32]
def knM_A (v : Nat) : sAs := ([], [], [], [])
def knM_P (v : Nat) : List sP0 := [(0, (none, 76), ((v : Int), (v : Int))), (0, (none, 77), ((-1), 24))]
def knM_G (v : Nat) : List sP0 := []
def knM_B (v : Nat) : List (Nat × Nat × Int) := []
def knM_m (v : Nat) : sM := [(0, 2, 3), (0, 77, 78)]
def knM_r0 (v : Nat) : sXr := (some (.inl sf32), sA0, [], ([(0, (none, 2), ([], 0)), (0, (none, 77), ([(2, 1)], 0))], [(0, ([], 0))], [], [([(0, (-1))], (-2))]), [], [])
def knM_r1 (v : Nat) : sXr := (some (.inl sf32), sA0, [], ([(0, (none, 2), ([], 0)), (0, (none, 77), ([(2, 1)], 0))], [(0, ([], 0))], [], [([(0, 1)], 1), ([(0, 1)], (-1 * (v : Int) - 1))]), [], [])
def knM_r2 (v : Nat) : sXr := (some (.inl sf32), sA0, [], ([(0, (none, 77), ([(0, 1)], 0)), (0, (none, 2), ([], 0))], [(0, ([], 1))], [], [([(0, 1)], 1), ([(0, (-1))], (v : Int))]), [], [])
theorem knM_b : ((List.range 25).all fun v => syfB swM sT0 (knM_m v) 400 1 298 (knM_L v) (knM_A v) (knM_P v) (knM_G v) (knM_B v) [] [knM_r0 v, knM_r1 v, knM_r2 v]) = true := by decide +kernel
theorem knM {l : Launch} {Γ : zG} {d : Nat} (hd : 1 ≤ d) {Kp : Option Value → zH → Prop} {h : zH} {v : Nat} (h_v : v < 25) {ki kb : Int} (hi : sInv swM h) (b_ki : (-2147483648) ≤ ki ∧ ki ≤ 2147483647) (b_kb : (-1) ≤ kb ∧ kb ≤ 24) {x_ki : Int32} (e_ki : x_ki.toInt = ki) (p_sz : pI h 0 76 = (v : Int)) (p_kb : pI h 0 77 = kb)
    (hR0 : ∀ (h' : zH) (r_ : Int32), sInv swM h' → sMd (knM_m v) h h' → 0 ≤ -ki - 2 → pI h' 0 2 = 0 → pI h' 0 77 = kb → r_.toInt = 0 → Kp (some (.int r_)) h')
    (hR1 : ∀ (h' : zH) (r_ : Int32), sInv swM h' → sMd (knM_m v) h h' → 0 ≤ ki + 1 → 0 ≤ ki + (-1 * (v : Int) - 1) → pI h' 0 2 = 0 → pI h' 0 77 = kb → r_.toInt = 0 → Kp (some (.int r_)) h')
    (hR2 : ∀ (h' : zH) (r_ : Int32), sInv swM h' → sMd (knM_m v) h h' → 0 ≤ ki + 1 → 0 ≤ -ki + (v : Int) → pI h' 0 77 = ki → pI h' 0 2 = 0 → r_.toInt = 1 → Kp (some (.int r_)) h') : zSem l Γ false (d + 1) (zhd 298) [.ref 0, .int x_ki] h Kp := by
  refine syf_ok (mi := 298) (fun i => [ki, (v : Int), kb].getD i 0) (zall_r knM_b h_v) (fun _ _ hc _ => nomatch hc) hd ⟨_, _, rfl, rfl, ⟨_, _, rfl, ⟨x_ki, rfl, by show (-2147483648) ≤ x_ki.toInt; omega, by show x_ki.toInt ≤ 2147483647; omega⟩, rfl⟩⟩ ⟨rfl, ⟨x_ki, rfl, e_ki, by show (-2147483648) ≤ ki; omega, by show ki ≤ 2147483647; omega⟩, trivial⟩ ⟨(fun _ hc => nomatch hc), (fun _ hc => nomatch hc), (fun _ hc => nomatch hc), Or.inl rfl⟩ ⟨⟨p_sz, by show (v : Int) ≤ (v : Int); omega, by show (v : Int) ≤ (v : Int); omega⟩, ⟨p_kb, by show (-1) ≤ kb; omega, by show kb ≤ 24; omega⟩, trivial⟩ trivial (fun _ hc => nomatch hc) hi ?_ ?_
  · intro e he lo' st' h' hp hi' hm
    cases he
  · intro e he r' h' hp hi' hm
    rcases List.mem_cons.mp he with rfl | he
    · obtain ⟨p1, -, hz⟩ := hp
      obtain ⟨⟨z1, z2, z3, z4⟩, z5, z6⟩ := hz
      have c0 : 0 ≤ -ki - 2 := by have q_ : (0 : Int) ≤ ((-1) * ki + 0) + (-2) := z4 ([(0, (-1))], (-2)) (List.mem_of_getElem? (i := 0) rfl); omega
      have k0 : pI h' 0 2 = 0 := (show pI h' 0 2 = 0 + 0 from z1 (0, (none, 2), ([], 0)) (List.mem_of_getElem? (i := 0) rfl)).trans (by omega)
      have k1 : pI h' 0 77 = kb := (show pI h' 0 77 = (1 * kb + 0) + 0 from z1 (0, (none, 77), ([(2, 1)], 0)) (List.mem_of_getElem? (i := 1) rfl)).trans (by omega)
      obtain ⟨r_, rfl, hv⟩ := ansI p1 (z2 (0, ([], 0)) (List.mem_of_getElem? (i := 0) rfl))
      have s0 : r_.toInt = 0 := (show r_.toInt = 0 + 0 from hv).trans (by omega)
      exact hR0 h' r_ hi' hm c0 k0 k1 s0
    rcases List.mem_cons.mp he with rfl | he
    · obtain ⟨p1, -, hz⟩ := hp
      obtain ⟨⟨z1, z2, z3, z4⟩, z5, z6⟩ := hz
      have c0 : 0 ≤ ki + 1 := by have q_ : (0 : Int) ≤ (1 * ki + 0) + 1 := z4 ([(0, 1)], 1) (List.mem_of_getElem? (i := 0) rfl); omega
      have c1 : 0 ≤ ki + (-1 * (v : Int) - 1) := by have q_ : (0 : Int) ≤ (1 * ki + 0) + (-1 * (v : Int) - 1) := z4 ([(0, 1)], (-1 * (v : Int) - 1)) (List.mem_of_getElem? (i := 1) rfl); omega
      have k0 : pI h' 0 2 = 0 := (show pI h' 0 2 = 0 + 0 from z1 (0, (none, 2), ([], 0)) (List.mem_of_getElem? (i := 0) rfl)).trans (by omega)
      have k1 : pI h' 0 77 = kb := (show pI h' 0 77 = (1 * kb + 0) + 0 from z1 (0, (none, 77), ([(2, 1)], 0)) (List.mem_of_getElem? (i := 1) rfl)).trans (by omega)
      obtain ⟨r_, rfl, hv⟩ := ansI p1 (z2 (0, ([], 0)) (List.mem_of_getElem? (i := 0) rfl))
      have s0 : r_.toInt = 0 := (show r_.toInt = 0 + 0 from hv).trans (by omega)
      exact hR1 h' r_ hi' hm c0 c1 k0 k1 s0
    rcases List.mem_cons.mp he with rfl | he
    · obtain ⟨p1, -, hz⟩ := hp
      obtain ⟨⟨z1, z2, z3, z4⟩, z5, z6⟩ := hz
      have c0 : 0 ≤ ki + 1 := by have q_ : (0 : Int) ≤ (1 * ki + 0) + 1 := z4 ([(0, 1)], 1) (List.mem_of_getElem? (i := 0) rfl); omega
      have c1 : 0 ≤ -ki + (v : Int) := by have q_ : (0 : Int) ≤ ((-1) * ki + 0) + (v : Int) := z4 ([(0, (-1))], (v : Int)) (List.mem_of_getElem? (i := 1) rfl); omega
      have k0 : pI h' 0 77 = ki := (show pI h' 0 77 = (1 * ki + 0) + 0 from z1 (0, (none, 77), ([(0, 1)], 0)) (List.mem_of_getElem? (i := 0) rfl)).trans (by omega)
      have k1 : pI h' 0 2 = 0 := (show pI h' 0 2 = 0 + 0 from z1 (0, (none, 2), ([], 0)) (List.mem_of_getElem? (i := 1) rfl)).trans (by omega)
      obtain ⟨r_, rfl, hv⟩ := ansI p1 (z2 (0, ([], 1)) (List.mem_of_getElem? (i := 0) rfl))
      have s0 : r_.toInt = 1 := (show r_.toInt = 0 + 1 from hv).trans (by omega)
      exact hR2 h' r_ hi' hm c0 c1 k0 k1 s0
    cases he
