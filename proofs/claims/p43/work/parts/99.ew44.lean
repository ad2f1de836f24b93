def kzA_L : List sT := [.inr (.inl 0), .inl sf32, .inl sf32, .inl sf32]
def kzA_A : sAs := ([], [], [], [])
def kzA_P : List sP0 := [(0, (none, 13), (0, 8))]
def kzA_G : List sP0 := [(0, (none, 65), sf64)]
def kzA_B : List (Nat × Nat × Int) := []
def kzA_m : sM := [(0, 2, 3), (0, 65, 66)]
def kzA_e0 : sXe := (47, [], [(0, .inr (.inl 0)), (2, .inl sf32), (3, .inl sf32), (4, .inr (.inr sf64)), (6, .inl sf32), (7, .inl sf32)], sA0, [(2, 0, ([], 65), ([], 0))], ([(0, (none, 2), ([], 0))], [], [(2, ([(1, 1)], 0)), (3, ([(2, 1)], 0)), (4, ([(4, 1)], 0)), (6, ([], 0)), (7, ([], 0))], [([(0, 1)], 0), ([(1, 1)], (-1)), ([(1, (-1))], 99), ([(2, 1)], 0), ([(2, (-1)), (3, 1)], (-1))]), [], [(5, ([(0, 1)], 0))])
def kzA_r0 : sXr := (some (.inl sf32), sA0, [(2, 0, ([], 65), ([], 0))], ([(0, (none, 2), ([], 0))], [(0, ([], (-1)))], [], [([(0, (-1))], (-1))]), [], [(5, ([(4, 1)], 0))])
def kzA_r1 : sXr := (some (.inl sf32), sA0, [(2, 0, ([], 65), ([], 0))], ([(0, (none, 2), ([], 0))], [(0, ([], (-1)))], [], [([(0, 1)], 0), ([(1, (-1))], 0)]), [], [(5, ([(4, 1)], 0))])
def kzA_r2 : sXr := (some (.inl sf32), sA0, [(2, 0, ([], 65), ([], 0))], ([(0, (none, 2), ([], 0))], [(0, ([], (-1)))], [], [([(0, 1)], 0), ([(1, 1)], (-1)), ([(1, 1)], (-100))]), [], [(5, ([(4, 1)], 0))])
def kzA_r3 : sXr := (some (.inl sf32), sA0, [(2, 0, ([], 65), ([], 0))], ([(0, (none, 2), ([], 0))], [(0, ([], (-1)))], [], [([(0, 1)], 0), ([(1, 1)], (-1)), ([(1, (-1))], 99), ([(2, (-1))], (-1))]), [], [(5, ([(4, 1)], 0))])
def kzA_r4 : sXr := (some (.inl sf32), sA0, [(2, 0, ([], 65), ([], 0))], ([(0, (none, 2), ([], 0))], [(0, ([], (-1)))], [], [([(0, 1)], 0), ([(1, 1)], (-1)), ([(1, (-1))], 99), ([(2, 1)], 0), ([(2, 1), (3, (-1))], 0)]), [], [(5, ([(4, 1)], 0))])
theorem kzA_b : syfB swM sT0 kzA_m 400 1 303 kzA_L kzA_A kzA_P kzA_G kzA_B [kzA_e0] [kzA_r0, kzA_r1, kzA_r2, kzA_r3, kzA_r4] = true := by decide +kernel
theorem kzA {l : Launch} {Γ : zG} {d : Nat} (hd : 1 ≤ d) {Kp : Option Value → zH → Prop} {h : zH} {sd nn gg n nu : Int} (hi : sInv swM h) (b_sd : (-2147483648) ≤ sd ∧ sd ≤ 2147483647) (b_nn : (-2147483648) ≤ nn ∧ nn ≤ 2147483647) (b_gg : (-2147483648) ≤ gg ∧ gg ≤ 2147483647) (b_n : 0 ≤ n ∧ n ≤ 8) (b_nu : (-9223372036854775808) ≤ nu ∧ nu ≤ 9223372036854775807) {x_sd : Int32} (e_sd : x_sd.toInt = sd) {x_nn : Int32} (e_nn : x_nn.toInt = nn) {x_gg : Int32} (e_gg : x_gg.toInt = gg) (p_n : pI h 0 13 = n) (p_nu : pL h 0 65 = nu)
    (hE0 : ∀ (lo' : zL) (h' : zH) (u0 : Int), sInv swM h' → sMd kzA_m h h' → pL h' 0 65 = u0 → u0 = sd → 0 ≤ sd → 0 ≤ nn - 1 → 0 ≤ -nn + 99 → 0 ≤ gg → 0 ≤ -gg + n - 1 → pI h' 0 2 = 0 → zget lo' 0 = some (.ref 0) → zI lo' 2 nn → zI lo' 3 gg → zJ lo' 4 nu → zI lo' 6 0 → zI lo' 7 0 → zX l Γ false (d + 1) (zhd 303) (zMQ' Γ false (zhd 303) Kp) 0 0 47 lo' [] h')
    (hR0 : ∀ (h' : zH) (u0 : Int) (r_ : Int32), sInv swM h' → sMd kzA_m h h' → pL h' 0 65 = u0 → u0 = nu → 0 ≤ -sd - 1 → pI h' 0 2 = 0 → r_.toInt = (-1) → Kp (some (.int r_)) h')
    (hR1 : ∀ (h' : zH) (u0 : Int) (r_ : Int32), sInv swM h' → sMd kzA_m h h' → pL h' 0 65 = u0 → u0 = nu → 0 ≤ sd → 0 ≤ -nn → pI h' 0 2 = 0 → r_.toInt = (-1) → Kp (some (.int r_)) h')
    (hR2 : ∀ (h' : zH) (u0 : Int) (r_ : Int32), sInv swM h' → sMd kzA_m h h' → pL h' 0 65 = u0 → u0 = nu → 0 ≤ sd → 0 ≤ nn - 1 → 0 ≤ nn - 100 → pI h' 0 2 = 0 → r_.toInt = (-1) → Kp (some (.int r_)) h')
    (hR3 : ∀ (h' : zH) (u0 : Int) (r_ : Int32), sInv swM h' → sMd kzA_m h h' → pL h' 0 65 = u0 → u0 = nu → 0 ≤ sd → 0 ≤ nn - 1 → 0 ≤ -nn + 99 → 0 ≤ -gg - 1 → pI h' 0 2 = 0 → r_.toInt = (-1) → Kp (some (.int r_)) h')
    (hR4 : ∀ (h' : zH) (u0 : Int) (r_ : Int32), sInv swM h' → sMd kzA_m h h' → pL h' 0 65 = u0 → u0 = nu → 0 ≤ sd → 0 ≤ nn - 1 → 0 ≤ -nn + 99 → 0 ≤ gg → 0 ≤ gg - n → pI h' 0 2 = 0 → r_.toInt = (-1) → Kp (some (.int r_)) h') : zSem l Γ false (d + 1) (zhd 303) [.ref 0, .int x_sd, .int x_nn, .int x_gg] h Kp := by
  refine syf_ok (mi := 303) (fun i => [sd, nn, gg, n, nu].getD i 0) kzA_b (fun _ _ hc _ => nomatch hc) hd ⟨_, _, rfl, rfl, ⟨_, _, rfl, ⟨x_sd, rfl, by show (-2147483648) ≤ x_sd.toInt; omega, by show x_sd.toInt ≤ 2147483647; omega⟩, ⟨_, _, rfl, ⟨x_nn, rfl, by show (-2147483648) ≤ x_nn.toInt; omega, by show x_nn.toInt ≤ 2147483647; omega⟩, ⟨_, _, rfl, ⟨x_gg, rfl, by show (-2147483648) ≤ x_gg.toInt; omega, by show x_gg.toInt ≤ 2147483647; omega⟩, rfl⟩⟩⟩⟩ ⟨rfl, ⟨x_sd, rfl, e_sd, by show (-2147483648) ≤ sd; omega, by show sd ≤ 2147483647; omega⟩, ⟨x_nn, rfl, e_nn, by show (-2147483648) ≤ nn; omega, by show nn ≤ 2147483647; omega⟩, ⟨x_gg, rfl, e_gg, by show (-2147483648) ≤ gg; omega, by show gg ≤ 2147483647; omega⟩, trivial⟩ ⟨(fun _ hc => nomatch hc), (fun _ hc => nomatch hc), (fun _ hc => nomatch hc), Or.inl rfl⟩ ⟨⟨p_n, by show 0 ≤ n; omega, by show n ≤ 8; omega⟩, trivial⟩ ⟨⟨p_nu, by show (-9223372036854775808) ≤ nu; omega, by show nu ≤ 9223372036854775807; omega⟩, trivial⟩ (fun _ hc => nomatch hc) hi ?_ ?_
  · intro e he lo' st' h' hp hi' hm
    rcases List.mem_cons.mp he with rfl | he
    · obtain ⟨p1, p2, -, hz⟩ := hp
      obtain ⟨u0, f0, hz⟩ := hz
      obtain ⟨⟨z1, z2, z3, z4⟩, z5, z6⟩ := hz
      have g0 : pL h' 0 65 = u0 := by
        rw [← (show ((0 + 65 : Int)).toNat = 65 from by omega)]
        exact f0
      have j0 : u0 = sd := (show u0 = (1 * sd + 0) + 0 from z6 (5, ([(0, 1)], 0)) (List.mem_of_getElem? (i := 0) rfl)).trans (by omega)
      have c0 : 0 ≤ sd := by have q_ : (0 : Int) ≤ (1 * sd + 0) + 0 := z4 ([(0, 1)], 0) (List.mem_of_getElem? (i := 0) rfl); omega
      have c1 : 0 ≤ nn - 1 := by have q_ : (0 : Int) ≤ (1 * nn + 0) + (-1) := z4 ([(1, 1)], (-1)) (List.mem_of_getElem? (i := 1) rfl); omega
      have c2 : 0 ≤ -nn + 99 := by have q_ : (0 : Int) ≤ ((-1) * nn + 0) + 99 := z4 ([(1, (-1))], 99) (List.mem_of_getElem? (i := 2) rfl); omega
      have c3 : 0 ≤ gg := by have q_ : (0 : Int) ≤ (1 * gg + 0) + 0 := z4 ([(2, 1)], 0) (List.mem_of_getElem? (i := 3) rfl); omega
      have c4 : 0 ≤ -gg + n - 1 := by have q_ : (0 : Int) ≤ ((-1) * gg + (1 * n + 0)) + (-1) := z4 ([(2, (-1)), (3, 1)], (-1)) (List.mem_of_getElem? (i := 4) rfl); omega
      have k0 : pI h' 0 2 = 0 := (show pI h' 0 2 = 0 + 0 from z1 (0, (none, 2), ([], 0)) (List.mem_of_getElem? (i := 0) rfl)).trans (by omega)
      have o0 : zget lo' 0 = some (.ref 0) := locR (p2 (0, .inr (.inl 0)) (List.mem_of_getElem? (i := 0) rfl))
      have o2 : zI lo' 2 nn := zI_of (p2 (2, .inl sf32) (List.mem_of_getElem? (i := 1) rfl)) (z3 (2, ([(1, 1)], 0)) (List.mem_of_getElem? (i := 0) rfl)) (show (1 * nn + 0) + 0 = nn from by omega)
      have o3 : zI lo' 3 gg := zI_of (p2 (3, .inl sf32) (List.mem_of_getElem? (i := 2) rfl)) (z3 (3, ([(2, 1)], 0)) (List.mem_of_getElem? (i := 1) rfl)) (show (1 * gg + 0) + 0 = gg from by omega)
      have o4 : zJ lo' 4 nu := zJ_of (p2 (4, .inr (.inr sf64)) (List.mem_of_getElem? (i := 3) rfl)) (z3 (4, ([(4, 1)], 0)) (List.mem_of_getElem? (i := 2) rfl)) (show (1 * nu + 0) + 0 = nu from by omega)
      have o6 : zI lo' 6 0 := zI_of (p2 (6, .inl sf32) (List.mem_of_getElem? (i := 4) rfl)) (z3 (6, ([], 0)) (List.mem_of_getElem? (i := 3) rfl)) (show 0 + 0 = 0 from by omega)
      have o7 : zI lo' 7 0 := zI_of (p2 (7, .inl sf32) (List.mem_of_getElem? (i := 5) rfl)) (z3 (7, ([], 0)) (List.mem_of_getElem? (i := 4) rfl)) (show 0 + 0 = 0 from by omega)
      have p1 : _ = [] := p1
      subst p1
      exact hE0 lo' h' u0 hi' hm g0 j0 c0 c1 c2 c3 c4 k0 o0 o2 o3 o4 o6 o7
    cases he
  · intro e he r' h' hp hi' hm
    rcases List.mem_cons.mp he with rfl | he
    · obtain ⟨p1, -, hz⟩ := hp
      obtain ⟨u0, f0, hz⟩ := hz
      obtain ⟨⟨z1, z2, z3, z4⟩, z5, z6⟩ := hz
      have g0 : pL h' 0 65 = u0 := by
        rw [← (show ((0 + 65 : Int)).toNat = 65 from by omega)]
        exact f0
      have j0 : u0 = nu := (show u0 = (1 * nu + 0) + 0 from z6 (5, ([(4, 1)], 0)) (List.mem_of_getElem? (i := 0) rfl)).trans (by omega)
      have c0 : 0 ≤ -sd - 1 := by have q_ : (0 : Int) ≤ ((-1) * sd + 0) + (-1) := z4 ([(0, (-1))], (-1)) (List.mem_of_getElem? (i := 0) rfl); omega
      have k0 : pI h' 0 2 = 0 := (show pI h' 0 2 = 0 + 0 from z1 (0, (none, 2), ([], 0)) (List.mem_of_getElem? (i := 0) rfl)).trans (by omega)
      obtain ⟨r_, rfl, hv⟩ := ansI p1 (z2 (0, ([], (-1))) (List.mem_of_getElem? (i := 0) rfl))
      have s0 : r_.toInt = (-1) := (show r_.toInt = 0 + (-1) from hv).trans (by omega)
      exact hR0 h' u0 r_ hi' hm g0 j0 c0 k0 s0
    rcases List.mem_cons.mp he with rfl | he
    · obtain ⟨p1, -, hz⟩ := hp
      obtain ⟨u0, f0, hz⟩ := hz
      obtain ⟨⟨z1, z2, z3, z4⟩, z5, z6⟩ := hz
      have g0 : pL h' 0 65 = u0 := by
        rw [← (show ((0 + 65 : Int)).toNat = 65 from by omega)]
        exact f0
      have j0 : u0 = nu := (show u0 = (1 * nu + 0) + 0 from z6 (5, ([(4, 1)], 0)) (List.mem_of_getElem? (i := 0) rfl)).trans (by omega)
      have c0 : 0 ≤ sd := by have q_ : (0 : Int) ≤ (1 * sd + 0) + 0 := z4 ([(0, 1)], 0) (List.mem_of_getElem? (i := 0) rfl); omega
      have c1 : 0 ≤ -nn := by have q_ : (0 : Int) ≤ ((-1) * nn + 0) + 0 := z4 ([(1, (-1))], 0) (List.mem_of_getElem? (i := 1) rfl); omega
      have k0 : pI h' 0 2 = 0 := (show pI h' 0 2 = 0 + 0 from z1 (0, (none, 2), ([], 0)) (List.mem_of_getElem? (i := 0) rfl)).trans (by omega)
      obtain ⟨r_, rfl, hv⟩ := ansI p1 (z2 (0, ([], (-1))) (List.mem_of_getElem? (i := 0) rfl))
      have s0 : r_.toInt = (-1) := (show r_.toInt = 0 + (-1) from hv).trans (by omega)
      exact hR1 h' u0 r_ hi' hm g0 j0 c0 c1 k0 s0
    rcases List.mem_cons.mp he with rfl | he
    · obtain ⟨p1, -, hz⟩ := hp
      obtain ⟨u0, f0, hz⟩ := hz
      obtain ⟨⟨z1, z2, z3, z4⟩, z5, z6⟩ := hz
      have g0 : pL h' 0 65 = u0 := by
        rw [← (show ((0 + 65 : Int)).toNat = 65 from by omega)]
        exact f0
      have j0 : u0 = nu := (show u0 = (1 * nu + 0) + 0 from z6 (5, ([(4, 1)], 0)) (List.mem_of_getElem? (i := 0) rfl)).trans (by omega)
      have c0 : 0 ≤ sd := by have q_ : (0 : Int) ≤ (1 * sd + 0) + 0 := z4 ([(0, 1)], 0) (List.mem_of_getElem? (i := 0) rfl); omega
      have c1 : 0 ≤ nn - 1 := by have q_ : (0 : Int) ≤ (1 * nn + 0) + (-1) := z4 ([(1, 1)], (-1)) (List.mem_of_getElem? (i := 1) rfl); omega
      have c2 : 0 ≤ nn - 100 := by have q_ : (0 : Int) ≤ (1 * nn + 0) + (-100) := z4 ([(1, 1)], (-100)) (List.mem_of_getElem? (i := 2) rfl); omega
      have k0 : pI h' 0 2 = 0 := (show pI h' 0 2 = 0 + 0 from z1 (0, (none, 2), ([], 0)) (List.mem_of_getElem? (i := 0) rfl)).trans (by omega)
      obtain ⟨r_, rfl, hv⟩ := ansI p1 (z2 (0, ([], (-1))) (List.mem_of_getElem? (i := 0) rfl))
      have s0 : r_.toInt = (-1) := (show r_.toInt = 0 + (-1) from hv).trans (by omega)
      exact hR2 h' u0 r_ hi' hm g0 j0 c0 c1 c2 k0 s0
    rcases List.mem_cons.mp he with rfl | he
    · obtain ⟨p1, -, hz⟩ := hp
      obtain ⟨u0, f0, hz⟩ := hz
      obtain ⟨⟨z1, z2, z3, z4⟩, z5, z6⟩ := hz
      have g0 : pL h' 0 65 = u0 := by
        rw [← (show ((0 + 65 : Int)).toNat = 65 from by omega)]
        exact f0
      have j0 : u0 = nu := (show u0 = (1 * nu + 0) + 0 from z6 (5, ([(4, 1)], 0)) (List.mem_of_getElem? (i := 0) rfl)).trans (by omega)
      have c0 : 0 ≤ sd := by have q_ : (0 : Int) ≤ (1 * sd + 0) + 0 := z4 ([(0, 1)], 0) (List.mem_of_getElem? (i := 0) rfl); omega
      have c1 : 0 ≤ nn - 1 := by have q_ : (0 : Int) ≤ (1 * nn + 0) + (-1) := z4 ([(1, 1)], (-1)) (List.mem_of_getElem? (i := 1) rfl); omega
      have c2 : 0 ≤ -nn + 99 := by have q_ : (0 : Int) ≤ ((-1) * nn + 0) + 99 := z4 ([(1, (-1))], 99) (List.mem_of_getElem? (i := 2) rfl); omega
      have c3 : 0 ≤ -gg - 1 := by have q_ : (0 : Int) ≤ ((-1) * gg + 0) + (-1) := z4 ([(2, (-1))], (-1)) (List.mem_of_getElem? (i := 3) rfl); omega
      have k0 : pI h' 0 2 = 0 := (show pI h' 0 2 = 0 + 0 from z1 (0, (none, 2), ([], 0)) (List.mem_of_getElem? (i := 0) rfl)).trans (by omega)
      obtain ⟨r_, rfl, hv⟩ := ansI p1 (z2 (0, ([], (-1))) (List.mem_of_getElem? (i := 0) rfl))
      have s0 : r_.toInt = (-1) := (show r_.toInt = 0 + (-1) from hv).trans (by omega)
      exact hR3 h' u0 r_ hi' hm g0 j0 c0 c1 c2 c3 k0 s0
    rcases List.mem_cons.mp he with rfl | he
    · obtain ⟨p1, -, hz⟩ := hp
      obtain ⟨u0, f0, hz⟩ := hz
      obtain ⟨⟨z1, z2, z3, z4⟩, z5, z6⟩ := hz
      have g0 : pL h' 0 65 = u0 := by
        rw [← (show ((0 + 65 : Int)).toNat = 65 from by omega)]
        exact f0
      have j0 : u0 = nu := (show u0 = (1 * nu + 0) + 0 from z6 (5, ([(4, 1)], 0)) (List.mem_of_getElem? (i := 0) rfl)).trans (by omega)
      have c0 : 0 ≤ sd := by have q_ : (0 : Int) ≤ (1 * sd + 0) + 0 := z4 ([(0, 1)], 0) (List.mem_of_getElem? (i := 0) rfl); omega
      have c1 : 0 ≤ nn - 1 := by have q_ : (0 : Int) ≤ (1 * nn + 0) + (-1) := z4 ([(1, 1)], (-1)) (List.mem_of_getElem? (i := 1) rfl); omega
      have c2 : 0 ≤ -nn + 99 := by have q_ : (0 : Int) ≤ ((-1) * nn + 0) + 99 := z4 ([(1, (-1))], 99) (List.mem_of_getElem? (i := 2) rfl); omega
      have c3 : 0 ≤ gg := by have q_ : (0 : Int) ≤ (1 * gg + 0) + 0 := z4 ([(2, 1)], 0) (List.mem_of_getElem? (i := 3) rfl); omega
      have c4 : 0 ≤ gg - n := by have q_ : (0 : Int) ≤ (1 * gg + ((-1) * n + 0)) + 0 := z4 ([(2, 1), (3, (-1))], 0) (List.mem_of_getElem? (i := 4) rfl); omega
      have k0 : pI h' 0 2 = 0 := (show pI h' 0 2 = 0 + 0 from z1 (0, (none, 2), ([], 0)) (List.mem_of_getElem? (i := 0) rfl)).trans (by omega)
      obtain ⟨r_, rfl, hv⟩ := ansI p1 (z2 (0, ([], (-1))) (List.mem_of_getElem? (i := 0) rfl))
      have s0 : r_.toInt = (-1) := (show r_.toInt = 0 + (-1) from hv).trans (by omega)
      exact hR4 h' u0 r_ hi' hm g0 j0 c0 c1 c2 c3 c4 k0 s0
    cases he
def kzB_L : List (Nat × sT) := [(0, .inr (.inl 0)), (2, .inl (1, 99)), (3, .inl (0, 7)), (4, .inr (.inr sf64)), (6, .inl sf32), (7, .inl (0, 9))]
def kzB_S : List sT := []
def kzB_A : sAs := ([], [], [], [])
def kzB_P : List sP0 := []
def kzB_G : List sP0 := []
def kzB_B : List (Nat × Nat × Int) := []
def kzB_m : sM := []
def kzB_e0 : sXe := (55, [.inr (.inl 0)], [(0, .inr (.inl 0)), (2, .inl sf32), (3, .inl sf32), (4, .inr (.inr sf64)), (6, .inl sf32), (7, .inl sf32)], sA0, [], ([], [], [(2, ([(0, 1)], 0)), (3, ([(1, 1)], 0)), (4, ([(2, 1)], 0)), (6, ([(3, 1)], 0)), (7, ([(4, 1)], 0))], []), [], [])
theorem kzB_b : syeB swM sT0 kzB_m 400 0 303 kzB_L kzB_S kzB_A kzB_P kzB_G kzB_B 47 [kzB_e0] [] = true := by decide +kernel
theorem kzB {l : Launch} {Γ : zG} {d : Nat} (hd : 0 ≤ d) {Kp : Option Value → zH → Prop} {lo : zL} {h : zH} {nn gg nu kk ii : Int} (hi : sInv swM h) (b_nn : 1 ≤ nn ∧ nn ≤ 99) (b_gg : 0 ≤ gg ∧ gg ≤ 7) (b_nu : (-9223372036854775808) ≤ nu ∧ nu ≤ 9223372036854775807) (b_kk : (-2147483648) ≤ kk ∧ kk ≤ 2147483647) (b_ii : 0 ≤ ii ∧ ii ≤ 9) (l0 : zget lo 0 = some (.ref 0)) (l2 : zI lo 2 nn) (l3 : zI lo 3 gg) (l4 : zJ lo 4 nu) (l6 : zI lo 6 kk) (l7 : zI lo 7 ii)
    (hE0 : ∀ (lo' : zL) (h' : zH), sInv swM h' → sMd kzB_m h h' → zget lo' 0 = some (.ref 0) → zI lo' 2 nn → zI lo' 3 gg → zJ lo' 4 nu → zI lo' 6 kk → zI lo' 7 ii → zX l Γ false (d + 1) (zhd 303) (zMQ' Γ false (zhd 303) Kp) 0 0 55 lo' [.ref 0] h') : zX l Γ false (d + 1) (zhd 303) (zMQ' Γ false (zhd 303) Kp) 0 0 47 lo [] h := by
  refine sye_ok (mi := 303) (pc := 47) (fun i => [nn, gg, nu, kk, ii].getD i 0) kzB_b (fun _ _ hc _ => nomatch hc) hd ⟨l0, zIm l2 (by show 1 ≤ nn; omega) (by show nn ≤ 99; omega), zIm l3 (by show 0 ≤ gg; omega) (by show gg ≤ 7; omega), zJm l4 (by show (-9223372036854775808) ≤ nu; omega) (by show nu ≤ 9223372036854775807; omega), zIm l6 (by show (-2147483648) ≤ kk; omega) (by show kk ≤ 2147483647; omega), zIm l7 (by show 0 ≤ ii; omega) (by show ii ≤ 9; omega), trivial⟩ rfl ⟨(fun _ hc => nomatch hc), (fun _ hc => nomatch hc), (fun _ hc => nomatch hc), Or.inl rfl⟩ trivial trivial (fun _ hc => nomatch hc) hi ?_ ?_
  · intro e he lo' st' h' hp hi' hm
    rcases List.mem_cons.mp he with rfl | he
    · obtain ⟨p1, p2, -, hz⟩ := hp
      obtain ⟨⟨z1, z2, z3, z4⟩, z5, z6⟩ := hz
      have o0 : zget lo' 0 = some (.ref 0) := locR (p2 (0, .inr (.inl 0)) (List.mem_of_getElem? (i := 0) rfl))
      have o2 : zI lo' 2 nn := zI_of (p2 (2, .inl sf32) (List.mem_of_getElem? (i := 1) rfl)) (z3 (2, ([(0, 1)], 0)) (List.mem_of_getElem? (i := 0) rfl)) (show (1 * nn + 0) + 0 = nn from by omega)
      have o3 : zI lo' 3 gg := zI_of (p2 (3, .inl sf32) (List.mem_of_getElem? (i := 2) rfl)) (z3 (3, ([(1, 1)], 0)) (List.mem_of_getElem? (i := 1) rfl)) (show (1 * gg + 0) + 0 = gg from by omega)
      have o4 : zJ lo' 4 nu := zJ_of (p2 (4, .inr (.inr sf64)) (List.mem_of_getElem? (i := 3) rfl)) (z3 (4, ([(2, 1)], 0)) (List.mem_of_getElem? (i := 2) rfl)) (show (1 * nu + 0) + 0 = nu from by omega)
      have o6 : zI lo' 6 kk := zI_of (p2 (6, .inl sf32) (List.mem_of_getElem? (i := 4) rfl)) (z3 (6, ([(3, 1)], 0)) (List.mem_of_getElem? (i := 3) rfl)) (show (1 * kk + 0) + 0 = kk from by omega)
      have o7 : zI lo' 7 ii := zI_of (p2 (7, .inl sf32) (List.mem_of_getElem? (i := 5) rfl)) (z3 (7, ([(4, 1)], 0)) (List.mem_of_getElem? (i := 4) rfl)) (show (1 * ii + 0) + 0 = ii from by omega)
      obtain ⟨_, _, rfl, hr, p1⟩ := p1
      have hr : _ = Value.ref 0 := hr
      subst hr
      have p1 : _ = [] := p1
      subst p1
      exact hE0 lo' h' hi' hm o0 o2 o3 o4 o6 o7
    cases he
  · intro e he r' h' hp hi' hm
    cases he
def kzC_L : List (Nat × sT) := [(0, .inr (.inl 0)), (2, .inl (1, 99)), (3, .inl (0, 7)), (4, .inr (.inr sf64)), (6, .inl sf32), (7, .inl (0, 9))]
def kzC_S : List sT := []
def kzC_A : sAs := ([], [], [], [])
def kzC_P : List sP0 := []
def kzC_G : List sP0 := []
def kzC_B : List (Nat × Nat × Int) := []
def kzC_m : sM := [(0, 66, 67)]
def kzC_e0 : sXe := (65, [.inl sf32, .inr (.inl 0)], [(0, .inr (.inl 0)), (2, .inl sf32), (3, .inl sf32), (4, .inr (.inr sf64)), (6, .inl sf32), (7, .inl sf32)], sA0, [], ([(0, (none, 66), ([], 1))], [(0, ([(0, 1)], 0))], [(2, ([(0, 1)], 0)), (3, ([(1, 1)], 0)), (4, ([(2, 1)], 0)), (6, ([(3, 1)], 0)), (7, ([(4, 1)], 0))], []), [], [])
theorem kzC_b : syeB swM sT0 kzC_m 400 0 303 kzC_L kzC_S kzC_A kzC_P kzC_G kzC_B 58 [kzC_e0] [] = true := by decide +kernel
theorem kzC {l : Launch} {Γ : zG} {d : Nat} (hd : 0 ≤ d) {Kp : Option Value → zH → Prop} {lo : zL} {h : zH} {nn gg nu kk ii : Int} (hi : sInv swM h) (b_nn : 1 ≤ nn ∧ nn ≤ 99) (b_gg : 0 ≤ gg ∧ gg ≤ 7) (b_nu : (-9223372036854775808) ≤ nu ∧ nu ≤ 9223372036854775807) (b_kk : (-2147483648) ≤ kk ∧ kk ≤ 2147483647) (b_ii : 0 ≤ ii ∧ ii ≤ 9) (l0 : zget lo 0 = some (.ref 0)) (l2 : zI lo 2 nn) (l3 : zI lo 3 gg) (l4 : zJ lo 4 nu) (l6 : zI lo 6 kk) (l7 : zI lo 7 ii)
    (hE0 : ∀ (lo' : zL) (h' : zH) (y0 : Int32), sInv swM h' → sMd kzC_m h h' → pI h' 0 66 = 1 → zget lo' 0 = some (.ref 0) → zI lo' 2 nn → zI lo' 3 gg → zJ lo' 4 nu → zI lo' 6 kk → zI lo' 7 ii → y0.toInt = nn → zX l Γ false (d + 1) (zhd 303) (zMQ' Γ false (zhd 303) Kp) 0 0 65 lo' [.int y0, .ref 0] h') : zX l Γ false (d + 1) (zhd 303) (zMQ' Γ false (zhd 303) Kp) 0 0 58 lo [] h := by
  refine sye_ok (mi := 303) (pc := 58) (fun i => [nn, gg, nu, kk, ii].getD i 0) kzC_b (fun _ _ hc _ => nomatch hc) hd ⟨l0, zIm l2 (by show 1 ≤ nn; omega) (by show nn ≤ 99; omega), zIm l3 (by show 0 ≤ gg; omega) (by show gg ≤ 7; omega), zJm l4 (by show (-9223372036854775808) ≤ nu; omega) (by show nu ≤ 9223372036854775807; omega), zIm l6 (by show (-2147483648) ≤ kk; omega) (by show kk ≤ 2147483647; omega), zIm l7 (by show 0 ≤ ii; omega) (by show ii ≤ 9; omega), trivial⟩ rfl ⟨(fun _ hc => nomatch hc), (fun _ hc => nomatch hc), (fun _ hc => nomatch hc), Or.inl rfl⟩ trivial trivial (fun _ hc => nomatch hc) hi ?_ ?_
  · intro e he lo' st' h' hp hi' hm
    rcases List.mem_cons.mp he with rfl | he
    · obtain ⟨p1, p2, -, hz⟩ := hp
      obtain ⟨⟨z1, z2, z3, z4⟩, z5, z6⟩ := hz
      have k0 : pI h' 0 66 = 1 := (show pI h' 0 66 = 0 + 1 from z1 (0, (none, 66), ([], 1)) (List.mem_of_getElem? (i := 0) rfl)).trans (by omega)
      have o0 : zget lo' 0 = some (.ref 0) := locR (p2 (0, .inr (.inl 0)) (List.mem_of_getElem? (i := 0) rfl))
      have o2 : zI lo' 2 nn := zI_of (p2 (2, .inl sf32) (List.mem_of_getElem? (i := 1) rfl)) (z3 (2, ([(0, 1)], 0)) (List.mem_of_getElem? (i := 0) rfl)) (show (1 * nn + 0) + 0 = nn from by omega)
      have o3 : zI lo' 3 gg := zI_of (p2 (3, .inl sf32) (List.mem_of_getElem? (i := 2) rfl)) (z3 (3, ([(1, 1)], 0)) (List.mem_of_getElem? (i := 1) rfl)) (show (1 * gg + 0) + 0 = gg from by omega)
      have o4 : zJ lo' 4 nu := zJ_of (p2 (4, .inr (.inr sf64)) (List.mem_of_getElem? (i := 3) rfl)) (z3 (4, ([(2, 1)], 0)) (List.mem_of_getElem? (i := 2) rfl)) (show (1 * nu + 0) + 0 = nu from by omega)
      have o6 : zI lo' 6 kk := zI_of (p2 (6, .inl sf32) (List.mem_of_getElem? (i := 4) rfl)) (z3 (6, ([(3, 1)], 0)) (List.mem_of_getElem? (i := 3) rfl)) (show (1 * kk + 0) + 0 = kk from by omega)
      have o7 : zI lo' 7 ii := zI_of (p2 (7, .inl sf32) (List.mem_of_getElem? (i := 5) rfl)) (z3 (7, ([(4, 1)], 0)) (List.mem_of_getElem? (i := 4) rfl)) (show (1 * ii + 0) + 0 = ii from by omega)
      obtain ⟨_, _, rfl, ⟨y0, rfl, -⟩, p1⟩ := p1
      obtain ⟨_, _, rfl, hr, p1⟩ := p1
      have hr : _ = Value.ref 0 := hr
      subst hr
      have p1 : _ = [] := p1
      subst p1
      obtain ⟨v_, ev, hv⟩ := z2 (0, ([(0, 1)], 0)) (List.mem_of_getElem? (i := 0) rfl)
      cases ev
      have s0 : y0.toInt = nn := (show y0.toInt = (1 * nn + 0) + 0 from hv).trans (by omega)
      exact hE0 lo' h' y0 hi' hm k0 o0 o2 o3 o4 o6 o7 s0
    cases he
  · intro e he r' h' hp hi' hm
    cases he
def kzD_L : List (Nat × sT) := [(0, .inr (.inl 0)), (2, .inl (1, 99)), (3, .inl (0, 7)), (4, .inr (.inr sf64)), (6, .inl (0, 9)), (7, .inl (0, 9))]
def kzD_S : List sT := []
def kzD_A : sAs := ([], [], [], [])
def kzD_P : List sP0 := [(31, (some 1, 8), (0, 1))]
def kzD_G : List sP0 := []
def kzD_B : List (Nat × Nat × Int) := []
def kzD_m : sM := []
def kzD_e0 : sXe := (47, [], [(0, .inr (.inl 0)), (2, .inl sf32), (3, .inl sf32), (4, .inr (.inr sf64)), (6, .inl sf32), (7, .inl sf32)], sA0, [], ([], [], [(2, ([(0, 1)], 0)), (3, ([(1, 1)], 0)), (4, ([(2, 1)], 0)), (6, ([(3, 1)], 0)), (7, ([(4, 1)], 1))], [([(5, 1)], 0), ([(5, (-1))], 0)]), [], [])
def kzD_e1 : sXe := (47, [], [(0, .inr (.inl 0)), (2, .inl sf32), (3, .inl sf32), (4, .inr (.inr sf64)), (6, .inl sf32), (7, .inl sf32)], sA0, [], ([], [], [(2, ([(0, 1)], 0)), (3, ([(1, 1)], 0)), (4, ([(2, 1)], 0)), (6, ([(3, 1)], 1)), (7, ([(4, 1)], 1))], []), [(([(5, 1)], 0), ([], 0))], [])
theorem kzD_b : syeB swM sT0 kzD_m 400 0 303 kzD_L kzD_S kzD_A kzD_P kzD_G kzD_B 68 [kzD_e0, kzD_e1] [] = true := by decide +kernel
theorem kzD {l : Launch} {Γ : zG} {d : Nat} (hd : 0 ≤ d) {Kp : Option Value → zH → Prop} {lo : zL} {h : zH} {nn gg nu kk ii w : Int} (hi : sInv swM h) (b_nn : 1 ≤ nn ∧ nn ≤ 99) (b_gg : 0 ≤ gg ∧ gg ≤ 7) (b_nu : (-9223372036854775808) ≤ nu ∧ nu ≤ 9223372036854775807) (b_kk : 0 ≤ kk ∧ kk ≤ 9) (b_ii : 0 ≤ ii ∧ ii ≤ 9) (b_w : 0 ≤ w ∧ w ≤ 1) (l0 : zget lo 0 = some (.ref 0)) (l2 : zI lo 2 nn) (l3 : zI lo 3 gg) (l4 : zJ lo 4 nu) (l6 : zI lo 6 kk) (l7 : zI lo 7 ii) (p_w : pI h 31 (gg + 8).toNat = w)
    (hE0 : ∀ (lo' : zL) (h' : zH), sInv swM h' → sMd kzD_m h h' → w = 0 → zget lo' 0 = some (.ref 0) → zI lo' 2 nn → zI lo' 3 gg → zJ lo' 4 nu → zI lo' 6 kk → zI lo' 7 (ii + 1) → zX l Γ false (d + 1) (zhd 303) (zMQ' Γ false (zhd 303) Kp) 0 0 47 lo' [] h')
    (hE1 : ∀ (lo' : zL) (h' : zH), sInv swM h' → sMd kzD_m h h' → w ≠ 0 → zget lo' 0 = some (.ref 0) → zI lo' 2 nn → zI lo' 3 gg → zJ lo' 4 nu → zI lo' 6 (kk + 1) → zI lo' 7 (ii + 1) → zX l Γ false (d + 1) (zhd 303) (zMQ' Γ false (zhd 303) Kp) 0 0 47 lo' [] h') : zX l Γ false (d + 1) (zhd 303) (zMQ' Γ false (zhd 303) Kp) 0 0 68 lo [] h := by
  refine sye_ok (mi := 303) (pc := 68) (fun i => [nn, gg, nu, kk, ii, w].getD i 0) kzD_b (fun _ _ hc _ => nomatch hc) hd ⟨l0, zIm l2 (by show 1 ≤ nn; omega) (by show nn ≤ 99; omega), zIm l3 (by show 0 ≤ gg; omega) (by show gg ≤ 7; omega), zJm l4 (by show (-9223372036854775808) ≤ nu; omega) (by show nu ≤ 9223372036854775807; omega), zIm l6 (by show 0 ≤ kk; omega) (by show kk ≤ 9; omega), zIm l7 (by show 0 ≤ ii; omega) (by show ii ≤ 9; omega), trivial⟩ rfl ⟨(fun _ hc => nomatch hc), (fun _ hc => nomatch hc), (fun _ hc => nomatch hc), Or.inl rfl⟩ ⟨⟨p_w, by show 0 ≤ w; omega, by show w ≤ 1; omega⟩, trivial⟩ trivial (fun _ hc => nomatch hc) hi ?_ ?_
  · intro e he lo' st' h' hp hi' hm
    rcases List.mem_cons.mp he with rfl | he
    · obtain ⟨p1, p2, -, hz⟩ := hp
      obtain ⟨⟨z1, z2, z3, z4⟩, z5, z6⟩ := hz
      have c0 : w = 0 := by have q_ : (0 : Int) ≤ (1 * w + 0) + 0 := z4 ([(5, 1)], 0) (List.mem_of_getElem? (i := 0) rfl); have q2_ : (0 : Int) ≤ ((-1) * w + 0) + 0 := z4 ([(5, (-1))], 0) (List.mem_of_getElem? (i := 1) rfl); omega
      have o0 : zget lo' 0 = some (.ref 0) := locR (p2 (0, .inr (.inl 0)) (List.mem_of_getElem? (i := 0) rfl))
      have o2 : zI lo' 2 nn := zI_of (p2 (2, .inl sf32) (List.mem_of_getElem? (i := 1) rfl)) (z3 (2, ([(0, 1)], 0)) (List.mem_of_getElem? (i := 0) rfl)) (show (1 * nn + 0) + 0 = nn from by omega)
      have o3 : zI lo' 3 gg := zI_of (p2 (3, .inl sf32) (List.mem_of_getElem? (i := 2) rfl)) (z3 (3, ([(1, 1)], 0)) (List.mem_of_getElem? (i := 1) rfl)) (show (1 * gg + 0) + 0 = gg from by omega)
      have o4 : zJ lo' 4 nu := zJ_of (p2 (4, .inr (.inr sf64)) (List.mem_of_getElem? (i := 3) rfl)) (z3 (4, ([(2, 1)], 0)) (List.mem_of_getElem? (i := 2) rfl)) (show (1 * nu + 0) + 0 = nu from by omega)
      have o6 : zI lo' 6 kk := zI_of (p2 (6, .inl sf32) (List.mem_of_getElem? (i := 4) rfl)) (z3 (6, ([(3, 1)], 0)) (List.mem_of_getElem? (i := 3) rfl)) (show (1 * kk + 0) + 0 = kk from by omega)
      have o7 : zI lo' 7 (ii + 1) := zI_of (p2 (7, .inl sf32) (List.mem_of_getElem? (i := 5) rfl)) (z3 (7, ([(4, 1)], 1)) (List.mem_of_getElem? (i := 4) rfl)) (show (1 * ii + 0) + 1 = ii + 1 from by omega)
      have p1 : _ = [] := p1
      subst p1
      exact hE0 lo' h' hi' hm c0 o0 o2 o3 o4 o6 o7
    rcases List.mem_cons.mp he with rfl | he
    · obtain ⟨p1, p2, -, hz⟩ := hp
      obtain ⟨⟨z1, z2, z3, z4⟩, z5, z6⟩ := hz
      have n0 : w ≠ 0 := fun e_ => z5 (([(5, 1)], 0), ([], 0)) (List.mem_of_getElem? (i := 0) rfl) (by show (1 * w + 0) + 0 = 0 + 0; omega)
      have o0 : zget lo' 0 = some (.ref 0) := locR (p2 (0, .inr (.inl 0)) (List.mem_of_getElem? (i := 0) rfl))
      have o2 : zI lo' 2 nn := zI_of (p2 (2, .inl sf32) (List.mem_of_getElem? (i := 1) rfl)) (z3 (2, ([(0, 1)], 0)) (List.mem_of_getElem? (i := 0) rfl)) (show (1 * nn + 0) + 0 = nn from by omega)
      have o3 : zI lo' 3 gg := zI_of (p2 (3, .inl sf32) (List.mem_of_getElem? (i := 2) rfl)) (z3 (3, ([(1, 1)], 0)) (List.mem_of_getElem? (i := 1) rfl)) (show (1 * gg + 0) + 0 = gg from by omega)
      have o4 : zJ lo' 4 nu := zJ_of (p2 (4, .inr (.inr sf64)) (List.mem_of_getElem? (i := 3) rfl)) (z3 (4, ([(2, 1)], 0)) (List.mem_of_getElem? (i := 2) rfl)) (show (1 * nu + 0) + 0 = nu from by omega)
      have o6 : zI lo' 6 (kk + 1) := zI_of (p2 (6, .inl sf32) (List.mem_of_getElem? (i := 4) rfl)) (z3 (6, ([(3, 1)], 1)) (List.mem_of_getElem? (i := 3) rfl)) (show (1 * kk + 0) + 1 = kk + 1 from by omega)
      have o7 : zI lo' 7 (ii + 1) := zI_of (p2 (7, .inl sf32) (List.mem_of_getElem? (i := 5) rfl)) (z3 (7, ([(4, 1)], 1)) (List.mem_of_getElem? (i := 4) rfl)) (show (1 * ii + 0) + 1 = ii + 1 from by omega)
      have p1 : _ = [] := p1
      subst p1
      exact hE1 lo' h' hi' hm n0 o0 o2 o3 o4 o6 o7
    cases he
  · intro e he r' h' hp hi' hm
    cases he
def kzE_L : List (Nat × sT) := [(0, .inr (.inl 0)), (2, .inl (1, 99)), (3, .inl (0, 7)), (4, .inr (.inr sf64)), (6, .inl sf32), (7, .inl (10, 10))]
def kzE_S : List sT := []
def kzE_A : sAs := ([], [], [], [])
def kzE_P : List sP0 := []
def kzE_G : List sP0 := []
def kzE_B : List (Nat × Nat × Int) := []
def kzE_m : sM := [(0, 65, 66), (0, 66, 67)]
def kzE_r0 : sXr := (some (.inl sf32), sA0, [(2, 0, ([], 65), ([], 0))], ([(0, (none, 66), ([], 0))], [(0, ([(3, 1)], 0))], [], []), [], [(5, ([(2, 1)], 0))])
theorem kzE_b : syeB swM sT0 kzE_m 400 0 303 kzE_L kzE_S kzE_A kzE_P kzE_G kzE_B 47 [] [kzE_r0] = true := by decide +kernel
theorem kzE {l : Launch} {Γ : zG} {d : Nat} (hd : 0 ≤ d) {Kp : Option Value → zH → Prop} {lo : zL} {h : zH} {nn gg nu kk : Int} (hi : sInv swM h) (b_nn : 1 ≤ nn ∧ nn ≤ 99) (b_gg : 0 ≤ gg ∧ gg ≤ 7) (b_nu : (-9223372036854775808) ≤ nu ∧ nu ≤ 9223372036854775807) (b_kk : (-2147483648) ≤ kk ∧ kk ≤ 2147483647) (l0 : zget lo 0 = some (.ref 0)) (l2 : zI lo 2 nn) (l3 : zI lo 3 gg) (l4 : zJ lo 4 nu) (l6 : zI lo 6 kk) (l7 : zI lo 7 10)
    (hR0 : ∀ (h' : zH) (u0 : Int) (r_ : Int32), sInv swM h' → sMd kzE_m h h' → pL h' 0 65 = u0 → u0 = nu → pI h' 0 66 = 0 → r_.toInt = kk → Kp (some (.int r_)) h') : zX l Γ false (d + 1) (zhd 303) (zMQ' Γ false (zhd 303) Kp) 0 0 47 lo [] h := by
  refine sye_ok (mi := 303) (pc := 47) (fun i => [nn, gg, nu, kk, 10].getD i 0) kzE_b (fun _ _ hc _ => nomatch hc) hd ⟨l0, zIm l2 (by show 1 ≤ nn; omega) (by show nn ≤ 99; omega), zIm l3 (by show 0 ≤ gg; omega) (by show gg ≤ 7; omega), zJm l4 (by show (-9223372036854775808) ≤ nu; omega) (by show nu ≤ 9223372036854775807; omega), zIm l6 (by show (-2147483648) ≤ kk; omega) (by show kk ≤ 2147483647; omega), zIm l7 (by show 10 ≤ 10; omega) (by show 10 ≤ 10; omega), trivial⟩ rfl ⟨(fun _ hc => nomatch hc), (fun _ hc => nomatch hc), (fun _ hc => nomatch hc), Or.inl rfl⟩ trivial trivial (fun _ hc => nomatch hc) hi ?_ ?_
  · intro e he lo' st' h' hp hi' hm
    cases he
  · intro e he r' h' hp hi' hm
    rcases List.mem_cons.mp he with rfl | he
    · obtain ⟨p1, -, hz⟩ := hp
      obtain ⟨u0, f0, hz⟩ := hz
      obtain ⟨⟨z1, z2, z3, z4⟩, z5, z6⟩ := hz
      have g0 : pL h' 0 65 = u0 := by
        rw [← (show ((0 + 65 : Int)).toNat = 65 from by omega)]
        exact f0
      have j0 : u0 = nu := (show u0 = (1 * nu + 0) + 0 from z6 (5, ([(2, 1)], 0)) (List.mem_of_getElem? (i := 0) rfl)).trans (by omega)
      have k0 : pI h' 0 66 = 0 := (show pI h' 0 66 = 0 + 0 from z1 (0, (none, 66), ([], 0)) (List.mem_of_getElem? (i := 0) rfl)).trans (by omega)
      obtain ⟨r_, rfl, hv⟩ := ansI p1 (z2 (0, ([(3, 1)], 0)) (List.mem_of_getElem? (i := 0) rfl))
      have s0 : r_.toInt = kk := (show r_.toInt = (1 * kk + 0) + 0 from hv).trans (by omega)
      exact hR0 h' u0 r_ hi' hm g0 j0 k0 s0
    cases he
