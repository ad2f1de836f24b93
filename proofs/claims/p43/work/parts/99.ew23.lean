def kmSw_L (r : Nat) : List sT := [.inr (.inl 0), .inl ((r : Int), (r : Int))]
def kmSw_A (r : Nat) : sAs := ([], [], [], [])
def kmSw_P (r : Nat) : List sP0 := [(29, (none, ((r : Nat) : Int)), (0, 999)), (30, (none, ((r : Nat) : Int)), (0, 999))]
def kmSw_G (r : Nat) : List sP0 := []
def kmSw_B (r : Nat) : List (Nat × Nat × Int) := []
def kmSw_m (r : Nat) : sM := [(29, r, (r + 1)), (30, r, (r + 1))]
def kmSw_r0 (r : Nat) : sXr := (none, sA0, [], ([(30, (none, ((r : Nat) : Int)), ([(1, 1)], 0)), (29, (none, ((r : Nat) : Int)), ([(2, 1)], 0))], [], [], []), [], [])
theorem kmSw_b : ((List.range 16).all fun r => syfB swM sT0 (kmSw_m r) 400 0 248 (kmSw_L r) (kmSw_A r) (kmSw_P r) (kmSw_G r) (kmSw_B r) [] [kmSw_r0 r]) = true := by decide +kernel
theorem kmSw {l : Launch} {Γ : zG} {d : Nat} (hd : 0 ≤ d) {Kp : Option Value → zH → Prop} {h : zH} {r : Nat} (h_r : r < 16) {a bw : Int} (hi : sInv swM h) (b_a : 0 ≤ a ∧ a ≤ 999) (b_bw : 0 ≤ bw ∧ bw ≤ 999) {x_ii : Int32} (e_ii : x_ii.toInt = (r : Int)) (p_a : pI h 29 r = a) (p_bw : pI h 30 r = bw)
    (hR0 : ∀ (h' : zH), sInv swM h' → sMd (kmSw_m r) h h' → pI h' 30 r = a → pI h' 29 r = bw → Kp none h') : zSem l Γ false (d + 1) (zhd 248) [.ref 0, .int x_ii] h Kp := by
  refine syf_ok (mi := 248) (fun i => [(r : Int), a, bw].getD i 0) (zall_r kmSw_b h_r) (fun _ _ hc _ => nomatch hc) hd ⟨_, _, rfl, rfl, ⟨_, _, rfl, ⟨x_ii, rfl, by show (r : Int) ≤ x_ii.toInt; omega, by show x_ii.toInt ≤ (r : Int); omega⟩, rfl⟩⟩ ⟨rfl, ⟨x_ii, rfl, e_ii, by show (r : Int) ≤ (r : Int); omega, by show (r : Int) ≤ (r : Int); omega⟩, trivial⟩ ⟨(fun _ hc => nomatch hc), (fun _ hc => nomatch hc), (fun _ hc => nomatch hc), Or.inl rfl⟩ ⟨⟨p_a, by show 0 ≤ a; omega, by show a ≤ 999; omega⟩, ⟨p_bw, by show 0 ≤ bw; omega, by show bw ≤ 999; omega⟩, trivial⟩ trivial (fun _ hc => nomatch hc) hi ?_ ?_
  · intro e he lo' st' h' hp hi' hm
    cases he
  · intro e he r' h' hp hi' hm
    rcases List.mem_cons.mp he with rfl | he
    · obtain ⟨p1, -, hz⟩ := hp
      obtain ⟨⟨z1, z2, z3, z4⟩, z5, z6⟩ := hz
      have k0 : pI h' 30 r = a := (show pI h' 30 r = (1 * a + 0) + 0 from z1 (30, (none, ((r : Nat) : Int)), ([(1, 1)], 0)) (List.mem_of_getElem? (i := 0) rfl)).trans (by omega)
      have k1 : pI h' 29 r = bw := (show pI h' 29 r = (1 * bw + 0) + 0 from z1 (29, (none, ((r : Nat) : Int)), ([(2, 1)], 0)) (List.mem_of_getElem? (i := 1) rfl)).trans (by omega)
      have p1 : r' = none := p1
      subst p1
      exact hR0 h' hi' hm k0 k1
    cases he
def kmT0_L (b : Nat) : List sT := [.inr (.inl 0), .inl ((b : Int), (b : Int))]
def kmT0_A (b : Nat) : sAs := ([], [], [], [])
def kmT0_P (b : Nat) : List sP0 := []
def kmT0_G (b : Nat) : List sP0 := []
def kmT0_B (b : Nat) : List (Nat × Nat × Int) := []
def kmT0_m (b : Nat) : sM := []
def kmT0_e0 (b : Nat) : sXe := (2, [], [(0, .inr (.inl 0)), (1, .inl sf32), (2, .inl sf32)], sA0, [], ([], [], [(1, ([], (b : Int))), (2, ([], 0))], []), [], [])
theorem kmT0_b : ((List.range 2).all fun b => syfB swM sT0 (kmT0_m b) 400 0 253 (kmT0_L b) (kmT0_A b) (kmT0_P b) (kmT0_G b) (kmT0_B b) [kmT0_e0 b] []) = true := by decide +kernel
theorem kmT0 {l : Launch} {Γ : zG} {d : Nat} (hd : 0 ≤ d) {Kp : Option Value → zH → Prop} {h : zH} {b : Nat} (h_b : b < 2) (hi : sInv swM h) {x_bb : Int32} (e_bb : x_bb.toInt = (b : Int))
    (hE0 : ∀ (lo' : zL) (h' : zH), sInv swM h' → sMd (kmT0_m b) h h' → zget lo' 0 = some (.ref 0) → zI lo' 1 (b : Int) → zI lo' 2 0 → zX l Γ false (d + 1) (zhd 253) (zMQ' Γ false (zhd 253) Kp) 0 0 2 lo' [] h') : zSem l Γ false (d + 1) (zhd 253) [.ref 0, .int x_bb] h Kp := by
  refine syf_ok (mi := 253) (fun i => [(b : Int)].getD i 0) (zall_r kmT0_b h_b) (fun _ _ hc _ => nomatch hc) hd ⟨_, _, rfl, rfl, ⟨_, _, rfl, ⟨x_bb, rfl, by show (b : Int) ≤ x_bb.toInt; omega, by show x_bb.toInt ≤ (b : Int); omega⟩, rfl⟩⟩ ⟨rfl, ⟨x_bb, rfl, e_bb, by show (b : Int) ≤ (b : Int); omega, by show (b : Int) ≤ (b : Int); omega⟩, trivial⟩ ⟨(fun _ hc => nomatch hc), (fun _ hc => nomatch hc), (fun _ hc => nomatch hc), Or.inl rfl⟩ trivial trivial (fun _ hc => nomatch hc) hi ?_ ?_
  · intro e he lo' st' h' hp hi' hm
    rcases List.mem_cons.mp he with rfl | he
    · obtain ⟨p1, p2, -, hz⟩ := hp
      obtain ⟨⟨z1, z2, z3, z4⟩, z5, z6⟩ := hz
      have o0 : zget lo' 0 = some (.ref 0) := locR (p2 (0, .inr (.inl 0)) (List.mem_of_getElem? (i := 0) rfl))
      have o1 : zI lo' 1 (b : Int) := zI_of (p2 (1, .inl sf32) (List.mem_of_getElem? (i := 1) rfl)) (z3 (1, ([], (b : Int))) (List.mem_of_getElem? (i := 0) rfl)) (show 0 + (b : Int) = (b : Int) from by omega)
      have o2 : zI lo' 2 0 := zI_of (p2 (2, .inl sf32) (List.mem_of_getElem? (i := 2) rfl)) (z3 (2, ([], 0)) (List.mem_of_getElem? (i := 1) rfl)) (show 0 + 0 = 0 from by omega)
      have p1 : _ = [] := p1
      subst p1
      exact hE0 lo' h' hi' hm o0 o1 o2
    cases he
  · intro e he r' h' hp hi' hm
    cases he
def kmT1_L (b : Nat) (r : Nat) : List (Nat × sT) := [(0, .inr (.inl 0)), (1, .inl ((b : Int), (b : Int))), (2, .inl ((r : Int), (r : Int)))]
def kmT1_S (b : Nat) (r : Nat) : List sT := []
def kmT1_A (b : Nat) (r : Nat) : sAs := ([], [], [], [])
def kmT1_P (b : Nat) (r : Nat) : List sP0 := [(0, (none, 14), (((r : Int) + 1), 10)), (0, (none, 70), (0, 1)), (12, (none, ((r : Nat) : Int)), (0, 7)), (13, (none, ((r : Nat) : Int)), sf32), (36, (none, ((b : Nat) : Int)), sf32)]
def kmT1_G (b : Nat) (r : Nat) : List sP0 := []
def kmT1_B (b : Nat) (r : Nat) : List (Nat × Nat × Int) := []
def kmT1_m (b : Nat) (r : Nat) : sM := []
def kmT1_e0 (b : Nat) (r : Nat) : sXe := (44, [.inl sf32, .inr (.inl 0)], [(0, .inr (.inl 0)), (1, .inl sf32), (2, .inl sf32)], sA0, [], ([], [(0, ([(4, 1)], (8 * (b : Int))))], [(1, ([], (b : Int))), (2, ([], (r : Int)))], [([(3, 1)], 0), ([(3, (-1))], 0), ([(5, 1), (6, (-1))], 0), ([(5, (-1)), (6, 1)], 0)]), [], [])
def kmT1_e1 (b : Nat) (r : Nat) : sXe := (2, [], [(0, .inr (.inl 0)), (1, .inl sf32), (2, .inl sf32)], sA0, [], ([], [], [(1, ([], (b : Int))), (2, ([], ((r : Int) + 1)))], [([(3, 1)], 0), ([(3, (-1))], 0)]), [(([(5, 1)], 0), ([(6, 1)], 0))], [])
def kmT1_e2 (b : Nat) (r : Nat) : sXe := (55, [], [(0, .inr (.inl 0)), (1, .inl sf32), (2, .inl sf32)], sA0, [], ([], [], [(1, ([], (b : Int))), (2, ([], 0))], []), [(([(3, 1)], 0), ([], 0))], [])
theorem kmT1_b : ((List.range 2).all fun b => ((List.range 10).all fun r => syeB swM sT0 (kmT1_m b r) 400 0 253 (kmT1_L b r) (kmT1_S b r) (kmT1_A b r) (kmT1_P b r) (kmT1_G b r) (kmT1_B b r) 2 [kmT1_e0 b r, kmT1_e1 b r, kmT1_e2 b r] [])) = true := by decide +kernel
theorem kmT1 {l : Launch} {Γ : zG} {d : Nat} (hd : 0 ≤ d) {Kp : Option Value → zH → Prop} {lo : zL} {h : zH} {b : Nat} (h_b : b < 2) {r : Nat} (h_r : r < 10) {n nt gl mn m : Int} (hi : sInv swM h) (b_n : ((r : Int) + 1) ≤ n ∧ n ≤ 10) (b_nt : 0 ≤ nt ∧ nt ≤ 1) (b_gl : 0 ≤ gl ∧ gl ≤ 7) (b_mn : (-2147483648) ≤ mn ∧ mn ≤ 2147483647) (b_m : (-2147483648) ≤ m ∧ m ≤ 2147483647) (l0 : zget lo 0 = some (.ref 0)) (l1 : zI lo 1 (b : Int)) (l2 : zI lo 2 (r : Int)) (p_n : pI h 0 14 = n) (p_nt : pI h 0 70 = nt) (p_gl : pI h 12 r = gl) (p_mn : pI h 13 r = mn) (p_m : pI h 36 b = m)
    (hE0 : ∀ (lo' : zL) (h' : zH) (y0 : Int32), sInv swM h' → sMd (kmT1_m b r) h h' → nt = 0 → mn = m → zget lo' 0 = some (.ref 0) → zI lo' 1 (b : Int) → zI lo' 2 (r : Int) → y0.toInt = gl + (8 * (b : Int)) → zX l Γ false (d + 1) (zhd 253) (zMQ' Γ false (zhd 253) Kp) 0 0 44 lo' [.int y0, .ref 0] h')
    (hE1 : ∀ (lo' : zL) (h' : zH), sInv swM h' → sMd (kmT1_m b r) h h' → nt = 0 → mn ≠ m → zget lo' 0 = some (.ref 0) → zI lo' 1 (b : Int) → zI lo' 2 ((r : Int) + 1) → zX l Γ false (d + 1) (zhd 253) (zMQ' Γ false (zhd 253) Kp) 0 0 2 lo' [] h')
    (hE2 : ∀ (lo' : zL) (h' : zH), sInv swM h' → sMd (kmT1_m b r) h h' → nt ≠ 0 → zget lo' 0 = some (.ref 0) → zI lo' 1 (b : Int) → zI lo' 2 0 → zX l Γ false (d + 1) (zhd 253) (zMQ' Γ false (zhd 253) Kp) 0 0 55 lo' [] h') : zX l Γ false (d + 1) (zhd 253) (zMQ' Γ false (zhd 253) Kp) 0 0 2 lo [] h := by
  refine sye_ok (mi := 253) (pc := 2) (fun i => [(b : Int), (r : Int), n, nt, gl, mn, m].getD i 0) (zall_r (zall_r kmT1_b h_b) h_r) (fun _ _ hc _ => nomatch hc) hd ⟨l0, zIm l1 (by show (b : Int) ≤ (b : Int); omega) (by show (b : Int) ≤ (b : Int); omega), zIm l2 (by show (r : Int) ≤ (r : Int); omega) (by show (r : Int) ≤ (r : Int); omega), trivial⟩ rfl ⟨(fun _ hc => nomatch hc), (fun _ hc => nomatch hc), (fun _ hc => nomatch hc), Or.inl rfl⟩ ⟨⟨p_n, by show ((r : Int) + 1) ≤ n; omega, by show n ≤ 10; omega⟩, ⟨p_nt, by show 0 ≤ nt; omega, by show nt ≤ 1; omega⟩, ⟨p_gl, by show 0 ≤ gl; omega, by show gl ≤ 7; omega⟩, ⟨p_mn, by show (-2147483648) ≤ mn; omega, by show mn ≤ 2147483647; omega⟩, ⟨p_m, by show (-2147483648) ≤ m; omega, by show m ≤ 2147483647; omega⟩, trivial⟩ trivial (fun _ hc => nomatch hc) hi ?_ ?_
  · intro e he lo' st' h' hp hi' hm
    rcases List.mem_cons.mp he with rfl | he
    · obtain ⟨p1, p2, -, hz⟩ := hp
      obtain ⟨⟨z1, z2, z3, z4⟩, z5, z6⟩ := hz
      have c0 : nt = 0 := by have q_ : (0 : Int) ≤ (1 * nt + 0) + 0 := z4 ([(3, 1)], 0) (List.mem_of_getElem? (i := 0) rfl); have q2_ : (0 : Int) ≤ ((-1) * nt + 0) + 0 := z4 ([(3, (-1))], 0) (List.mem_of_getElem? (i := 1) rfl); omega
      have c2 : mn = m := by have q_ : (0 : Int) ≤ (1 * mn + ((-1) * m + 0)) + 0 := z4 ([(5, 1), (6, (-1))], 0) (List.mem_of_getElem? (i := 2) rfl); have q2_ : (0 : Int) ≤ ((-1) * mn + (1 * m + 0)) + 0 := z4 ([(5, (-1)), (6, 1)], 0) (List.mem_of_getElem? (i := 3) rfl); omega
      have o0 : zget lo' 0 = some (.ref 0) := locR (p2 (0, .inr (.inl 0)) (List.mem_of_getElem? (i := 0) rfl))
      have o1 : zI lo' 1 (b : Int) := zI_of (p2 (1, .inl sf32) (List.mem_of_getElem? (i := 1) rfl)) (z3 (1, ([], (b : Int))) (List.mem_of_getElem? (i := 0) rfl)) (show 0 + (b : Int) = (b : Int) from by omega)
      have o2 : zI lo' 2 (r : Int) := zI_of (p2 (2, .inl sf32) (List.mem_of_getElem? (i := 2) rfl)) (z3 (2, ([], (r : Int))) (List.mem_of_getElem? (i := 1) rfl)) (show 0 + (r : Int) = (r : Int) from by omega)
      obtain ⟨_, _, rfl, ⟨y0, rfl, -⟩, p1⟩ := p1
      obtain ⟨_, _, rfl, hr, p1⟩ := p1
      have hr : _ = Value.ref 0 := hr
      subst hr
      have p1 : _ = [] := p1
      subst p1
      obtain ⟨v_, ev, hv⟩ := z2 (0, ([(4, 1)], (8 * (b : Int)))) (List.mem_of_getElem? (i := 0) rfl)
      cases ev
      have s0 : y0.toInt = gl + (8 * (b : Int)) := (show y0.toInt = (1 * gl + 0) + (8 * (b : Int)) from hv).trans (by omega)
      exact hE0 lo' h' y0 hi' hm c0 c2 o0 o1 o2 s0
    rcases List.mem_cons.mp he with rfl | he
    · obtain ⟨p1, p2, -, hz⟩ := hp
      obtain ⟨⟨z1, z2, z3, z4⟩, z5, z6⟩ := hz
      have c0 : nt = 0 := by have q_ : (0 : Int) ≤ (1 * nt + 0) + 0 := z4 ([(3, 1)], 0) (List.mem_of_getElem? (i := 0) rfl); have q2_ : (0 : Int) ≤ ((-1) * nt + 0) + 0 := z4 ([(3, (-1))], 0) (List.mem_of_getElem? (i := 1) rfl); omega
      have n0 : mn ≠ m := fun e_ => z5 (([(5, 1)], 0), ([(6, 1)], 0)) (List.mem_of_getElem? (i := 0) rfl) (by show (1 * mn + 0) + 0 = (1 * m + 0) + 0; omega)
      have o0 : zget lo' 0 = some (.ref 0) := locR (p2 (0, .inr (.inl 0)) (List.mem_of_getElem? (i := 0) rfl))
      have o1 : zI lo' 1 (b : Int) := zI_of (p2 (1, .inl sf32) (List.mem_of_getElem? (i := 1) rfl)) (z3 (1, ([], (b : Int))) (List.mem_of_getElem? (i := 0) rfl)) (show 0 + (b : Int) = (b : Int) from by omega)
      have o2 : zI lo' 2 ((r : Int) + 1) := zI_of (p2 (2, .inl sf32) (List.mem_of_getElem? (i := 2) rfl)) (z3 (2, ([], ((r : Int) + 1))) (List.mem_of_getElem? (i := 1) rfl)) (show 0 + ((r : Int) + 1) = ((r : Int) + 1) from by omega)
      have p1 : _ = [] := p1
      subst p1
      exact hE1 lo' h' hi' hm c0 n0 o0 o1 o2
    rcases List.mem_cons.mp he with rfl | he
    · obtain ⟨p1, p2, -, hz⟩ := hp
      obtain ⟨⟨z1, z2, z3, z4⟩, z5, z6⟩ := hz
      have n0 : nt ≠ 0 := fun e_ => z5 (([(3, 1)], 0), ([], 0)) (List.mem_of_getElem? (i := 0) rfl) (by show (1 * nt + 0) + 0 = 0 + 0; omega)
      have o0 : zget lo' 0 = some (.ref 0) := locR (p2 (0, .inr (.inl 0)) (List.mem_of_getElem? (i := 0) rfl))
      have o1 : zI lo' 1 (b : Int) := zI_of (p2 (1, .inl sf32) (List.mem_of_getElem? (i := 1) rfl)) (z3 (1, ([], (b : Int))) (List.mem_of_getElem? (i := 0) rfl)) (show 0 + (b : Int) = (b : Int) from by omega)
      have o2 : zI lo' 2 0 := zI_of (p2 (2, .inl sf32) (List.mem_of_getElem? (i := 2) rfl)) (z3 (2, ([], 0)) (List.mem_of_getElem? (i := 1) rfl)) (show 0 + 0 = 0 from by omega)
      have p1 : _ = [] := p1
      subst p1
      exact hE2 lo' h' hi' hm n0 o0 o1 o2
    cases he
  · intro e he r' h' hp hi' hm
    cases he
def kmT2_L (b : Nat) : List (Nat × sT) := [(0, .inr (.inl 0)), (1, .inl ((b : Int), (b : Int))), (2, .inl (0, 9))]
def kmT2_S (b : Nat) : List sT := []
def kmT2_A (b : Nat) : sAs := ([], [], [], [])
def kmT2_P (b : Nat) : List sP0 := []
def kmT2_G (b : Nat) : List sP0 := []
def kmT2_B (b : Nat) : List (Nat × Nat × Int) := []
def kmT2_m (b : Nat) : sM := []
def kmT2_e0 (b : Nat) : sXe := (2, [], [(0, .inr (.inl 0)), (1, .inl sf32), (2, .inl sf32)], sA0, [], ([], [], [(1, ([], (b : Int))), (2, ([(1, 1)], 1))], []), [], [])
theorem kmT2_b : ((List.range 2).all fun b => syeB swM sT0 (kmT2_m b) 400 0 253 (kmT2_L b) (kmT2_S b) (kmT2_A b) (kmT2_P b) (kmT2_G b) (kmT2_B b) 47 [kmT2_e0 b] []) = true := by decide +kernel
theorem kmT2 {l : Launch} {Γ : zG} {d : Nat} (hd : 0 ≤ d) {Kp : Option Value → zH → Prop} {lo : zL} {h : zH} {b : Nat} (h_b : b < 2) {ri : Int} (hi : sInv swM h) (b_ri : 0 ≤ ri ∧ ri ≤ 9) (l0 : zget lo 0 = some (.ref 0)) (l1 : zI lo 1 (b : Int)) (l2 : zI lo 2 ri)
    (hE0 : ∀ (lo' : zL) (h' : zH), sInv swM h' → sMd (kmT2_m b) h h' → zget lo' 0 = some (.ref 0) → zI lo' 1 (b : Int) → zI lo' 2 (ri + 1) → zX l Γ false (d + 1) (zhd 253) (zMQ' Γ false (zhd 253) Kp) 0 0 2 lo' [] h') : zX l Γ false (d + 1) (zhd 253) (zMQ' Γ false (zhd 253) Kp) 0 0 47 lo [] h := by
  refine sye_ok (mi := 253) (pc := 47) (fun i => [(b : Int), ri].getD i 0) (zall_r kmT2_b h_b) (fun _ _ hc _ => nomatch hc) hd ⟨l0, zIm l1 (by show (b : Int) ≤ (b : Int); omega) (by show (b : Int) ≤ (b : Int); omega), zIm l2 (by show 0 ≤ ri; omega) (by show ri ≤ 9; omega), trivial⟩ rfl ⟨(fun _ hc => nomatch hc), (fun _ hc => nomatch hc), (fun _ hc => nomatch hc), Or.inl rfl⟩ trivial trivial (fun _ hc => nomatch hc) hi ?_ ?_
  · intro e he lo' st' h' hp hi' hm
    rcases List.mem_cons.mp he with rfl | he
    · obtain ⟨p1, p2, -, hz⟩ := hp
      obtain ⟨⟨z1, z2, z3, z4⟩, z5, z6⟩ := hz
      have o0 : zget lo' 0 = some (.ref 0) := locR (p2 (0, .inr (.inl 0)) (List.mem_of_getElem? (i := 0) rfl))
      have o1 : zI lo' 1 (b : Int) := zI_of (p2 (1, .inl sf32) (List.mem_of_getElem? (i := 1) rfl)) (z3 (1, ([], (b : Int))) (List.mem_of_getElem? (i := 0) rfl)) (show 0 + (b : Int) = (b : Int) from by omega)
      have o2 : zI lo' 2 (ri + 1) := zI_of (p2 (2, .inl sf32) (List.mem_of_getElem? (i := 2) rfl)) (z3 (2, ([(1, 1)], 1)) (List.mem_of_getElem? (i := 1) rfl)) (show (1 * ri + 0) + 1 = ri + 1 from by omega)
      have p1 : _ = [] := p1
      subst p1
      exact hE0 lo' h' hi' hm o0 o1 o2
    cases he
  · intro e he r' h' hp hi' hm
    cases he
def kmT3_L (b : Nat) : List (Nat × sT) := [(0, .inr (.inl 0)), (1, .inl ((b : Int), (b : Int))), (2, .inl (0, 10))]
def kmT3_S (b : Nat) : List sT := []
def kmT3_A (b : Nat) : sAs := ([], [], [], [])
def kmT3_P (b : Nat) : List sP0 := [(0, (none, 14), (0, 10))]
def kmT3_G (b : Nat) : List sP0 := []
def kmT3_B (b : Nat) : List (Nat × Nat × Int) := [(1, 2, 0)]
def kmT3_m (b : Nat) : sM := []
def kmT3_e0 (b : Nat) : sXe := (55, [], [(0, .inr (.inl 0)), (1, .inl sf32), (2, .inl sf32)], sA0, [], ([], [], [(1, ([], (b : Int))), (2, ([], 0))], []), [], [])
theorem kmT3_b : ((List.range 2).all fun b => syeB swM sT0 (kmT3_m b) 400 0 253 (kmT3_L b) (kmT3_S b) (kmT3_A b) (kmT3_P b) (kmT3_G b) (kmT3_B b) 2 [kmT3_e0 b] []) = true := by decide +kernel
theorem kmT3 {l : Launch} {Γ : zG} {d : Nat} (hd : 0 ≤ d) {Kp : Option Value → zH → Prop} {lo : zL} {h : zH} {b : Nat} (h_b : b < 2) {ri n : Int} (hi : sInv swM h) (b_ri : 0 ≤ ri ∧ ri ≤ 10) (b_n : 0 ≤ n ∧ n ≤ 10) (l0 : zget lo 0 = some (.ref 0)) (l1 : zI lo 1 (b : Int)) (l2 : zI lo 2 ri) (p_n : pI h 0 14 = n) (d0 : 0 ≤ ri - n)
    (hE0 : ∀ (lo' : zL) (h' : zH), sInv swM h' → sMd (kmT3_m b) h h' → zget lo' 0 = some (.ref 0) → zI lo' 1 (b : Int) → zI lo' 2 0 → zX l Γ false (d + 1) (zhd 253) (zMQ' Γ false (zhd 253) Kp) 0 0 55 lo' [] h') : zX l Γ false (d + 1) (zhd 253) (zMQ' Γ false (zhd 253) Kp) 0 0 2 lo [] h := by
  refine sye_ok (mi := 253) (pc := 2) (fun i => [(b : Int), ri, n].getD i 0) (zall_r kmT3_b h_b) (fun _ _ hc _ => nomatch hc) hd ⟨l0, zIm l1 (by show (b : Int) ≤ (b : Int); omega) (by show (b : Int) ≤ (b : Int); omega), zIm l2 (by show 0 ≤ ri; omega) (by show ri ≤ 10; omega), trivial⟩ rfl ⟨(fun _ hc => nomatch hc), (fun _ hc => nomatch hc), (fun _ hc => nomatch hc), Or.inl rfl⟩ ⟨⟨p_n, by show 0 ≤ n; omega, by show n ≤ 10; omega⟩, trivial⟩ trivial (sfm d0 (fun _ hc => nomatch hc)) hi ?_ ?_
  · intro e he lo' st' h' hp hi' hm
    rcases List.mem_cons.mp he with rfl | he
    · obtain ⟨p1, p2, -, hz⟩ := hp
      obtain ⟨⟨z1, z2, z3, z4⟩, z5, z6⟩ := hz
      have o0 : zget lo' 0 = some (.ref 0) := locR (p2 (0, .inr (.inl 0)) (List.mem_of_getElem? (i := 0) rfl))
      have o1 : zI lo' 1 (b : Int) := zI_of (p2 (1, .inl sf32) (List.mem_of_getElem? (i := 1) rfl)) (z3 (1, ([], (b : Int))) (List.mem_of_getElem? (i := 0) rfl)) (show 0 + (b : Int) = (b : Int) from by omega)
      have o2 : zI lo' 2 0 := zI_of (p2 (2, .inl sf32) (List.mem_of_getElem? (i := 2) rfl)) (z3 (2, ([], 0)) (List.mem_of_getElem? (i := 1) rfl)) (show 0 + 0 = 0 from by omega)
      have p1 : _ = [] := p1
      subst p1
      exact hE0 lo' h' hi' hm o0 o1 o2
    cases he
  · intro e he r' h' hp hi' hm
    cases he
def kmP1_L (b : Nat) (r : Nat) : List (Nat × sT) := [(0, .inr (.inl 0)), (1, .inl ((b : Int), (b : Int))), (2, .inl ((r : Int), (r : Int)))]
def kmP1_S (b : Nat) (r : Nat) : List sT := []
def kmP1_A (b : Nat) (r : Nat) : sAs := ([], [], [], [])
def kmP1_P (b : Nat) (r : Nat) : List sP0 := [(0, (none, 15), (((r : Int) + 1), 10)), (14, (none, ((r : Nat) : Int)), (0, 7)), (16, (none, ((r : Nat) : Int)), sf32), (36, (none, ((b : Nat) : Int)), sf32), (0, (none, 71), sf32)]
def kmP1_G (b : Nat) (r : Nat) : List sP0 := []
def kmP1_B (b : Nat) (r : Nat) : List (Nat × Nat × Int) := []
def kmP1_m (b : Nat) (r : Nat) : sM := []
def kmP1_e0 (b : Nat) (r : Nat) : sXe := (55, [], [(0, .inr (.inl 0)), (1, .inl sf32), (2, .inl sf32)], sA0, [], ([], [], [(1, ([], (b : Int))), (2, ([], ((r : Int) + 1)))], [([(4, 1), (5, (-1))], 0), ([(4, (-1)), (5, 1)], 0), ([(3, 1), (6, (-1))], 0), ([(3, (-1)), (6, 1)], 0)]), [], [])
def kmP1_e1 (b : Nat) (r : Nat) : sXe := (94, [.inl sf32, .inl sf32, .inr (.inl 0)], [(0, .inr (.inl 0)), (1, .inl sf32), (2, .inl sf32)], sA0, [], ([], [(0, ([], (r : Int))), (1, ([], (b : Int)))], [(1, ([], (b : Int))), (2, ([], (r : Int)))], [([(4, 1), (5, (-1))], 0), ([(4, (-1)), (5, 1)], 0)]), [(([(3, 1)], 0), ([(6, 1)], 0))], [])
def kmP1_e2 (b : Nat) (r : Nat) : sXe := (55, [], [(0, .inr (.inl 0)), (1, .inl sf32), (2, .inl sf32)], sA0, [], ([], [], [(1, ([], (b : Int))), (2, ([], ((r : Int) + 1)))], []), [(([(4, 1)], 0), ([(5, 1)], 0))], [])
theorem kmP1_b : ((List.range 2).all fun b => ((List.range 10).all fun r => syeB swM sT0 (kmP1_m b r) 400 0 253 (kmP1_L b r) (kmP1_S b r) (kmP1_A b r) (kmP1_P b r) (kmP1_G b r) (kmP1_B b r) 55 [kmP1_e0 b r, kmP1_e1 b r, kmP1_e2 b r] [])) = true := by decide +kernel
theorem kmP1 {l : Launch} {Γ : zG} {d : Nat} (hd : 0 ≤ d) {Kp : Option Value → zH → Prop} {lo : zL} {h : zH} {b : Nat} (h_b : b < 2) {r : Nat} (h_r : r < 10) {n f mn m mu : Int} (hi : sInv swM h) (b_n : ((r : Int) + 1) ≤ n ∧ n ≤ 10) (b_f : 0 ≤ f ∧ f ≤ 7) (b_mn : (-2147483648) ≤ mn ∧ mn ≤ 2147483647) (b_m : (-2147483648) ≤ m ∧ m ≤ 2147483647) (b_mu : (-2147483648) ≤ mu ∧ mu ≤ 2147483647) (l0 : zget lo 0 = some (.ref 0)) (l1 : zI lo 1 (b : Int)) (l2 : zI lo 2 (r : Int)) (p_n : pI h 0 15 = n) (p_f : pI h 14 r = f) (p_mn : pI h 16 r = mn) (p_m : pI h 36 b = m) (p_mu : pI h 0 71 = mu)
    (hE0 : ∀ (lo' : zL) (h' : zH), sInv swM h' → sMd (kmP1_m b r) h h' → mn = m → f = mu → zget lo' 0 = some (.ref 0) → zI lo' 1 (b : Int) → zI lo' 2 ((r : Int) + 1) → zX l Γ false (d + 1) (zhd 253) (zMQ' Γ false (zhd 253) Kp) 0 0 55 lo' [] h')
    (hE1 : ∀ (lo' : zL) (h' : zH) (y0 : Int32) (y1 : Int32), sInv swM h' → sMd (kmP1_m b r) h h' → mn = m → f ≠ mu → zget lo' 0 = some (.ref 0) → zI lo' 1 (b : Int) → zI lo' 2 (r : Int) → y0.toInt = (r : Int) → y1.toInt = (b : Int) → zX l Γ false (d + 1) (zhd 253) (zMQ' Γ false (zhd 253) Kp) 0 0 94 lo' [.int y0, .int y1, .ref 0] h')
    (hE2 : ∀ (lo' : zL) (h' : zH), sInv swM h' → sMd (kmP1_m b r) h h' → mn ≠ m → zget lo' 0 = some (.ref 0) → zI lo' 1 (b : Int) → zI lo' 2 ((r : Int) + 1) → zX l Γ false (d + 1) (zhd 253) (zMQ' Γ false (zhd 253) Kp) 0 0 55 lo' [] h') : zX l Γ false (d + 1) (zhd 253) (zMQ' Γ false (zhd 253) Kp) 0 0 55 lo [] h := by
  refine sye_ok (mi := 253) (pc := 55) (fun i => [(b : Int), (r : Int), n, f, mn, m, mu].getD i 0) (zall_r (zall_r kmP1_b h_b) h_r) (fun _ _ hc _ => nomatch hc) hd ⟨l0, zIm l1 (by show (b : Int) ≤ (b : Int); omega) (by show (b : Int) ≤ (b : Int); omega), zIm l2 (by show (r : Int) ≤ (r : Int); omega) (by show (r : Int) ≤ (r : Int); omega), trivial⟩ rfl ⟨(fun _ hc => nomatch hc), (fun _ hc => nomatch hc), (fun _ hc => nomatch hc), Or.inl rfl⟩ ⟨⟨p_n, by show ((r : Int) + 1) ≤ n; omega, by show n ≤ 10; omega⟩, ⟨p_f, by show 0 ≤ f; omega, by show f ≤ 7; omega⟩, ⟨p_mn, by show (-2147483648) ≤ mn; omega, by show mn ≤ 2147483647; omega⟩, ⟨p_m, by show (-2147483648) ≤ m; omega, by show m ≤ 2147483647; omega⟩, ⟨p_mu, by show (-2147483648) ≤ mu; omega, by show mu ≤ 2147483647; omega⟩, trivial⟩ trivial (fun _ hc => nomatch hc) hi ?_ ?_
  · intro e he lo' st' h' hp hi' hm
    rcases List.mem_cons.mp he with rfl | he
    · obtain ⟨p1, p2, -, hz⟩ := hp
      obtain ⟨⟨z1, z2, z3, z4⟩, z5, z6⟩ := hz
      have c0 : mn = m := by have q_ : (0 : Int) ≤ (1 * mn + ((-1) * m + 0)) + 0 := z4 ([(4, 1), (5, (-1))], 0) (List.mem_of_getElem? (i := 0) rfl); have q2_ : (0 : Int) ≤ ((-1) * mn + (1 * m + 0)) + 0 := z4 ([(4, (-1)), (5, 1)], 0) (List.mem_of_getElem? (i := 1) rfl); omega
      have c2 : f = mu := by have q_ : (0 : Int) ≤ (1 * f + ((-1) * mu + 0)) + 0 := z4 ([(3, 1), (6, (-1))], 0) (List.mem_of_getElem? (i := 2) rfl); have q2_ : (0 : Int) ≤ ((-1) * f + (1 * mu + 0)) + 0 := z4 ([(3, (-1)), (6, 1)], 0) (List.mem_of_getElem? (i := 3) rfl); omega
      have o0 : zget lo' 0 = some (.ref 0) := locR (p2 (0, .inr (.inl 0)) (List.mem_of_getElem? (i := 0) rfl))
      have o1 : zI lo' 1 (b : Int) := zI_of (p2 (1, .inl sf32) (List.mem_of_getElem? (i := 1) rfl)) (z3 (1, ([], (b : Int))) (List.mem_of_getElem? (i := 0) rfl)) (show 0 + (b : Int) = (b : Int) from by omega)
      have o2 : zI lo' 2 ((r : Int) + 1) := zI_of (p2 (2, .inl sf32) (List.mem_of_getElem? (i := 2) rfl)) (z3 (2, ([], ((r : Int) + 1))) (List.mem_of_getElem? (i := 1) rfl)) (show 0 + ((r : Int) + 1) = ((r : Int) + 1) from by omega)
      have p1 : _ = [] := p1
      subst p1
      exact hE0 lo' h' hi' hm c0 c2 o0 o1 o2
    rcases List.mem_cons.mp he with rfl | he
    · obtain ⟨p1, p2, -, hz⟩ := hp
      obtain ⟨⟨z1, z2, z3, z4⟩, z5, z6⟩ := hz
      have c0 : mn = m := by have q_ : (0 : Int) ≤ (1 * mn + ((-1) * m + 0)) + 0 := z4 ([(4, 1), (5, (-1))], 0) (List.mem_of_getElem? (i := 0) rfl); have q2_ : (0 : Int) ≤ ((-1) * mn + (1 * m + 0)) + 0 := z4 ([(4, (-1)), (5, 1)], 0) (List.mem_of_getElem? (i := 1) rfl); omega
      have n0 : f ≠ mu := fun e_ => z5 (([(3, 1)], 0), ([(6, 1)], 0)) (List.mem_of_getElem? (i := 0) rfl) (by show (1 * f + 0) + 0 = (1 * mu + 0) + 0; omega)
      have o0 : zget lo' 0 = some (.ref 0) := locR (p2 (0, .inr (.inl 0)) (List.mem_of_getElem? (i := 0) rfl))
      have o1 : zI lo' 1 (b : Int) := zI_of (p2 (1, .inl sf32) (List.mem_of_getElem? (i := 1) rfl)) (z3 (1, ([], (b : Int))) (List.mem_of_getElem? (i := 0) rfl)) (show 0 + (b : Int) = (b : Int) from by omega)
      have o2 : zI lo' 2 (r : Int) := zI_of (p2 (2, .inl sf32) (List.mem_of_getElem? (i := 2) rfl)) (z3 (2, ([], (r : Int))) (List.mem_of_getElem? (i := 1) rfl)) (show 0 + (r : Int) = (r : Int) from by omega)
      obtain ⟨_, _, rfl, ⟨y0, rfl, -⟩, p1⟩ := p1
      obtain ⟨_, _, rfl, ⟨y1, rfl, -⟩, p1⟩ := p1
      obtain ⟨_, _, rfl, hr, p1⟩ := p1
      have hr : _ = Value.ref 0 := hr
      subst hr
      have p1 : _ = [] := p1
      subst p1
      obtain ⟨v_, ev, hv⟩ := z2 (0, ([], (r : Int))) (List.mem_of_getElem? (i := 0) rfl)
      cases ev
      have s0 : y0.toInt = (r : Int) := (show y0.toInt = 0 + (r : Int) from hv).trans (by omega)
      obtain ⟨v_, ev, hv⟩ := z2 (1, ([], (b : Int))) (List.mem_of_getElem? (i := 1) rfl)
      cases ev
      have s1 : y1.toInt = (b : Int) := (show y1.toInt = 0 + (b : Int) from hv).trans (by omega)
      exact hE1 lo' h' y0 y1 hi' hm c0 n0 o0 o1 o2 s0 s1
    rcases List.mem_cons.mp he with rfl | he
    · obtain ⟨p1, p2, -, hz⟩ := hp
      obtain ⟨⟨z1, z2, z3, z4⟩, z5, z6⟩ := hz
      have n0 : mn ≠ m := fun e_ => z5 (([(4, 1)], 0), ([(5, 1)], 0)) (List.mem_of_getElem? (i := 0) rfl) (by show (1 * mn + 0) + 0 = (1 * m + 0) + 0; omega)
      have o0 : zget lo' 0 = some (.ref 0) := locR (p2 (0, .inr (.inl 0)) (List.mem_of_getElem? (i := 0) rfl))
      have o1 : zI lo' 1 (b : Int) := zI_of (p2 (1, .inl sf32) (List.mem_of_getElem? (i := 1) rfl)) (z3 (1, ([], (b : Int))) (List.mem_of_getElem? (i := 0) rfl)) (show 0 + (b : Int) = (b : Int) from by omega)
      have o2 : zI lo' 2 ((r : Int) + 1) := zI_of (p2 (2, .inl sf32) (List.mem_of_getElem? (i := 2) rfl)) (z3 (2, ([], ((r : Int) + 1))) (List.mem_of_getElem? (i := 1) rfl)) (show 0 + ((r : Int) + 1) = ((r : Int) + 1) from by omega)
      have p1 : _ = [] := p1
      subst p1
      exact hE2 lo' h' hi' hm n0 o0 o1 o2
    cases he
  · intro e he r' h' hp hi' hm
    cases he
def kmP2_L (b : Nat) : List (Nat × sT) := [(0, .inr (.inl 0)), (1, .inl ((b : Int), (b : Int))), (2, .inl (0, 9))]
def kmP2_S (b : Nat) : List sT := []
def kmP2_A (b : Nat) : sAs := ([], [], [], [])
def kmP2_P (b : Nat) : List sP0 := []
def kmP2_G (b : Nat) : List sP0 := []
def kmP2_B (b : Nat) : List (Nat × Nat × Int) := []
def kmP2_m (b : Nat) : sM := []
def kmP2_e0 (b : Nat) : sXe := (55, [], [(0, .inr (.inl 0)), (1, .inl sf32), (2, .inl sf32)], sA0, [], ([], [], [(1, ([], (b : Int))), (2, ([(1, 1)], 1))], []), [], [])
theorem kmP2_b : ((List.range 2).all fun b => syeB swM sT0 (kmP2_m b) 400 0 253 (kmP2_L b) (kmP2_S b) (kmP2_A b) (kmP2_P b) (kmP2_G b) (kmP2_B b) 97 [kmP2_e0 b] []) = true := by decide +kernel
theorem kmP2 {l : Launch} {Γ : zG} {d : Nat} (hd : 0 ≤ d) {Kp : Option Value → zH → Prop} {lo : zL} {h : zH} {b : Nat} (h_b : b < 2) {ri : Int} (hi : sInv swM h) (b_ri : 0 ≤ ri ∧ ri ≤ 9) (l0 : zget lo 0 = some (.ref 0)) (l1 : zI lo 1 (b : Int)) (l2 : zI lo 2 ri)
    (hE0 : ∀ (lo' : zL) (h' : zH), sInv swM h' → sMd (kmP2_m b) h h' → zget lo' 0 = some (.ref 0) → zI lo' 1 (b : Int) → zI lo' 2 (ri + 1) → zX l Γ false (d + 1) (zhd 253) (zMQ' Γ false (zhd 253) Kp) 0 0 55 lo' [] h') : zX l Γ false (d + 1) (zhd 253) (zMQ' Γ false (zhd 253) Kp) 0 0 97 lo [] h := by
  refine sye_ok (mi := 253) (pc := 97) (fun i => [(b : Int), ri].getD i 0) (zall_r kmP2_b h_b) (fun _ _ hc _ => nomatch hc) hd ⟨l0, zIm l1 (by show (b : Int) ≤ (b : Int); omega) (by show (b : Int) ≤ (b : Int); omega), zIm l2 (by show 0 ≤ ri; omega) (by show ri ≤ 9; omega), trivial⟩ rfl ⟨(fun _ hc => nomatch hc), (fun _ hc => nomatch hc), (fun _ hc => nomatch hc), Or.inl rfl⟩ trivial trivial (fun _ hc => nomatch hc) hi ?_ ?_
  · intro e he lo' st' h' hp hi' hm
    rcases List.mem_cons.mp he with rfl | he
    · obtain ⟨p1, p2, -, hz⟩ := hp
      obtain ⟨⟨z1, z2, z3, z4⟩, z5, z6⟩ := hz
      have o0 : zget lo' 0 = some (.ref 0) := locR (p2 (0, .inr (.inl 0)) (List.mem_of_getElem? (i := 0) rfl))
      have o1 : zI lo' 1 (b : Int) := zI_of (p2 (1, .inl sf32) (List.mem_of_getElem? (i := 1) rfl)) (z3 (1, ([], (b : Int))) (List.mem_of_getElem? (i := 0) rfl)) (show 0 + (b : Int) = (b : Int) from by omega)
      have o2 : zI lo' 2 (ri + 1) := zI_of (p2 (2, .inl sf32) (List.mem_of_getElem? (i := 2) rfl)) (z3 (2, ([(1, 1)], 1)) (List.mem_of_getElem? (i := 1) rfl)) (show (1 * ri + 0) + 1 = ri + 1 from by omega)
      have p1 : _ = [] := p1
      subst p1
      exact hE0 lo' h' hi' hm o0 o1 o2
    cases he
  · intro e he r' h' hp hi' hm
    cases he
def kmP3_L (b : Nat) : List (Nat × sT) := [(0, .inr (.inl 0)), (1, .inl ((b : Int), (b : Int))), (2, .inl (0, 10))]
def kmP3_S (b : Nat) : List sT := []
def kmP3_A (b : Nat) : sAs := ([], [], [], [])
def kmP3_P (b : Nat) : List sP0 := [(0, (none, 15), (0, 10))]
def kmP3_G (b : Nat) : List sP0 := []
def kmP3_B (b : Nat) : List (Nat × Nat × Int) := [(1, 2, 0)]
def kmP3_m (b : Nat) : sM := []
def kmP3_e0 (b : Nat) : sXe := (105, [], [(0, .inr (.inl 0)), (1, .inl sf32), (2, .inl sf32)], sA0, [], ([], [], [(1, ([], (b : Int))), (2, ([], 0))], []), [], [])
theorem kmP3_b : ((List.range 2).all fun b => syeB swM sT0 (kmP3_m b) 400 0 253 (kmP3_L b) (kmP3_S b) (kmP3_A b) (kmP3_P b) (kmP3_G b) (kmP3_B b) 55 [kmP3_e0 b] []) = true := by decide +kernel
theorem kmP3 {l : Launch} {Γ : zG} {d : Nat} (hd : 0 ≤ d) {Kp : Option Value → zH → Prop} {lo : zL} {h : zH} {b : Nat} (h_b : b < 2) {ri n : Int} (hi : sInv swM h) (b_ri : 0 ≤ ri ∧ ri ≤ 10) (b_n : 0 ≤ n ∧ n ≤ 10) (l0 : zget lo 0 = some (.ref 0)) (l1 : zI lo 1 (b : Int)) (l2 : zI lo 2 ri) (p_n : pI h 0 15 = n) (d0 : 0 ≤ ri - n)
    (hE0 : ∀ (lo' : zL) (h' : zH), sInv swM h' → sMd (kmP3_m b) h h' → zget lo' 0 = some (.ref 0) → zI lo' 1 (b : Int) → zI lo' 2 0 → zX l Γ false (d + 1) (zhd 253) (zMQ' Γ false (zhd 253) Kp) 0 0 105 lo' [] h') : zX l Γ false (d + 1) (zhd 253) (zMQ' Γ false (zhd 253) Kp) 0 0 55 lo [] h := by
  refine sye_ok (mi := 253) (pc := 55) (fun i => [(b : Int), ri, n].getD i 0) (zall_r kmP3_b h_b) (fun _ _ hc _ => nomatch hc) hd ⟨l0, zIm l1 (by show (b : Int) ≤ (b : Int); omega) (by show (b : Int) ≤ (b : Int); omega), zIm l2 (by show 0 ≤ ri; omega) (by show ri ≤ 10; omega), trivial⟩ rfl ⟨(fun _ hc => nomatch hc), (fun _ hc => nomatch hc), (fun _ hc => nomatch hc), Or.inl rfl⟩ ⟨⟨p_n, by show 0 ≤ n; omega, by show n ≤ 10; omega⟩, trivial⟩ trivial (sfm d0 (fun _ hc => nomatch hc)) hi ?_ ?_
  · intro e he lo' st' h' hp hi' hm
    rcases List.mem_cons.mp he with rfl | he
    · obtain ⟨p1, p2, -, hz⟩ := hp
      obtain ⟨⟨z1, z2, z3, z4⟩, z5, z6⟩ := hz
      have o0 : zget lo' 0 = some (.ref 0) := locR (p2 (0, .inr (.inl 0)) (List.mem_of_getElem? (i := 0) rfl))
      have o1 : zI lo' 1 (b : Int) := zI_of (p2 (1, .inl sf32) (List.mem_of_getElem? (i := 1) rfl)) (z3 (1, ([], (b : Int))) (List.mem_of_getElem? (i := 0) rfl)) (show 0 + (b : Int) = (b : Int) from by omega)
      have o2 : zI lo' 2 0 := zI_of (p2 (2, .inl sf32) (List.mem_of_getElem? (i := 2) rfl)) (z3 (2, ([], 0)) (List.mem_of_getElem? (i := 1) rfl)) (show 0 + 0 = 0 from by omega)
      have p1 : _ = [] := p1
      subst p1
      exact hE0 lo' h' hi' hm o0 o1 o2
    cases he
  · intro e he r' h' hp hi' hm
    cases he
def kmD1_L (b : Nat) (g : Nat) : List (Nat × sT) := [(0, .inr (.inl 0)), (1, .inl ((b : Int), (b : Int))), (2, .inl ((g : Int), (g : Int)))]
def kmD1_S (b : Nat) (g : Nat) : List sT := []
def kmD1_A (b : Nat) (g : Nat) : sAs := ([], [], [], [])
def kmD1_P (b : Nat) (g : Nat) : List sP0 := [(0, (none, 13), (((g : Int) + 1), 8)), (31, (none, (((8 * b + g) : Nat) : Int)), (0, 1))]
def kmD1_G (b : Nat) (g : Nat) : List sP0 := []
def kmD1_B (b : Nat) (g : Nat) : List (Nat × Nat × Int) := []
def kmD1_m (b : Nat) (g : Nat) : sM := []
def kmD1_e0 (b : Nat) (g : Nat) : sXe := (138, [.inr (.inl 0), .inl sf32, .inr (.inl 31)], [(0, .inr (.inl 0)), (1, .inl sf32), (2, .inl sf32)], sA0, [], ([], [(1, ([], (8 * (b : Int) + (g : Int))))], [(1, ([], (b : Int))), (2, ([], (g : Int)))], [([(3, 1)], 0), ([(3, (-1))], 0)]), [], [])
def kmD1_e1 (b : Nat) (g : Nat) : sXe := (105, [], [(0, .inr (.inl 0)), (1, .inl sf32), (2, .inl sf32)], sA0, [], ([], [], [(1, ([], (b : Int))), (2, ([], ((g : Int) + 1)))], []), [(([(3, 1)], 0), ([], 0))], [])
theorem kmD1_b : ((List.range 2).all fun b => ((List.range 8).all fun g => syeB swM sT0 (kmD1_m b g) 400 0 253 (kmD1_L b g) (kmD1_S b g) (kmD1_A b g) (kmD1_P b g) (kmD1_G b g) (kmD1_B b g) 105 [kmD1_e0 b g, kmD1_e1 b g] [])) = true := by decide +kernel
theorem kmD1 {l : Launch} {Γ : zG} {d : Nat} (hd : 0 ≤ d) {Kp : Option Value → zH → Prop} {lo : zL} {h : zH} {b : Nat} (h_b : b < 2) {g : Nat} (h_g : g < 8) {n w : Int} (hi : sInv swM h) (b_n : ((g : Int) + 1) ≤ n ∧ n ≤ 8) (b_w : 0 ≤ w ∧ w ≤ 1) (l0 : zget lo 0 = some (.ref 0)) (l1 : zI lo 1 (b : Int)) (l2 : zI lo 2 (g : Int)) (p_n : pI h 0 13 = n) (p_w : pI h 31 (8 * b + g) = w)
    (hE0 : ∀ (lo' : zL) (h' : zH) (y1 : Int32), sInv swM h' → sMd (kmD1_m b g) h h' → w = 0 → zget lo' 0 = some (.ref 0) → zI lo' 1 (b : Int) → zI lo' 2 (g : Int) → y1.toInt = (8 * (b : Int) + (g : Int)) → zX l Γ false (d + 1) (zhd 253) (zMQ' Γ false (zhd 253) Kp) 0 0 138 lo' [.ref 0, .int y1, .ref 31] h')
    (hE1 : ∀ (lo' : zL) (h' : zH), sInv swM h' → sMd (kmD1_m b g) h h' → w ≠ 0 → zget lo' 0 = some (.ref 0) → zI lo' 1 (b : Int) → zI lo' 2 ((g : Int) + 1) → zX l Γ false (d + 1) (zhd 253) (zMQ' Γ false (zhd 253) Kp) 0 0 105 lo' [] h') : zX l Γ false (d + 1) (zhd 253) (zMQ' Γ false (zhd 253) Kp) 0 0 105 lo [] h := by
  refine sye_ok (mi := 253) (pc := 105) (fun i => [(b : Int), (g : Int), n, w].getD i 0) (zall_r (zall_r kmD1_b h_b) h_g) (fun _ _ hc _ => nomatch hc) hd ⟨l0, zIm l1 (by show (b : Int) ≤ (b : Int); omega) (by show (b : Int) ≤ (b : Int); omega), zIm l2 (by show (g : Int) ≤ (g : Int); omega) (by show (g : Int) ≤ (g : Int); omega), trivial⟩ rfl ⟨(fun _ hc => nomatch hc), (fun _ hc => nomatch hc), (fun _ hc => nomatch hc), Or.inl rfl⟩ ⟨⟨p_n, by show ((g : Int) + 1) ≤ n; omega, by show n ≤ 8; omega⟩, ⟨p_w, by show 0 ≤ w; omega, by show w ≤ 1; omega⟩, trivial⟩ trivial (fun _ hc => nomatch hc) hi ?_ ?_
  · intro e he lo' st' h' hp hi' hm
    rcases List.mem_cons.mp he with rfl | he
    · obtain ⟨p1, p2, -, hz⟩ := hp
      obtain ⟨⟨z1, z2, z3, z4⟩, z5, z6⟩ := hz
      have c0 : w = 0 := by have q_ : (0 : Int) ≤ (1 * w + 0) + 0 := z4 ([(3, 1)], 0) (List.mem_of_getElem? (i := 0) rfl); have q2_ : (0 : Int) ≤ ((-1) * w + 0) + 0 := z4 ([(3, (-1))], 0) (List.mem_of_getElem? (i := 1) rfl); omega
      have o0 : zget lo' 0 = some (.ref 0) := locR (p2 (0, .inr (.inl 0)) (List.mem_of_getElem? (i := 0) rfl))
      have o1 : zI lo' 1 (b : Int) := zI_of (p2 (1, .inl sf32) (List.mem_of_getElem? (i := 1) rfl)) (z3 (1, ([], (b : Int))) (List.mem_of_getElem? (i := 0) rfl)) (show 0 + (b : Int) = (b : Int) from by omega)
      have o2 : zI lo' 2 (g : Int) := zI_of (p2 (2, .inl sf32) (List.mem_of_getElem? (i := 2) rfl)) (z3 (2, ([], (g : Int))) (List.mem_of_getElem? (i := 1) rfl)) (show 0 + (g : Int) = (g : Int) from by omega)
      obtain ⟨_, _, rfl, hr, p1⟩ := p1
      have hr : _ = Value.ref 0 := hr
      subst hr
      obtain ⟨_, _, rfl, ⟨y1, rfl, -⟩, p1⟩ := p1
      obtain ⟨_, _, rfl, hr, p1⟩ := p1
      have hr : _ = Value.ref 31 := hr
      subst hr
      have p1 : _ = [] := p1
      subst p1
      obtain ⟨v_, ev, hv⟩ := z2 (1, ([], (8 * (b : Int) + (g : Int)))) (List.mem_of_getElem? (i := 0) rfl)
      cases ev
      have s1 : y1.toInt = (8 * (b : Int) + (g : Int)) := (show y1.toInt = 0 + (8 * (b : Int) + (g : Int)) from hv).trans (by omega)
      exact hE0 lo' h' y1 hi' hm c0 o0 o1 o2 s1
    rcases List.mem_cons.mp he with rfl | he
    · obtain ⟨p1, p2, -, hz⟩ := hp
      obtain ⟨⟨z1, z2, z3, z4⟩, z5, z6⟩ := hz
      have n0 : w ≠ 0 := fun e_ => z5 (([(3, 1)], 0), ([], 0)) (List.mem_of_getElem? (i := 0) rfl) (by show (1 * w + 0) + 0 = 0 + 0; omega)
      have o0 : zget lo' 0 = some (.ref 0) := locR (p2 (0, .inr (.inl 0)) (List.mem_of_getElem? (i := 0) rfl))
      have o1 : zI lo' 1 (b : Int) := zI_of (p2 (1, .inl sf32) (List.mem_of_getElem? (i := 1) rfl)) (z3 (1, ([], (b : Int))) (List.mem_of_getElem? (i := 0) rfl)) (show 0 + (b : Int) = (b : Int) from by omega)
      have o2 : zI lo' 2 ((g : Int) + 1) := zI_of (p2 (2, .inl sf32) (List.mem_of_getElem? (i := 2) rfl)) (z3 (2, ([], ((g : Int) + 1))) (List.mem_of_getElem? (i := 1) rfl)) (show 0 + ((g : Int) + 1) = ((g : Int) + 1) from by omega)
      have p1 : _ = [] := p1
      subst p1
      exact hE1 lo' h' hi' hm n0 o0 o1 o2
    cases he
  · intro e he r' h' hp hi' hm
    cases he
def kmD2_L (b : Nat) (g : Nat) : List (Nat × sT) := [(0, .inr (.inl 0)), (1, .inl ((b : Int), (b : Int))), (2, .inl ((g : Int), (g : Int)))]
def kmD2_S (b : Nat) (g : Nat) : List sT := [.inl (0, 1), .inl ((8 * (b : Int) + (g : Int)), (8 * (b : Int) + (g : Int))), .inr (.inl 31)]
def kmD2_A (b : Nat) (g : Nat) : sAs := ([], [], [], [])
def kmD2_P (b : Nat) (g : Nat) : List sP0 := []
def kmD2_G (b : Nat) (g : Nat) : List sP0 := []
def kmD2_B (b : Nat) (g : Nat) : List (Nat × Nat × Int) := []
def kmD2_m (b : Nat) (g : Nat) : sM := [(31, (8 * b + g), (8 * b + g + 1))]
def kmD2_e0 (b : Nat) (g : Nat) : sXe := (105, [], [(0, .inr (.inl 0)), (1, .inl sf32), (2, .inl sf32)], sA0, [], ([(31, (none, (((8 * b + g) : Nat) : Int)), ([(2, 1)], 0))], [], [(1, ([], (b : Int))), (2, ([], ((g : Int) + 1)))], []), [], [])
theorem kmD2_b : ((List.range 2).all fun b => ((List.range 8).all fun g => syeB swM sT0 (kmD2_m b g) 400 0 253 (kmD2_L b g) (kmD2_S b g) (kmD2_A b g) (kmD2_P b g) (kmD2_G b g) (kmD2_B b g) 141 [kmD2_e0 b g] [])) = true := by decide +kernel
theorem kmD2 {l : Launch} {Γ : zG} {d : Nat} (hd : 0 ≤ d) {Kp : Option Value → zH → Prop} {lo : zL} {h : zH} {b : Nat} (h_b : b < 2) {g : Nat} (h_g : g < 8) {x : Int} (hi : sInv swM h) (b_x : 0 ≤ x ∧ x ≤ 1) (l0 : zget lo 0 = some (.ref 0)) (l1 : zI lo 1 (b : Int)) (l2 : zI lo 2 (g : Int)) {x_x : Int32} (e_x : x_x.toInt = x) {x_ix : Int32} (e_ix : x_ix.toInt = (8 * (b : Int) + (g : Int)))
    (hE0 : ∀ (lo' : zL) (h' : zH), sInv swM h' → sMd (kmD2_m b g) h h' → pI h' 31 (8 * b + g) = x → zget lo' 0 = some (.ref 0) → zI lo' 1 (b : Int) → zI lo' 2 ((g : Int) + 1) → zX l Γ false (d + 1) (zhd 253) (zMQ' Γ false (zhd 253) Kp) 0 0 105 lo' [] h') : zX l Γ false (d + 1) (zhd 253) (zMQ' Γ false (zhd 253) Kp) 0 0 141 lo [.int x_x, .int x_ix, .ref 31] h := by
  refine sye_ok (mi := 253) (pc := 141) (fun i => [(b : Int), (g : Int), x, (8 * (b : Int) + (g : Int))].getD i 0) (zall_r (zall_r kmD2_b h_b) h_g) (fun _ _ hc _ => nomatch hc) hd ⟨l0, zIm l1 (by show (b : Int) ≤ (b : Int); omega) (by show (b : Int) ≤ (b : Int); omega), zIm l2 (by show (g : Int) ≤ (g : Int); omega) (by show (g : Int) ≤ (g : Int); omega), trivial⟩ ⟨x_x, _, rfl, e_x, ⟨by show 0 ≤ x; omega, by show x ≤ 1; omega⟩, ⟨x_ix, _, rfl, e_ix, ⟨by show (8 * (b : Int) + (g : Int)) ≤ (8 * (b : Int) + (g : Int)); omega, by show (8 * (b : Int) + (g : Int)) ≤ (8 * (b : Int) + (g : Int)); omega⟩, ⟨_, rfl, rfl⟩⟩⟩ ⟨(fun _ hc => nomatch hc), (fun _ hc => nomatch hc), (fun _ hc => nomatch hc), Or.inl rfl⟩ trivial trivial (fun _ hc => nomatch hc) hi ?_ ?_
  · intro e he lo' st' h' hp hi' hm
    rcases List.mem_cons.mp he with rfl | he
    · obtain ⟨p1, p2, -, hz⟩ := hp
      obtain ⟨⟨z1, z2, z3, z4⟩, z5, z6⟩ := hz
      have k0 : pI h' 31 (8 * b + g) = x := (show pI h' 31 (8 * b + g) = (1 * x + 0) + 0 from z1 (31, (none, (((8 * b + g) : Nat) : Int)), ([(2, 1)], 0)) (List.mem_of_getElem? (i := 0) rfl)).trans (by omega)
      have o0 : zget lo' 0 = some (.ref 0) := locR (p2 (0, .inr (.inl 0)) (List.mem_of_getElem? (i := 0) rfl))
      have o1 : zI lo' 1 (b : Int) := zI_of (p2 (1, .inl sf32) (List.mem_of_getElem? (i := 1) rfl)) (z3 (1, ([], (b : Int))) (List.mem_of_getElem? (i := 0) rfl)) (show 0 + (b : Int) = (b : Int) from by omega)
      have o2 : zI lo' 2 ((g : Int) + 1) := zI_of (p2 (2, .inl sf32) (List.mem_of_getElem? (i := 2) rfl)) (z3 (2, ([], ((g : Int) + 1))) (List.mem_of_getElem? (i := 1) rfl)) (show 0 + ((g : Int) + 1) = ((g : Int) + 1) from by omega)
      have p1 : _ = [] := p1
      subst p1
      exact hE0 lo' h' hi' hm k0 o0 o1 o2
    cases he
  · intro e he r' h' hp hi' hm
    cases he
def kmD3_L (b : Nat) : List (Nat × sT) := [(0, .inr (.inl 0)), (1, .inl ((b : Int), (b : Int))), (2, .inl (0, 8))]
def kmD3_S (b : Nat) : List sT := []
def kmD3_A (b : Nat) : sAs := ([], [], [], [])
def kmD3_P (b : Nat) : List sP0 := [(0, (none, 13), (0, 8))]
def kmD3_G (b : Nat) : List sP0 := []
def kmD3_B (b : Nat) : List (Nat × Nat × Int) := [(1, 2, 0)]
def kmD3_m (b : Nat) : sM := []
def kmD3_e0 (b : Nat) : sXe := (150, [], [(0, .inr (.inl 0)), (1, .inl sf32), (2, .inl sf32)], sA0, [], ([], [], [(1, ([], (b : Int))), (2, ([], 0))], []), [], [])
theorem kmD3_b : ((List.range 2).all fun b => syeB swM sT0 (kmD3_m b) 400 0 253 (kmD3_L b) (kmD3_S b) (kmD3_A b) (kmD3_P b) (kmD3_G b) (kmD3_B b) 105 [kmD3_e0 b] []) = true := by decide +kernel
theorem kmD3 {l : Launch} {Γ : zG} {d : Nat} (hd : 0 ≤ d) {Kp : Option Value → zH → Prop} {lo : zL} {h : zH} {b : Nat} (h_b : b < 2) {ri n : Int} (hi : sInv swM h) (b_ri : 0 ≤ ri ∧ ri ≤ 8) (b_n : 0 ≤ n ∧ n ≤ 8) (l0 : zget lo 0 = some (.ref 0)) (l1 : zI lo 1 (b : Int)) (l2 : zI lo 2 ri) (p_n : pI h 0 13 = n) (d0 : 0 ≤ ri - n)
    (hE0 : ∀ (lo' : zL) (h' : zH), sInv swM h' → sMd (kmD3_m b) h h' → zget lo' 0 = some (.ref 0) → zI lo' 1 (b : Int) → zI lo' 2 0 → zX l Γ false (d + 1) (zhd 253) (zMQ' Γ false (zhd 253) Kp) 0 0 150 lo' [] h') : zX l Γ false (d + 1) (zhd 253) (zMQ' Γ false (zhd 253) Kp) 0 0 105 lo [] h := by
  refine sye_ok (mi := 253) (pc := 105) (fun i => [(b : Int), ri, n].getD i 0) (zall_r kmD3_b h_b) (fun _ _ hc _ => nomatch hc) hd ⟨l0, zIm l1 (by show (b : Int) ≤ (b : Int); omega) (by show (b : Int) ≤ (b : Int); omega), zIm l2 (by show 0 ≤ ri; omega) (by show ri ≤ 8; omega), trivial⟩ rfl ⟨(fun _ hc => nomatch hc), (fun _ hc => nomatch hc), (fun _ hc => nomatch hc), Or.inl rfl⟩ ⟨⟨p_n, by show 0 ≤ n; omega, by show n ≤ 8; omega⟩, trivial⟩ trivial (sfm d0 (fun _ hc => nomatch hc)) hi ?_ ?_
  · intro e he lo' st' h' hp hi' hm
    rcases List.mem_cons.mp he with rfl | he
    · obtain ⟨p1, p2, -, hz⟩ := hp
      obtain ⟨⟨z1, z2, z3, z4⟩, z5, z6⟩ := hz
      have o0 : zget lo' 0 = some (.ref 0) := locR (p2 (0, .inr (.inl 0)) (List.mem_of_getElem? (i := 0) rfl))
      have o1 : zI lo' 1 (b : Int) := zI_of (p2 (1, .inl sf32) (List.mem_of_getElem? (i := 1) rfl)) (z3 (1, ([], (b : Int))) (List.mem_of_getElem? (i := 0) rfl)) (show 0 + (b : Int) = (b : Int) from by omega)
      have o2 : zI lo' 2 0 := zI_of (p2 (2, .inl sf32) (List.mem_of_getElem? (i := 2) rfl)) (z3 (2, ([], 0)) (List.mem_of_getElem? (i := 1) rfl)) (show 0 + 0 = 0 from by omega)
      have p1 : _ = [] := p1
      subst p1
      exact hE0 lo' h' hi' hm o0 o1 o2
    cases he
  · intro e he r' h' hp hi' hm
    cases he
def kmDi_L : List sT := [.inr (.inl 0)]
def kmDi_A : sAs := ([], [], [], [])
def kmDi_P : List sP0 := [(0, (none, 67), (0, 1)), (4, (none, 0), (0, 100)), (0, (none, 66), (0, 1))]
def kmDi_G : List sP0 := [(0, (none, 65), sf64)]
def kmDi_B : List (Nat × Nat × Int) := []
def kmDi_m : sM := [(0, 65, 66)]
def kmDi_r0 : sXr := (some (.inl sf32), sA0, [(2, 0, ([], 65), ([], 0))], ([], [(0, ([], 0))], [], [([(0, 1)], 0), ([(0, (-1))], 0), ([(1, 1)], 0), ([(1, (-1))], 0)]), [], [(4, ([(3, 1)], 0))])
def kmDi_r1 : sXr := (some (.inl sf32), sA0, [(2, 0, ([], 65), ([], 0))], ([], [(0, ([], 1))], [], [([(0, 1)], 0), ([(0, (-1))], 0), ([(1, 1)], (-100)), ([(1, (-1))], 100)]), [(([(1, 1)], 0), ([], 0))], [(4, ([(3, 1)], 0))])
def kmDi_r2 : sXr := (some (.inl sf32), sA0, [(2, 0, ([], 65), ([], 0))], ([], [(0, ([], 0))], [], [([(1, (-1))], 49), ([(0, 1)], 0), ([(0, (-1))], 0), ([(2, 1)], 0), ([(2, (-1))], 0)]), [(([(1, 1)], 0), ([], 0)), (([(1, 1)], 0), ([], 100))], [(4, ([(3, 1)], 0))])
def kmDi_r3 : sXr := (some (.inl sf32), sA0, [(2, 0, ([], 65), ([], 0))], ([], [(0, ([], 1))], [], [([(1, 1)], (-50)), ([(0, 1)], 0), ([(0, (-1))], 0), ([(2, 1)], 0), ([(2, (-1))], 0)]), [(([(1, 1)], 0), ([], 0)), (([(1, 1)], 0), ([], 100))], [(4, ([(3, 1)], 0))])
def kmDi_r4 : sXr := (some (.inl sf32), sA0, [(0, 16, ([(3, 1)], 0), ([], 1103515245)), (0, 19, ([(4, 1)], 0), ([], 12345)), (0, 12, ([(5, 1)], 0), ([], 2147483647)), (0, 17, ([(6, 1)], 0), ([], 65536)), (0, 18, ([(7, 1)], 0), ([], 100)), (2, 0, ([], 65), ([], 0))], ([], [(0, ([], 0))], [], [([(1, (-1)), (8, 1)], 0), ([(0, 1)], 0), ([(0, (-1))], 0)]), [(([(1, 1)], 0), ([], 0)), (([(1, 1)], 0), ([], 100)), (([(2, 1)], 0), ([], 0))], [(9, ([(6, 1)], 0))])
def kmDi_r5 : sXr := (some (.inl sf32), sA0, [(0, 16, ([(3, 1)], 0), ([], 1103515245)), (0, 19, ([(4, 1)], 0), ([], 12345)), (0, 12, ([(5, 1)], 0), ([], 2147483647)), (0, 17, ([(6, 1)], 0), ([], 65536)), (0, 18, ([(7, 1)], 0), ([], 100)), (2, 0, ([], 65), ([], 0))], ([], [(0, ([], 1))], [], [([(1, 1), (8, (-1))], (-1)), ([(0, 1)], 0), ([(0, (-1))], 0)]), [(([(1, 1)], 0), ([], 0)), (([(1, 1)], 0), ([], 100)), (([(2, 1)], 0), ([], 0))], [(9, ([(6, 1)], 0))])
def kmDi_r6 : sXr := (some (.inl sf32), sA0, [(2, 0, ([], 65), ([], 0))], ([], [(0, ([], 0))], [], []), [(([(0, 1)], 0), ([], 0))], [(4, ([(3, 1)], 0))])
theorem kmDi_b : syfB swM sT0 kmDi_m 400 1 257 kmDi_L kmDi_A kmDi_P kmDi_G kmDi_B [] [kmDi_r0, kmDi_r1, kmDi_r2, kmDi_r3, kmDi_r4, kmDi_r5, kmDi_r6] = true := by decide +kernel
theorem kmDi {l : Launch} {Γ : zG} {d : Nat} (hd : 1 ≤ d) {Kp : Option Value → zH → Prop} {h : zH} {nd dm dr nu : Int} (hi : sInv swM h) (b_nd : 0 ≤ nd ∧ nd ≤ 1) (b_dm : 0 ≤ dm ∧ dm ≤ 100) (b_dr : 0 ≤ dr ∧ dr ≤ 1) (b_nu : (-9223372036854775808) ≤ nu ∧ nu ≤ 9223372036854775807) (p_nd : pI h 0 67 = nd) (p_dm : pI h 4 0 = dm) (p_dr : pI h 0 66 = dr) (p_nu : pL h 0 65 = nu)
    (hR0 : ∀ (h' : zH) (u0 : Int) (r_ : Int32), sInv swM h' → sMd kmDi_m h h' → pL h' 0 65 = u0 → u0 = nu → nd = 0 → dm = 0 → r_.toInt = 0 → Kp (some (.int r_)) h')
    (hR1 : ∀ (h' : zH) (u0 : Int) (r_ : Int32), sInv swM h' → sMd kmDi_m h h' → pL h' 0 65 = u0 → u0 = nu → nd = 0 → dm = 100 → dm ≠ 0 → r_.toInt = 1 → Kp (some (.int r_)) h')
    (hR2 : ∀ (h' : zH) (u0 : Int) (r_ : Int32), sInv swM h' → sMd kmDi_m h h' → pL h' 0 65 = u0 → u0 = nu → 0 ≤ -dm + 49 → nd = 0 → dr = 0 → dm ≠ 0 → dm ≠ 100 → r_.toInt = 0 → Kp (some (.int r_)) h')
    (hR3 : ∀ (h' : zH) (u0 : Int) (r_ : Int32), sInv swM h' → sMd kmDi_m h h' → pL h' 0 65 = u0 → u0 = nu → 0 ≤ dm - 50 → nd = 0 → dr = 0 → dm ≠ 0 → dm ≠ 100 → r_.toInt = 1 → Kp (some (.int r_)) h')
    (hR4 : ∀ (h' : zH) (w0 w1 w2 w3 w4 u0 : Int) (r_ : Int32), sInv swM h' → sMd kmDi_m h h' → w0 = sgfn 16 nu 1103515245 → w1 = sgfn 19 w0 12345 → w2 = sgfn 12 w1 2147483647 → w3 = sgfn 17 w2 65536 → w4 = sgfn 18 w3 100 → pL h' 0 65 = u0 → u0 = w2 → 0 ≤ -dm + w4 → nd = 0 → dm ≠ 0 → dm ≠ 100 → dr ≠ 0 → r_.toInt = 0 → Kp (some (.int r_)) h')
    (hR5 : ∀ (h' : zH) (w0 w1 w2 w3 w4 u0 : Int) (r_ : Int32), sInv swM h' → sMd kmDi_m h h' → w0 = sgfn 16 nu 1103515245 → w1 = sgfn 19 w0 12345 → w2 = sgfn 12 w1 2147483647 → w3 = sgfn 17 w2 65536 → w4 = sgfn 18 w3 100 → pL h' 0 65 = u0 → u0 = w2 → 0 ≤ dm - w4 - 1 → nd = 0 → dm ≠ 0 → dm ≠ 100 → dr ≠ 0 → r_.toInt = 1 → Kp (some (.int r_)) h')
    (hR6 : ∀ (h' : zH) (u0 : Int) (r_ : Int32), sInv swM h' → sMd kmDi_m h h' → pL h' 0 65 = u0 → u0 = nu → nd ≠ 0 → r_.toInt = 0 → Kp (some (.int r_)) h') : zSem l Γ false (d + 1) (zhd 257) [.ref 0] h Kp := by
  refine syf_ok (mi := 257) (fun i => [nd, dm, dr, nu].getD i 0) kmDi_b (fun _ _ hc _ => nomatch hc) hd ⟨_, _, rfl, rfl, rfl⟩ ⟨rfl, trivial⟩ ⟨(fun _ hc => nomatch hc), (fun _ hc => nomatch hc), (fun _ hc => nomatch hc), Or.inl rfl⟩ ⟨⟨p_nd, by show 0 ≤ nd; omega, by show nd ≤ 1; omega⟩, ⟨p_dm, by show 0 ≤ dm; omega, by show dm ≤ 100; omega⟩, ⟨p_dr, by show 0 ≤ dr; omega, by show dr ≤ 1; omega⟩, trivial⟩ ⟨⟨p_nu, by show (-9223372036854775808) ≤ nu; omega, by show nu ≤ 9223372036854775807; omega⟩, trivial⟩ (fun _ hc => nomatch hc) hi ?_ ?_
  · intro e he lo' st' h' hp hi' hm
    cases he
  · intro e he r' h' hp hi' hm
    rcases List.mem_cons.mp he with rfl | he
    · obtain ⟨p1, -, hz⟩ := hp
      obtain ⟨u0, f0, hz⟩ := hz
      obtain ⟨⟨z1, z2, z3, z4⟩, z5, z6⟩ := hz
      have g0 : pL h' 0 65 = u0 := by
        rw [← (show ((0 + 65 : Int)).toNat = 65 from by omega)]
        exact f0
      have j0 : u0 = nu := (show u0 = (1 * nu + 0) + 0 from z6 (4, ([(3, 1)], 0)) (List.mem_of_getElem? (i := 0) rfl)).trans (by omega)
      have c0 : nd = 0 := by have q_ : (0 : Int) ≤ (1 * nd + 0) + 0 := z4 ([(0, 1)], 0) (List.mem_of_getElem? (i := 0) rfl); have q2_ : (0 : Int) ≤ ((-1) * nd + 0) + 0 := z4 ([(0, (-1))], 0) (List.mem_of_getElem? (i := 1) rfl); omega
      have c2 : dm = 0 := by have q_ : (0 : Int) ≤ (1 * dm + 0) + 0 := z4 ([(1, 1)], 0) (List.mem_of_getElem? (i := 2) rfl); have q2_ : (0 : Int) ≤ ((-1) * dm + 0) + 0 := z4 ([(1, (-1))], 0) (List.mem_of_getElem? (i := 3) rfl); omega
      obtain ⟨r_, rfl, hv⟩ := ansI p1 (z2 (0, ([], 0)) (List.mem_of_getElem? (i := 0) rfl))
      have s0 : r_.toInt = 0 := (show r_.toInt = 0 + 0 from hv).trans (by omega)
      exact hR0 h' u0 r_ hi' hm g0 j0 c0 c2 s0
    rcases List.mem_cons.mp he with rfl | he
    · obtain ⟨p1, -, hz⟩ := hp
      obtain ⟨u0, f0, hz⟩ := hz
      obtain ⟨⟨z1, z2, z3, z4⟩, z5, z6⟩ := hz
      have g0 : pL h' 0 65 = u0 := by
        rw [← (show ((0 + 65 : Int)).toNat = 65 from by omega)]
        exact f0
      have j0 : u0 = nu := (show u0 = (1 * nu + 0) + 0 from z6 (4, ([(3, 1)], 0)) (List.mem_of_getElem? (i := 0) rfl)).trans (by omega)
      have c0 : nd = 0 := by have q_ : (0 : Int) ≤ (1 * nd + 0) + 0 := z4 ([(0, 1)], 0) (List.mem_of_getElem? (i := 0) rfl); have q2_ : (0 : Int) ≤ ((-1) * nd + 0) + 0 := z4 ([(0, (-1))], 0) (List.mem_of_getElem? (i := 1) rfl); omega
      have c2 : dm = 100 := by have q_ : (0 : Int) ≤ (1 * dm + 0) + (-100) := z4 ([(1, 1)], (-100)) (List.mem_of_getElem? (i := 2) rfl); have q2_ : (0 : Int) ≤ ((-1) * dm + 0) + 100 := z4 ([(1, (-1))], 100) (List.mem_of_getElem? (i := 3) rfl); omega
      have n0 : dm ≠ 0 := fun e_ => z5 (([(1, 1)], 0), ([], 0)) (List.mem_of_getElem? (i := 0) rfl) (by show (1 * dm + 0) + 0 = 0 + 0; omega)
      obtain ⟨r_, rfl, hv⟩ := ansI p1 (z2 (0, ([], 1)) (List.mem_of_getElem? (i := 0) rfl))
      have s0 : r_.toInt = 1 := (show r_.toInt = 0 + 1 from hv).trans (by omega)
      exact hR1 h' u0 r_ hi' hm g0 j0 c0 c2 n0 s0
    rcases List.mem_cons.mp he with rfl | he
    · obtain ⟨p1, -, hz⟩ := hp
      obtain ⟨u0, f0, hz⟩ := hz
      obtain ⟨⟨z1, z2, z3, z4⟩, z5, z6⟩ := hz
      have g0 : pL h' 0 65 = u0 := by
        rw [← (show ((0 + 65 : Int)).toNat = 65 from by omega)]
        exact f0
      have j0 : u0 = nu := (show u0 = (1 * nu + 0) + 0 from z6 (4, ([(3, 1)], 0)) (List.mem_of_getElem? (i := 0) rfl)).trans (by omega)
      have c0 : 0 ≤ -dm + 49 := by have q_ : (0 : Int) ≤ ((-1) * dm + 0) + 49 := z4 ([(1, (-1))], 49) (List.mem_of_getElem? (i := 0) rfl); omega
      have c1 : nd = 0 := by have q_ : (0 : Int) ≤ (1 * nd + 0) + 0 := z4 ([(0, 1)], 0) (List.mem_of_getElem? (i := 1) rfl); have q2_ : (0 : Int) ≤ ((-1) * nd + 0) + 0 := z4 ([(0, (-1))], 0) (List.mem_of_getElem? (i := 2) rfl); omega
      have c3 : dr = 0 := by have q_ : (0 : Int) ≤ (1 * dr + 0) + 0 := z4 ([(2, 1)], 0) (List.mem_of_getElem? (i := 3) rfl); have q2_ : (0 : Int) ≤ ((-1) * dr + 0) + 0 := z4 ([(2, (-1))], 0) (List.mem_of_getElem? (i := 4) rfl); omega
      have n0 : dm ≠ 0 := fun e_ => z5 (([(1, 1)], 0), ([], 0)) (List.mem_of_getElem? (i := 0) rfl) (by show (1 * dm + 0) + 0 = 0 + 0; omega)
      have n1 : dm ≠ 100 := fun e_ => z5 (([(1, 1)], 0), ([], 100)) (List.mem_of_getElem? (i := 1) rfl) (by show (1 * dm + 0) + 0 = 0 + 100; omega)
      obtain ⟨r_, rfl, hv⟩ := ansI p1 (z2 (0, ([], 0)) (List.mem_of_getElem? (i := 0) rfl))
      have s0 : r_.toInt = 0 := (show r_.toInt = 0 + 0 from hv).trans (by omega)
      exact hR2 h' u0 r_ hi' hm g0 j0 c0 c1 c3 n0 n1 s0
    rcases List.mem_cons.mp he with rfl | he
    · obtain ⟨p1, -, hz⟩ := hp
      obtain ⟨u0, f0, hz⟩ := hz
      obtain ⟨⟨z1, z2, z3, z4⟩, z5, z6⟩ := hz
      have g0 : pL h' 0 65 = u0 := by
        rw [← (show ((0 + 65 : Int)).toNat = 65 from by omega)]
        exact f0
      have j0 : u0 = nu := (show u0 = (1 * nu + 0) + 0 from z6 (4, ([(3, 1)], 0)) (List.mem_of_getElem? (i := 0) rfl)).trans (by omega)
      have c0 : 0 ≤ dm - 50 := by have q_ : (0 : Int) ≤ (1 * dm + 0) + (-50) := z4 ([(1, 1)], (-50)) (List.mem_of_getElem? (i := 0) rfl); omega
      have c1 : nd = 0 := by have q_ : (0 : Int) ≤ (1 * nd + 0) + 0 := z4 ([(0, 1)], 0) (List.mem_of_getElem? (i := 1) rfl); have q2_ : (0 : Int) ≤ ((-1) * nd + 0) + 0 := z4 ([(0, (-1))], 0) (List.mem_of_getElem? (i := 2) rfl); omega
      have c3 : dr = 0 := by have q_ : (0 : Int) ≤ (1 * dr + 0) + 0 := z4 ([(2, 1)], 0) (List.mem_of_getElem? (i := 3) rfl); have q2_ : (0 : Int) ≤ ((-1) * dr + 0) + 0 := z4 ([(2, (-1))], 0) (List.mem_of_getElem? (i := 4) rfl); omega
      have n0 : dm ≠ 0 := fun e_ => z5 (([(1, 1)], 0), ([], 0)) (List.mem_of_getElem? (i := 0) rfl) (by show (1 * dm + 0) + 0 = 0 + 0; omega)
      have n1 : dm ≠ 100 := fun e_ => z5 (([(1, 1)], 0), ([], 100)) (List.mem_of_getElem? (i := 1) rfl) (by show (1 * dm + 0) + 0 = 0 + 100; omega)
      obtain ⟨r_, rfl, hv⟩ := ansI p1 (z2 (0, ([], 1)) (List.mem_of_getElem? (i := 0) rfl))
      have s0 : r_.toInt = 1 := (show r_.toInt = 0 + 1 from hv).trans (by omega)
      exact hR3 h' u0 r_ hi' hm g0 j0 c0 c1 c3 n0 n1 s0
    rcases List.mem_cons.mp he with rfl | he
    · obtain ⟨p1, -, hz⟩ := hp
      obtain ⟨w0, f0, hz⟩ := hz
      obtain ⟨w1, f1, hz⟩ := hz
      obtain ⟨w2, f2, hz⟩ := hz
      obtain ⟨w3, f3, hz⟩ := hz
      obtain ⟨w4, f4, hz⟩ := hz
      obtain ⟨u0, f5, hz⟩ := hz
      obtain ⟨⟨z1, z2, z3, z4⟩, z5, z6⟩ := hz
      have g0 : w0 = sgfn 16 nu 1103515245 := (show w0 = sgfn 16 ((1 * nu + 0) + 0) (0 + 1103515245) from f0).trans (sgfn_c (by omega) (by omega))
      have g1 : w1 = sgfn 19 w0 12345 := (show w1 = sgfn 19 ((1 * w0 + 0) + 0) (0 + 12345) from f1).trans (sgfn_c (by omega) (by omega))
      have g2 : w2 = sgfn 12 w1 2147483647 := (show w2 = sgfn 12 ((1 * w1 + 0) + 0) (0 + 2147483647) from f2).trans (sgfn_c (by omega) (by omega))
      have g3 : w3 = sgfn 17 w2 65536 := (show w3 = sgfn 17 ((1 * w2 + 0) + 0) (0 + 65536) from f3).trans (sgfn_c (by omega) (by omega))
      have g4 : w4 = sgfn 18 w3 100 := (show w4 = sgfn 18 ((1 * w3 + 0) + 0) (0 + 100) from f4).trans (sgfn_c (by omega) (by omega))
      have g5 : pL h' 0 65 = u0 := by
        rw [← (show ((0 + 65 : Int)).toNat = 65 from by omega)]
        exact f5
      have j0 : u0 = w2 := (show u0 = (1 * w2 + 0) + 0 from z6 (9, ([(6, 1)], 0)) (List.mem_of_getElem? (i := 0) rfl)).trans (by omega)
      have c0 : 0 ≤ -dm + w4 := by have q_ : (0 : Int) ≤ ((-1) * dm + (1 * w4 + 0)) + 0 := z4 ([(1, (-1)), (8, 1)], 0) (List.mem_of_getElem? (i := 0) rfl); omega
      have c1 : nd = 0 := by have q_ : (0 : Int) ≤ (1 * nd + 0) + 0 := z4 ([(0, 1)], 0) (List.mem_of_getElem? (i := 1) rfl); have q2_ : (0 : Int) ≤ ((-1) * nd + 0) + 0 := z4 ([(0, (-1))], 0) (List.mem_of_getElem? (i := 2) rfl); omega
      have n0 : dm ≠ 0 := fun e_ => z5 (([(1, 1)], 0), ([], 0)) (List.mem_of_getElem? (i := 0) rfl) (by show (1 * dm + 0) + 0 = 0 + 0; omega)
      have n1 : dm ≠ 100 := fun e_ => z5 (([(1, 1)], 0), ([], 100)) (List.mem_of_getElem? (i := 1) rfl) (by show (1 * dm + 0) + 0 = 0 + 100; omega)
      have n2 : dr ≠ 0 := fun e_ => z5 (([(2, 1)], 0), ([], 0)) (List.mem_of_getElem? (i := 2) rfl) (by show (1 * dr + 0) + 0 = 0 + 0; omega)
      obtain ⟨r_, rfl, hv⟩ := ansI p1 (z2 (0, ([], 0)) (List.mem_of_getElem? (i := 0) rfl))
      have s0 : r_.toInt = 0 := (show r_.toInt = 0 + 0 from hv).trans (by omega)
      exact hR4 h' w0 w1 w2 w3 w4 u0 r_ hi' hm g0 g1 g2 g3 g4 g5 j0 c0 c1 n0 n1 n2 s0
    rcases List.mem_cons.mp he with rfl | he
    · obtain ⟨p1, -, hz⟩ := hp
      obtain ⟨w0, f0, hz⟩ := hz
      obtain ⟨w1, f1, hz⟩ := hz
      obtain ⟨w2, f2, hz⟩ := hz
      obtain ⟨w3, f3, hz⟩ := hz
      obtain ⟨w4, f4, hz⟩ := hz
      obtain ⟨u0, f5, hz⟩ := hz
      obtain ⟨⟨z1, z2, z3, z4⟩, z5, z6⟩ := hz
      have g0 : w0 = sgfn 16 nu 1103515245 := (show w0 = sgfn 16 ((1 * nu + 0) + 0) (0 + 1103515245) from f0).trans (sgfn_c (by omega) (by omega))
      have g1 : w1 = sgfn 19 w0 12345 := (show w1 = sgfn 19 ((1 * w0 + 0) + 0) (0 + 12345) from f1).trans (sgfn_c (by omega) (by omega))
      have g2 : w2 = sgfn 12 w1 2147483647 := (show w2 = sgfn 12 ((1 * w1 + 0) + 0) (0 + 2147483647) from f2).trans (sgfn_c (by omega) (by omega))
      have g3 : w3 = sgfn 17 w2 65536 := (show w3 = sgfn 17 ((1 * w2 + 0) + 0) (0 + 65536) from f3).trans (sgfn_c (by omega) (by omega))
      have g4 : w4 = sgfn 18 w3 100 := (show w4 = sgfn 18 ((1 * w3 + 0) + 0) (0 + 100) from f4).trans (sgfn_c (by omega) (by omega))
      have g5 : pL h' 0 65 = u0 := by
        rw [← (show ((0 + 65 : Int)).toNat = 65 from by omega)]
        exact f5
      have j0 : u0 = w2 := (show u0 = (1 * w2 + 0) + 0 from z6 (9, ([(6, 1)], 0)) (List.mem_of_getElem? (i := 0) rfl)).trans (by omega)
      have c0 : 0 ≤ dm - w4 - 1 := by have q_ : (0 : Int) ≤ (1 * dm + ((-1) * w4 + 0)) + (-1) := z4 ([(1, 1), (8, (-1))], (-1)) (List.mem_of_getElem? (i := 0) rfl); omega
      have c1 : nd = 0 := by have q_ : (0 : Int) ≤ (1 * nd + 0) + 0 := z4 ([(0, 1)], 0) (List.mem_of_getElem? (i := 1) rfl); have q2_ : (0 : Int) ≤ ((-1) * nd + 0) + 0 := z4 ([(0, (-1))], 0) (List.mem_of_getElem? (i := 2) rfl); omega
      have n0 : dm ≠ 0 := fun e_ => z5 (([(1, 1)], 0), ([], 0)) (List.mem_of_getElem? (i := 0) rfl) (by show (1 * dm + 0) + 0 = 0 + 0; omega)
      have n1 : dm ≠ 100 := fun e_ => z5 (([(1, 1)], 0), ([], 100)) (List.mem_of_getElem? (i := 1) rfl) (by show (1 * dm + 0) + 0 = 0 + 100; omega)
      have n2 : dr ≠ 0 := fun e_ => z5 (([(2, 1)], 0), ([], 0)) (List.mem_of_getElem? (i := 2) rfl) (by show (1 * dr + 0) + 0 = 0 + 0; omega)
      obtain ⟨r_, rfl, hv⟩ := ansI p1 (z2 (0, ([], 1)) (List.mem_of_getElem? (i := 0) rfl))
      have s0 : r_.toInt = 1 := (show r_.toInt = 0 + 1 from hv).trans (by omega)
      exact hR5 h' w0 w1 w2 w3 w4 u0 r_ hi' hm g0 g1 g2 g3 g4 g5 j0 c0 c1 n0 n1 n2 s0
    rcases List.mem_cons.mp he with rfl | he
    · obtain ⟨p1, -, hz⟩ := hp
      obtain ⟨u0, f0, hz⟩ := hz
      obtain ⟨⟨z1, z2, z3, z4⟩, z5, z6⟩ := hz
      have g0 : pL h' 0 65 = u0 := by
        rw [← (show ((0 + 65 : Int)).toNat = 65 from by omega)]
        exact f0
      have j0 : u0 = nu := (show u0 = (1 * nu + 0) + 0 from z6 (4, ([(3, 1)], 0)) (List.mem_of_getElem? (i := 0) rfl)).trans (by omega)
      have n0 : nd ≠ 0 := fun e_ => z5 (([(0, 1)], 0), ([], 0)) (List.mem_of_getElem? (i := 0) rfl) (by show (1 * nd + 0) + 0 = 0 + 0; omega)
      obtain ⟨r_, rfl, hv⟩ := ansI p1 (z2 (0, ([], 0)) (List.mem_of_getElem? (i := 0) rfl))
      have s0 : r_.toInt = 0 := (show r_.toInt = 0 + 0 from hv).trans (by omega)
      exact hR6 h' u0 r_ hi' hm g0 j0 n0 s0
    cases he
def kmR1_L (b : Nat) : List (Nat × sT) := [(0, .inr (.inl 0)), (1, .inl ((b : Int), (b : Int))), (2, .inl (0, 7))]
def kmR1_S (b : Nat) : List sT := []
def kmR1_A (b : Nat) : sAs := ([], [], [], [])
def kmR1_P (b : Nat) : List sP0 := [(0, (none, 13), (0, 8))]
def kmR1_G (b : Nat) : List sP0 := []
def kmR1_B (b : Nat) : List (Nat × Nat × Int) := [(2, 1, 1)]
def kmR1_m (b : Nat) : sM := []
def kmR1_e0 (b : Nat) : sXe := (161, [.inl sf32, .inl sf32, .inr (.inl 0)], [(0, .inr (.inl 0)), (1, .inl sf32), (2, .inl sf32)], sA0, [], ([], [(0, ([(1, 1)], 0)), (1, ([], (b : Int)))], [(1, ([], (b : Int))), (2, ([(1, 1)], 0))], []), [], [])
theorem kmR1_b : ((List.range 2).all fun b => syeB swM sT0 (kmR1_m b) 400 0 253 (kmR1_L b) (kmR1_S b) (kmR1_A b) (kmR1_P b) (kmR1_G b) (kmR1_B b) 150 [kmR1_e0 b] []) = true := by decide +kernel
theorem kmR1 {l : Launch} {Γ : zG} {d : Nat} (hd : 0 ≤ d) {Kp : Option Value → zH → Prop} {lo : zL} {h : zH} {b : Nat} (h_b : b < 2) {ri n : Int} (hi : sInv swM h) (b_ri : 0 ≤ ri ∧ ri ≤ 7) (b_n : 0 ≤ n ∧ n ≤ 8) (l0 : zget lo 0 = some (.ref 0)) (l1 : zI lo 1 (b : Int)) (l2 : zI lo 2 ri) (p_n : pI h 0 13 = n) (d0 : 1 ≤ n - ri)
    (hE0 : ∀ (lo' : zL) (h' : zH) (y0 : Int32) (y1 : Int32), sInv swM h' → sMd (kmR1_m b) h h' → zget lo' 0 = some (.ref 0) → zI lo' 1 (b : Int) → zI lo' 2 ri → y0.toInt = ri → y1.toInt = (b : Int) → zX l Γ false (d + 1) (zhd 253) (zMQ' Γ false (zhd 253) Kp) 0 0 161 lo' [.int y0, .int y1, .ref 0] h') : zX l Γ false (d + 1) (zhd 253) (zMQ' Γ false (zhd 253) Kp) 0 0 150 lo [] h := by
  refine sye_ok (mi := 253) (pc := 150) (fun i => [(b : Int), ri, n].getD i 0) (zall_r kmR1_b h_b) (fun _ _ hc _ => nomatch hc) hd ⟨l0, zIm l1 (by show (b : Int) ≤ (b : Int); omega) (by show (b : Int) ≤ (b : Int); omega), zIm l2 (by show 0 ≤ ri; omega) (by show ri ≤ 7; omega), trivial⟩ rfl ⟨(fun _ hc => nomatch hc), (fun _ hc => nomatch hc), (fun _ hc => nomatch hc), Or.inl rfl⟩ ⟨⟨p_n, by show 0 ≤ n; omega, by show n ≤ 8; omega⟩, trivial⟩ trivial (sfm d0 (fun _ hc => nomatch hc)) hi ?_ ?_
  · intro e he lo' st' h' hp hi' hm
    rcases List.mem_cons.mp he with rfl | he
    · obtain ⟨p1, p2, -, hz⟩ := hp
      obtain ⟨⟨z1, z2, z3, z4⟩, z5, z6⟩ := hz
      have o0 : zget lo' 0 = some (.ref 0) := locR (p2 (0, .inr (.inl 0)) (List.mem_of_getElem? (i := 0) rfl))
      have o1 : zI lo' 1 (b : Int) := zI_of (p2 (1, .inl sf32) (List.mem_of_getElem? (i := 1) rfl)) (z3 (1, ([], (b : Int))) (List.mem_of_getElem? (i := 0) rfl)) (show 0 + (b : Int) = (b : Int) from by omega)
      have o2 : zI lo' 2 ri := zI_of (p2 (2, .inl sf32) (List.mem_of_getElem? (i := 2) rfl)) (z3 (2, ([(1, 1)], 0)) (List.mem_of_getElem? (i := 1) rfl)) (show (1 * ri + 0) + 0 = ri from by omega)
      obtain ⟨_, _, rfl, ⟨y0, rfl, -⟩, p1⟩ := p1
      obtain ⟨_, _, rfl, ⟨y1, rfl, -⟩, p1⟩ := p1
      obtain ⟨_, _, rfl, hr, p1⟩ := p1
      have hr : _ = Value.ref 0 := hr
      subst hr
      have p1 : _ = [] := p1
      subst p1
      obtain ⟨v_, ev, hv⟩ := z2 (0, ([(1, 1)], 0)) (List.mem_of_getElem? (i := 0) rfl)
      cases ev
      have s0 : y0.toInt = ri := (show y0.toInt = (1 * ri + 0) + 0 from hv).trans (by omega)
      obtain ⟨v_, ev, hv⟩ := z2 (1, ([], (b : Int))) (List.mem_of_getElem? (i := 1) rfl)
      cases ev
      have s1 : y1.toInt = (b : Int) := (show y1.toInt = 0 + (b : Int) from hv).trans (by omega)
      exact hE0 lo' h' y0 y1 hi' hm o0 o1 o2 s0 s1
    cases he
  · intro e he r' h' hp hi' hm
    cases he
def kmR2_L (b : Nat) : List (Nat × sT) := [(0, .inr (.inl 0)), (1, .inl ((b : Int), (b : Int))), (2, .inl (0, 7))]
def kmR2_S (b : Nat) : List sT := []
def kmR2_A (b : Nat) : sAs := ([], [], [], [])
def kmR2_P (b : Nat) : List sP0 := []
def kmR2_G (b : Nat) : List sP0 := []
def kmR2_B (b : Nat) : List (Nat × Nat × Int) := []
def kmR2_m (b : Nat) : sM := []
def kmR2_e0 (b : Nat) : sXe := (150, [], [(0, .inr (.inl 0)), (1, .inl sf32), (2, .inl sf32)], sA0, [], ([], [], [(1, ([], (b : Int))), (2, ([(1, 1)], 1))], []), [], [])
theorem kmR2_b : ((List.range 2).all fun b => syeB swM sT0 (kmR2_m b) 400 0 253 (kmR2_L b) (kmR2_S b) (kmR2_A b) (kmR2_P b) (kmR2_G b) (kmR2_B b) 164 [kmR2_e0 b] []) = true := by decide +kernel
theorem kmR2 {l : Launch} {Γ : zG} {d : Nat} (hd : 0 ≤ d) {Kp : Option Value → zH → Prop} {lo : zL} {h : zH} {b : Nat} (h_b : b < 2) {ri : Int} (hi : sInv swM h) (b_ri : 0 ≤ ri ∧ ri ≤ 7) (l0 : zget lo 0 = some (.ref 0)) (l1 : zI lo 1 (b : Int)) (l2 : zI lo 2 ri)
    (hE0 : ∀ (lo' : zL) (h' : zH), sInv swM h' → sMd (kmR2_m b) h h' → zget lo' 0 = some (.ref 0) → zI lo' 1 (b : Int) → zI lo' 2 (ri + 1) → zX l Γ false (d + 1) (zhd 253) (zMQ' Γ false (zhd 253) Kp) 0 0 150 lo' [] h') : zX l Γ false (d + 1) (zhd 253) (zMQ' Γ false (zhd 253) Kp) 0 0 164 lo [] h := by
  refine sye_ok (mi := 253) (pc := 164) (fun i => [(b : Int), ri].getD i 0) (zall_r kmR2_b h_b) (fun _ _ hc _ => nomatch hc) hd ⟨l0, zIm l1 (by show (b : Int) ≤ (b : Int); omega) (by show (b : Int) ≤ (b : Int); omega), zIm l2 (by show 0 ≤ ri; omega) (by show ri ≤ 7; omega), trivial⟩ rfl ⟨(fun _ hc => nomatch hc), (fun _ hc => nomatch hc), (fun _ hc => nomatch hc), Or.inl rfl⟩ trivial trivial (fun _ hc => nomatch hc) hi ?_ ?_
  · intro e he lo' st' h' hp hi' hm
    rcases List.mem_cons.mp he with rfl | he
    · obtain ⟨p1, p2, -, hz⟩ := hp
      obtain ⟨⟨z1, z2, z3, z4⟩, z5, z6⟩ := hz
      have o0 : zget lo' 0 = some (.ref 0) := locR (p2 (0, .inr (.inl 0)) (List.mem_of_getElem? (i := 0) rfl))
      have o1 : zI lo' 1 (b : Int) := zI_of (p2 (1, .inl sf32) (List.mem_of_getElem? (i := 1) rfl)) (z3 (1, ([], (b : Int))) (List.mem_of_getElem? (i := 0) rfl)) (show 0 + (b : Int) = (b : Int) from by omega)
      have o2 : zI lo' 2 (ri + 1) := zI_of (p2 (2, .inl sf32) (List.mem_of_getElem? (i := 2) rfl)) (z3 (2, ([(1, 1)], 1)) (List.mem_of_getElem? (i := 1) rfl)) (show (1 * ri + 0) + 1 = ri + 1 from by omega)
      have p1 : _ = [] := p1
      subst p1
      exact hE0 lo' h' hi' hm o0 o1 o2
    cases he
  · intro e he r' h' hp hi' hm
    cases he
def kmR3_L (b : Nat) : List (Nat × sT) := [(0, .inr (.inl 0)), (1, .inl ((b : Int), (b : Int))), (2, .inl (0, 8))]
def kmR3_S (b : Nat) : List sT := []
def kmR3_A (b : Nat) : sAs := ([], [], [], [])
def kmR3_P (b : Nat) : List sP0 := [(0, (none, 13), (0, 8))]
def kmR3_G (b : Nat) : List sP0 := []
def kmR3_B (b : Nat) : List (Nat × Nat × Int) := [(1, 2, 0)]
def kmR3_m (b : Nat) : sM := []
def kmR3_e0 (b : Nat) : sXe := (172, [], [(0, .inr (.inl 0)), (1, .inl sf32), (2, .inl sf32)], sA0, [], ([], [], [(1, ([], (b : Int))), (2, ([], 0))], []), [], [])
theorem kmR3_b : ((List.range 2).all fun b => syeB swM sT0 (kmR3_m b) 400 0 253 (kmR3_L b) (kmR3_S b) (kmR3_A b) (kmR3_P b) (kmR3_G b) (kmR3_B b) 150 [kmR3_e0 b] []) = true := by decide +kernel
theorem kmR3 {l : Launch} {Γ : zG} {d : Nat} (hd : 0 ≤ d) {Kp : Option Value → zH → Prop} {lo : zL} {h : zH} {b : Nat} (h_b : b < 2) {ri n : Int} (hi : sInv swM h) (b_ri : 0 ≤ ri ∧ ri ≤ 8) (b_n : 0 ≤ n ∧ n ≤ 8) (l0 : zget lo 0 = some (.ref 0)) (l1 : zI lo 1 (b : Int)) (l2 : zI lo 2 ri) (p_n : pI h 0 13 = n) (d0 : 0 ≤ ri - n)
    (hE0 : ∀ (lo' : zL) (h' : zH), sInv swM h' → sMd (kmR3_m b) h h' → zget lo' 0 = some (.ref 0) → zI lo' 1 (b : Int) → zI lo' 2 0 → zX l Γ false (d + 1) (zhd 253) (zMQ' Γ false (zhd 253) Kp) 0 0 172 lo' [] h') : zX l Γ false (d + 1) (zhd 253) (zMQ' Γ false (zhd 253) Kp) 0 0 150 lo [] h := by
  refine sye_ok (mi := 253) (pc := 150) (fun i => [(b : Int), ri, n].getD i 0) (zall_r kmR3_b h_b) (fun _ _ hc _ => nomatch hc) hd ⟨l0, zIm l1 (by show (b : Int) ≤ (b : Int); omega) (by show (b : Int) ≤ (b : Int); omega), zIm l2 (by show 0 ≤ ri; omega) (by show ri ≤ 8; omega), trivial⟩ rfl ⟨(fun _ hc => nomatch hc), (fun _ hc => nomatch hc), (fun _ hc => nomatch hc), Or.inl rfl⟩ ⟨⟨p_n, by show 0 ≤ n; omega, by show n ≤ 8; omega⟩, trivial⟩ trivial (sfm d0 (fun _ hc => nomatch hc)) hi ?_ ?_
  · intro e he lo' st' h' hp hi' hm
    rcases List.mem_cons.mp he with rfl | he
    · obtain ⟨p1, p2, -, hz⟩ := hp
      obtain ⟨⟨z1, z2, z3, z4⟩, z5, z6⟩ := hz
      have o0 : zget lo' 0 = some (.ref 0) := locR (p2 (0, .inr (.inl 0)) (List.mem_of_getElem? (i := 0) rfl))
      have o1 : zI lo' 1 (b : Int) := zI_of (p2 (1, .inl sf32) (List.mem_of_getElem? (i := 1) rfl)) (z3 (1, ([], (b : Int))) (List.mem_of_getElem? (i := 0) rfl)) (show 0 + (b : Int) = (b : Int) from by omega)
      have o2 : zI lo' 2 0 := zI_of (p2 (2, .inl sf32) (List.mem_of_getElem? (i := 2) rfl)) (z3 (2, ([], 0)) (List.mem_of_getElem? (i := 1) rfl)) (show 0 + 0 = 0 from by omega)
      have p1 : _ = [] := p1
      subst p1
      exact hE0 lo' h' hi' hm o0 o1 o2
    cases he
  · intro e he r' h' hp hi' hm
    cases he
def kmW1_L (b : Nat) : List (Nat × sT) := [(0, .inr (.inl 0)), (1, .inl ((b : Int), (b : Int))), (2, .inl (0, 7))]
def kmW1_S (b : Nat) : List sT := []
def kmW1_A (b : Nat) : sAs := ([], [], [], [])
def kmW1_P (b : Nat) : List sP0 := [(0, (none, 13), (0, 8)), (36, (none, ((b : Nat) : Int)), (0, 2000000000)), (0, (none, 68), (0, 1))]
def kmW1_G (b : Nat) : List sP0 := []
def kmW1_B (b : Nat) : List (Nat × Nat × Int) := [(2, 1, 1)]
def kmW1_m (b : Nat) : sM := []
def kmW1_e0 (b : Nat) : sXe := (204, [.inl sf32, .inl sf32, .inr (.inl 0)], [(0, .inr (.inl 0)), (1, .inl sf32), (2, .inl sf32)], sA0, [(0, 8, ([(3, 1)], 0), ([], 10))], ([], [(0, ([(1, 1)], 0)), (1, ([], (b : Int)))], [(1, ([], (b : Int))), (2, ([(1, 1)], 0))], [([(5, 1)], (-9)), ([(5, (-1))], 9), ([(4, 1)], 0), ([(4, (-1))], 0)]), [], [])
def kmW1_e1 (b : Nat) : sXe := (213, [], [(0, .inr (.inl 0)), (1, .inl sf32), (2, .inl sf32)], sA0, [(0, 8, ([(3, 1)], 0), ([], 10))], ([], [], [(1, ([], (b : Int))), (2, ([(1, 1)], 0))], [([(5, 1)], (-9)), ([(5, (-1))], 9)]), [(([(4, 1)], 0), ([], 0))], [])
def kmW1_e2 (b : Nat) : sXe := (213, [], [(0, .inr (.inl 0)), (1, .inl sf32), (2, .inl sf32)], sA0, [(0, 8, ([(3, 1)], 0), ([], 10))], ([], [], [(1, ([], (b : Int))), (2, ([(1, 1)], 0))], []), [(([(5, 1)], 0), ([], 9))], [])
theorem kmW1_b : ((List.range 2).all fun b => syeB swM sT0 (kmW1_m b) 400 0 253 (kmW1_L b) (kmW1_S b) (kmW1_A b) (kmW1_P b) (kmW1_G b) (kmW1_B b) 172 [kmW1_e0 b, kmW1_e1 b, kmW1_e2 b] []) = true := by decide +kernel
theorem kmW1 {l : Launch} {Γ : zG} {d : Nat} (hd : 0 ≤ d) {Kp : Option Value → zH → Prop} {lo : zL} {h : zH} {b : Nat} (h_b : b < 2) {ri n m nw : Int} (hi : sInv swM h) (b_ri : 0 ≤ ri ∧ ri ≤ 7) (b_n : 0 ≤ n ∧ n ≤ 8) (b_m : 0 ≤ m ∧ m ≤ 2000000000) (b_nw : 0 ≤ nw ∧ nw ≤ 1) (l0 : zget lo 0 = some (.ref 0)) (l1 : zI lo 1 (b : Int)) (l2 : zI lo 2 ri) (p_n : pI h 0 13 = n) (p_m : pI h 36 b = m) (p_nw : pI h 0 68 = nw) (d0 : 1 ≤ n - ri)
    (hE0 : ∀ (lo' : zL) (h' : zH) (w0 : Int) (y0 : Int32) (y1 : Int32), sInv swM h' → sMd (kmW1_m b) h h' → w0 = sgfn 8 m 10 → w0 = 9 → nw = 0 → zget lo' 0 = some (.ref 0) → zI lo' 1 (b : Int) → zI lo' 2 ri → y0.toInt = ri → y1.toInt = (b : Int) → zX l Γ false (d + 1) (zhd 253) (zMQ' Γ false (zhd 253) Kp) 0 0 204 lo' [.int y0, .int y1, .ref 0] h')
    (hE1 : ∀ (lo' : zL) (h' : zH) (w0 : Int), sInv swM h' → sMd (kmW1_m b) h h' → w0 = sgfn 8 m 10 → w0 = 9 → nw ≠ 0 → zget lo' 0 = some (.ref 0) → zI lo' 1 (b : Int) → zI lo' 2 ri → zX l Γ false (d + 1) (zhd 253) (zMQ' Γ false (zhd 253) Kp) 0 0 213 lo' [] h')
    (hE2 : ∀ (lo' : zL) (h' : zH) (w0 : Int), sInv swM h' → sMd (kmW1_m b) h h' → w0 = sgfn 8 m 10 → w0 ≠ 9 → zget lo' 0 = some (.ref 0) → zI lo' 1 (b : Int) → zI lo' 2 ri → zX l Γ false (d + 1) (zhd 253) (zMQ' Γ false (zhd 253) Kp) 0 0 213 lo' [] h') : zX l Γ false (d + 1) (zhd 253) (zMQ' Γ false (zhd 253) Kp) 0 0 172 lo [] h := by
  refine sye_ok (mi := 253) (pc := 172) (fun i => [(b : Int), ri, n, m, nw].getD i 0) (zall_r kmW1_b h_b) (fun _ _ hc _ => nomatch hc) hd ⟨l0, zIm l1 (by show (b : Int) ≤ (b : Int); omega) (by show (b : Int) ≤ (b : Int); omega), zIm l2 (by show 0 ≤ ri; omega) (by show ri ≤ 7; omega), trivial⟩ rfl ⟨(fun _ hc => nomatch hc), (fun _ hc => nomatch hc), (fun _ hc => nomatch hc), Or.inl rfl⟩ ⟨⟨p_n, by show 0 ≤ n; omega, by show n ≤ 8; omega⟩, ⟨p_m, by show 0 ≤ m; omega, by show m ≤ 2000000000; omega⟩, ⟨p_nw, by show 0 ≤ nw; omega, by show nw ≤ 1; omega⟩, trivial⟩ trivial (sfm d0 (fun _ hc => nomatch hc)) hi ?_ ?_
  · intro e he lo' st' h' hp hi' hm
    rcases List.mem_cons.mp he with rfl | he
    · obtain ⟨p1, p2, -, hz⟩ := hp
      obtain ⟨w0, f0, hz⟩ := hz
      obtain ⟨⟨z1, z2, z3, z4⟩, z5, z6⟩ := hz
      have g0 : w0 = sgfn 8 m 10 := (show w0 = sgfn 8 ((1 * m + 0) + 0) (0 + 10) from f0).trans (sgfn_c (by omega) (by omega))
      have c0 : w0 = 9 := by have q_ : (0 : Int) ≤ (1 * w0 + 0) + (-9) := z4 ([(5, 1)], (-9)) (List.mem_of_getElem? (i := 0) rfl); have q2_ : (0 : Int) ≤ ((-1) * w0 + 0) + 9 := z4 ([(5, (-1))], 9) (List.mem_of_getElem? (i := 1) rfl); omega
      have c2 : nw = 0 := by have q_ : (0 : Int) ≤ (1 * nw + 0) + 0 := z4 ([(4, 1)], 0) (List.mem_of_getElem? (i := 2) rfl); have q2_ : (0 : Int) ≤ ((-1) * nw + 0) + 0 := z4 ([(4, (-1))], 0) (List.mem_of_getElem? (i := 3) rfl); omega
      have o0 : zget lo' 0 = some (.ref 0) := locR (p2 (0, .inr (.inl 0)) (List.mem_of_getElem? (i := 0) rfl))
      have o1 : zI lo' 1 (b : Int) := zI_of (p2 (1, .inl sf32) (List.mem_of_getElem? (i := 1) rfl)) (z3 (1, ([], (b : Int))) (List.mem_of_getElem? (i := 0) rfl)) (show 0 + (b : Int) = (b : Int) from by omega)
      have o2 : zI lo' 2 ri := zI_of (p2 (2, .inl sf32) (List.mem_of_getElem? (i := 2) rfl)) (z3 (2, ([(1, 1)], 0)) (List.mem_of_getElem? (i := 1) rfl)) (show (1 * ri + 0) + 0 = ri from by omega)
      obtain ⟨_, _, rfl, ⟨y0, rfl, -⟩, p1⟩ := p1
      obtain ⟨_, _, rfl, ⟨y1, rfl, -⟩, p1⟩ := p1
      obtain ⟨_, _, rfl, hr, p1⟩ := p1
      have hr : _ = Value.ref 0 := hr
      subst hr
      have p1 : _ = [] := p1
      subst p1
      obtain ⟨v_, ev, hv⟩ := z2 (0, ([(1, 1)], 0)) (List.mem_of_getElem? (i := 0) rfl)
      cases ev
      have s0 : y0.toInt = ri := (show y0.toInt = (1 * ri + 0) + 0 from hv).trans (by omega)
      obtain ⟨v_, ev, hv⟩ := z2 (1, ([], (b : Int))) (List.mem_of_getElem? (i := 1) rfl)
      cases ev
      have s1 : y1.toInt = (b : Int) := (show y1.toInt = 0 + (b : Int) from hv).trans (by omega)
      exact hE0 lo' h' w0 y0 y1 hi' hm g0 c0 c2 o0 o1 o2 s0 s1
    rcases List.mem_cons.mp he with rfl | he
    · obtain ⟨p1, p2, -, hz⟩ := hp
      obtain ⟨w0, f0, hz⟩ := hz
      obtain ⟨⟨z1, z2, z3, z4⟩, z5, z6⟩ := hz
      have g0 : w0 = sgfn 8 m 10 := (show w0 = sgfn 8 ((1 * m + 0) + 0) (0 + 10) from f0).trans (sgfn_c (by omega) (by omega))
      have c0 : w0 = 9 := by have q_ : (0 : Int) ≤ (1 * w0 + 0) + (-9) := z4 ([(5, 1)], (-9)) (List.mem_of_getElem? (i := 0) rfl); have q2_ : (0 : Int) ≤ ((-1) * w0 + 0) + 9 := z4 ([(5, (-1))], 9) (List.mem_of_getElem? (i := 1) rfl); omega
      have n0 : nw ≠ 0 := fun e_ => z5 (([(4, 1)], 0), ([], 0)) (List.mem_of_getElem? (i := 0) rfl) (by show (1 * nw + 0) + 0 = 0 + 0; omega)
      have o0 : zget lo' 0 = some (.ref 0) := locR (p2 (0, .inr (.inl 0)) (List.mem_of_getElem? (i := 0) rfl))
      have o1 : zI lo' 1 (b : Int) := zI_of (p2 (1, .inl sf32) (List.mem_of_getElem? (i := 1) rfl)) (z3 (1, ([], (b : Int))) (List.mem_of_getElem? (i := 0) rfl)) (show 0 + (b : Int) = (b : Int) from by omega)
      have o2 : zI lo' 2 ri := zI_of (p2 (2, .inl sf32) (List.mem_of_getElem? (i := 2) rfl)) (z3 (2, ([(1, 1)], 0)) (List.mem_of_getElem? (i := 1) rfl)) (show (1 * ri + 0) + 0 = ri from by omega)
      have p1 : _ = [] := p1
      subst p1
      exact hE1 lo' h' w0 hi' hm g0 c0 n0 o0 o1 o2
    rcases List.mem_cons.mp he with rfl | he
    · obtain ⟨p1, p2, -, hz⟩ := hp
      obtain ⟨w0, f0, hz⟩ := hz
      obtain ⟨⟨z1, z2, z3, z4⟩, z5, z6⟩ := hz
      have g0 : w0 = sgfn 8 m 10 := (show w0 = sgfn 8 ((1 * m + 0) + 0) (0 + 10) from f0).trans (sgfn_c (by omega) (by omega))
      have n0 : w0 ≠ 9 := fun e_ => z5 (([(5, 1)], 0), ([], 9)) (List.mem_of_getElem? (i := 0) rfl) (by show (1 * w0 + 0) + 0 = 0 + 9; omega)
      have o0 : zget lo' 0 = some (.ref 0) := locR (p2 (0, .inr (.inl 0)) (List.mem_of_getElem? (i := 0) rfl))
      have o1 : zI lo' 1 (b : Int) := zI_of (p2 (1, .inl sf32) (List.mem_of_getElem? (i := 1) rfl)) (z3 (1, ([], (b : Int))) (List.mem_of_getElem? (i := 0) rfl)) (show 0 + (b : Int) = (b : Int) from by omega)
      have o2 : zI lo' 2 ri := zI_of (p2 (2, .inl sf32) (List.mem_of_getElem? (i := 2) rfl)) (z3 (2, ([(1, 1)], 0)) (List.mem_of_getElem? (i := 1) rfl)) (show (1 * ri + 0) + 0 = ri from by omega)
      have p1 : _ = [] := p1
      subst p1
      exact hE2 lo' h' w0 hi' hm g0 n0 o0 o1 o2
    cases he
  · intro e he r' h' hp hi' hm
    cases he
def kmW2_L (b : Nat) : List (Nat × sT) := [(0, .inr (.inl 0)), (1, .inl ((b : Int), (b : Int))), (2, .inl (0, 7))]
def kmW2_S (b : Nat) : List sT := []
def kmW2_A (b : Nat) : sAs := ([], [], [], [])
def kmW2_P (b : Nat) : List sP0 := []
def kmW2_G (b : Nat) : List sP0 := []
def kmW2_B (b : Nat) : List (Nat × Nat × Int) := []
def kmW2_m (b : Nat) : sM := []
def kmW2_e0 (b : Nat) : sXe := (172, [], [(0, .inr (.inl 0)), (1, .inl sf32), (2, .inl sf32)], sA0, [], ([], [], [(1, ([], (b : Int))), (2, ([(1, 1)], 1))], []), [], [])
theorem kmW2_b : ((List.range 2).all fun b => syeB swM sT0 (kmW2_m b) 400 0 253 (kmW2_L b) (kmW2_S b) (kmW2_A b) (kmW2_P b) (kmW2_G b) (kmW2_B b) 207 [kmW2_e0 b] []) = true := by decide +kernel
theorem kmW2 {l : Launch} {Γ : zG} {d : Nat} (hd : 0 ≤ d) {Kp : Option Value → zH → Prop} {lo : zL} {h : zH} {b : Nat} (h_b : b < 2) {ri : Int} (hi : sInv swM h) (b_ri : 0 ≤ ri ∧ ri ≤ 7) (l0 : zget lo 0 = some (.ref 0)) (l1 : zI lo 1 (b : Int)) (l2 : zI lo 2 ri)
    (hE0 : ∀ (lo' : zL) (h' : zH), sInv swM h' → sMd (kmW2_m b) h h' → zget lo' 0 = some (.ref 0) → zI lo' 1 (b : Int) → zI lo' 2 (ri + 1) → zX l Γ false (d + 1) (zhd 253) (zMQ' Γ false (zhd 253) Kp) 0 0 172 lo' [] h') : zX l Γ false (d + 1) (zhd 253) (zMQ' Γ false (zhd 253) Kp) 0 0 207 lo [] h := by
  refine sye_ok (mi := 253) (pc := 207) (fun i => [(b : Int), ri].getD i 0) (zall_r kmW2_b h_b) (fun _ _ hc _ => nomatch hc) hd ⟨l0, zIm l1 (by show (b : Int) ≤ (b : Int); omega) (by show (b : Int) ≤ (b : Int); omega), zIm l2 (by show 0 ≤ ri; omega) (by show ri ≤ 7; omega), trivial⟩ rfl ⟨(fun _ hc => nomatch hc), (fun _ hc => nomatch hc), (fun _ hc => nomatch hc), Or.inl rfl⟩ trivial trivial (fun _ hc => nomatch hc) hi ?_ ?_
  · intro e he lo' st' h' hp hi' hm
    rcases List.mem_cons.mp he with rfl | he
    · obtain ⟨p1, p2, -, hz⟩ := hp
      obtain ⟨⟨z1, z2, z3, z4⟩, z5, z6⟩ := hz
      have o0 : zget lo' 0 = some (.ref 0) := locR (p2 (0, .inr (.inl 0)) (List.mem_of_getElem? (i := 0) rfl))
      have o1 : zI lo' 1 (b : Int) := zI_of (p2 (1, .inl sf32) (List.mem_of_getElem? (i := 1) rfl)) (z3 (1, ([], (b : Int))) (List.mem_of_getElem? (i := 0) rfl)) (show 0 + (b : Int) = (b : Int) from by omega)
      have o2 : zI lo' 2 (ri + 1) := zI_of (p2 (2, .inl sf32) (List.mem_of_getElem? (i := 2) rfl)) (z3 (2, ([(1, 1)], 1)) (List.mem_of_getElem? (i := 1) rfl)) (show (1 * ri + 0) + 1 = ri + 1 from by omega)
      have p1 : _ = [] := p1
      subst p1
      exact hE0 lo' h' hi' hm o0 o1 o2
    cases he
  · intro e he r' h' hp hi' hm
    cases he
def kmW3_L (b : Nat) : List (Nat × sT) := [(0, .inr (.inl 0)), (1, .inl ((b : Int), (b : Int))), (2, .inl (0, 8))]
def kmW3_S (b : Nat) : List sT := []
def kmW3_A (b : Nat) : sAs := ([], [], [], [])
def kmW3_P (b : Nat) : List sP0 := [(0, (none, 13), (0, 8))]
def kmW3_G (b : Nat) : List sP0 := []
def kmW3_B (b : Nat) : List (Nat × Nat × Int) := [(1, 2, 0)]
def kmW3_m (b : Nat) : sM := []
def kmW3_e0 (b : Nat) : sXe := (213, [], [(0, .inr (.inl 0)), (1, .inl sf32), (2, .inl sf32)], sA0, [], ([], [], [(1, ([], (b : Int))), (2, ([(1, 1)], 0))], []), [], [])
theorem kmW3_b : ((List.range 2).all fun b => syeB swM sT0 (kmW3_m b) 400 0 253 (kmW3_L b) (kmW3_S b) (kmW3_A b) (kmW3_P b) (kmW3_G b) (kmW3_B b) 172 [kmW3_e0 b] []) = true := by decide +kernel
theorem kmW3 {l : Launch} {Γ : zG} {d : Nat} (hd : 0 ≤ d) {Kp : Option Value → zH → Prop} {lo : zL} {h : zH} {b : Nat} (h_b : b < 2) {ri n : Int} (hi : sInv swM h) (b_ri : 0 ≤ ri ∧ ri ≤ 8) (b_n : 0 ≤ n ∧ n ≤ 8) (l0 : zget lo 0 = some (.ref 0)) (l1 : zI lo 1 (b : Int)) (l2 : zI lo 2 ri) (p_n : pI h 0 13 = n) (d0 : 0 ≤ ri - n)
    (hE0 : ∀ (lo' : zL) (h' : zH), sInv swM h' → sMd (kmW3_m b) h h' → zget lo' 0 = some (.ref 0) → zI lo' 1 (b : Int) → zI lo' 2 ri → zX l Γ false (d + 1) (zhd 253) (zMQ' Γ false (zhd 253) Kp) 0 0 213 lo' [] h') : zX l Γ false (d + 1) (zhd 253) (zMQ' Γ false (zhd 253) Kp) 0 0 172 lo [] h := by
  refine sye_ok (mi := 253) (pc := 172) (fun i => [(b : Int), ri, n].getD i 0) (zall_r kmW3_b h_b) (fun _ _ hc _ => nomatch hc) hd ⟨l0, zIm l1 (by show (b : Int) ≤ (b : Int); omega) (by show (b : Int) ≤ (b : Int); omega), zIm l2 (by show 0 ≤ ri; omega) (by show ri ≤ 8; omega), trivial⟩ rfl ⟨(fun _ hc => nomatch hc), (fun _ hc => nomatch hc), (fun _ hc => nomatch hc), Or.inl rfl⟩ ⟨⟨p_n, by show 0 ≤ n; omega, by show n ≤ 8; omega⟩, trivial⟩ trivial (sfm d0 (fun _ hc => nomatch hc)) hi ?_ ?_
  · intro e he lo' st' h' hp hi' hm
    rcases List.mem_cons.mp he with rfl | he
    · obtain ⟨p1, p2, -, hz⟩ := hp
      obtain ⟨⟨z1, z2, z3, z4⟩, z5, z6⟩ := hz
      have o0 : zget lo' 0 = some (.ref 0) := locR (p2 (0, .inr (.inl 0)) (List.mem_of_getElem? (i := 0) rfl))
      have o1 : zI lo' 1 (b : Int) := zI_of (p2 (1, .inl sf32) (List.mem_of_getElem? (i := 1) rfl)) (z3 (1, ([], (b : Int))) (List.mem_of_getElem? (i := 0) rfl)) (show 0 + (b : Int) = (b : Int) from by omega)
      have o2 : zI lo' 2 ri := zI_of (p2 (2, .inl sf32) (List.mem_of_getElem? (i := 2) rfl)) (z3 (2, ([(1, 1)], 0)) (List.mem_of_getElem? (i := 1) rfl)) (show (1 * ri + 0) + 0 = ri from by omega)
      have p1 : _ = [] := p1
      subst p1
      exact hE0 lo' h' hi' hm o0 o1 o2
    cases he
  · intro e he r' h' hp hi' hm
    cases he
def kmZ_L (b : Nat) : List (Nat × sT) := [(0, .inr (.inl 0)), (1, .inl ((b : Int), (b : Int)))]
def kmZ_S (b : Nat) : List sT := []
def kmZ_A (b : Nat) : sAs := ([], [], [], [])
def kmZ_P (b : Nat) : List sP0 := [(36, (none, ((b : Nat) : Int)), (0, 2000000000))]
def kmZ_G (b : Nat) : List sP0 := []
def kmZ_B (b : Nat) : List (Nat × Nat × Int) := []
def kmZ_m (b : Nat) : sM := [(36, b, (b + 1))]
def kmZ_r0 (b : Nat) : sXr := (none, sA0, [], ([(36, (none, ((b : Nat) : Int)), ([(1, 1)], 1))], [], [], []), [], [])
theorem kmZ_b : ((List.range 2).all fun b => syeB swM sT0 (kmZ_m b) 400 0 253 (kmZ_L b) (kmZ_S b) (kmZ_A b) (kmZ_P b) (kmZ_G b) (kmZ_B b) 213 [] [kmZ_r0 b]) = true := by decide +kernel
theorem kmZ {l : Launch} {Γ : zG} {d : Nat} (hd : 0 ≤ d) {Kp : Option Value → zH → Prop} {lo : zL} {h : zH} {b : Nat} (h_b : b < 2) {m : Int} (hi : sInv swM h) (b_m : 0 ≤ m ∧ m ≤ 2000000000) (l0 : zget lo 0 = some (.ref 0)) (l1 : zI lo 1 (b : Int)) (p_m : pI h 36 b = m)
    (hR0 : ∀ (h' : zH), sInv swM h' → sMd (kmZ_m b) h h' → pI h' 36 b = m + 1 → Kp none h') : zX l Γ false (d + 1) (zhd 253) (zMQ' Γ false (zhd 253) Kp) 0 0 213 lo [] h := by
  refine sye_ok (mi := 253) (pc := 213) (fun i => [(b : Int), m].getD i 0) (zall_r kmZ_b h_b) (fun _ _ hc _ => nomatch hc) hd ⟨l0, zIm l1 (by show (b : Int) ≤ (b : Int); omega) (by show (b : Int) ≤ (b : Int); omega), trivial⟩ rfl ⟨(fun _ hc => nomatch hc), (fun _ hc => nomatch hc), (fun _ hc => nomatch hc), Or.inl rfl⟩ ⟨⟨p_m, by show 0 ≤ m; omega, by show m ≤ 2000000000; omega⟩, trivial⟩ trivial (fun _ hc => nomatch hc) hi ?_ ?_
  · intro e he lo' st' h' hp hi' hm
    cases he
  · intro e he r' h' hp hi' hm
    rcases List.mem_cons.mp he with rfl | he
    · obtain ⟨p1, -, hz⟩ := hp
      obtain ⟨⟨z1, z2, z3, z4⟩, z5, z6⟩ := hz
      have k0 : pI h' 36 b = m + 1 := (show pI h' 36 b = (1 * m + 0) + 1 from z1 (36, (none, ((b : Nat) : Int)), ([(1, 1)], 1)) (List.mem_of_getElem? (i := 0) rfl)).trans (by omega)
      have p1 : r' = none := p1
      subst p1
      exact hR0 h' hi' hm k0
    cases he
def kmY0_L (b : Nat) (p : Nat) : List sT := [.inr (.inl 0), .inl ((b : Int), (b : Int)), .inl ((p : Int), (p : Int))]
def kmY0_A (b : Nat) (p : Nat) : sAs := ([], [], [], [])
def kmY0_P (b : Nat) (p : Nat) : List sP0 := [(14, (none, ((p : Nat) : Int)), (0, 7)), (15, (none, ((p : Nat) : Int)), (0, 7))]
def kmY0_G (b : Nat) (p : Nat) : List sP0 := []
def kmY0_B (b : Nat) (p : Nat) : List (Nat × Nat × Int) := []
def kmY0_m (b : Nat) (p : Nat) : sM := []
def kmY0_e0 (b : Nat) (p : Nat) : sXe := (25, [], [(0, .inr (.inl 0)), (1, .inl sf32), (2, .inl sf32), (3, .inl sf32), (4, .inl sf32)], sA0, [], ([], [], [(1, ([], (b : Int))), (2, ([], (p : Int))), (3, ([(2, 1)], (8 * (b : Int)))), (4, ([(3, 1)], (8 * (b : Int))))], []), [], [])
theorem kmY0_b : ((List.range 2).all fun b => ((List.range 10).all fun p => syfB swM sT0 (kmY0_m b p) 400 0 254 (kmY0_L b p) (kmY0_A b p) (kmY0_P b p) (kmY0_G b p) (kmY0_B b p) [kmY0_e0 b p] [])) = true := by decide +kernel
theorem kmY0 {l : Launch} {Γ : zG} {d : Nat} (hd : 0 ≤ d) {Kp : Option Value → zH → Prop} {h : zH} {b : Nat} (h_b : b < 2) {p : Nat} (h_p : p < 10) {f o : Int} (hi : sInv swM h) (b_f : 0 ≤ f ∧ f ≤ 7) (b_o : 0 ≤ o ∧ o ≤ 7) {x_bb : Int32} (e_bb : x_bb.toInt = (b : Int)) {x_pp : Int32} (e_pp : x_pp.toInt = (p : Int)) (p_f : pI h 14 p = f) (p_o : pI h 15 p = o)
    (hE0 : ∀ (lo' : zL) (h' : zH), sInv swM h' → sMd (kmY0_m b p) h h' → zget lo' 0 = some (.ref 0) → zI lo' 1 (b : Int) → zI lo' 2 (p : Int) → zI lo' 3 (f + (8 * (b : Int))) → zI lo' 4 (o + (8 * (b : Int))) → zX l Γ false (d + 1) (zhd 254) (zMQ' Γ false (zhd 254) Kp) 0 0 25 lo' [] h') : zSem l Γ false (d + 1) (zhd 254) [.ref 0, .int x_bb, .int x_pp] h Kp := by
  refine syf_ok (mi := 254) (fun i => [(b : Int), (p : Int), f, o].getD i 0) (zall_r (zall_r kmY0_b h_b) h_p) (fun _ _ hc _ => nomatch hc) hd ⟨_, _, rfl, rfl, ⟨_, _, rfl, ⟨x_bb, rfl, by show (b : Int) ≤ x_bb.toInt; omega, by show x_bb.toInt ≤ (b : Int); omega⟩, ⟨_, _, rfl, ⟨x_pp, rfl, by show (p : Int) ≤ x_pp.toInt; omega, by show x_pp.toInt ≤ (p : Int); omega⟩, rfl⟩⟩⟩ ⟨rfl, ⟨x_bb, rfl, e_bb, by show (b : Int) ≤ (b : Int); omega, by show (b : Int) ≤ (b : Int); omega⟩, ⟨x_pp, rfl, e_pp, by show (p : Int) ≤ (p : Int); omega, by show (p : Int) ≤ (p : Int); omega⟩, trivial⟩ ⟨(fun _ hc => nomatch hc), (fun _ hc => nomatch hc), (fun _ hc => nomatch hc), Or.inl rfl⟩ ⟨⟨p_f, by show 0 ≤ f; omega, by show f ≤ 7; omega⟩, ⟨p_o, by show 0 ≤ o; omega, by show o ≤ 7; omega⟩, trivial⟩ trivial (fun _ hc => nomatch hc) hi ?_ ?_
  · intro e he lo' st' h' hp hi' hm
    rcases List.mem_cons.mp he with rfl | he
    · obtain ⟨p1, p2, -, hz⟩ := hp
      obtain ⟨⟨z1, z2, z3, z4⟩, z5, z6⟩ := hz
      have o0 : zget lo' 0 = some (.ref 0) := locR (p2 (0, .inr (.inl 0)) (List.mem_of_getElem? (i := 0) rfl))
      have o1 : zI lo' 1 (b : Int) := zI_of (p2 (1, .inl sf32) (List.mem_of_getElem? (i := 1) rfl)) (z3 (1, ([], (b : Int))) (List.mem_of_getElem? (i := 0) rfl)) (show 0 + (b : Int) = (b : Int) from by omega)
      have o2 : zI lo' 2 (p : Int) := zI_of (p2 (2, .inl sf32) (List.mem_of_getElem? (i := 2) rfl)) (z3 (2, ([], (p : Int))) (List.mem_of_getElem? (i := 1) rfl)) (show 0 + (p : Int) = (p : Int) from by omega)
      have o3 : zI lo' 3 (f + (8 * (b : Int))) := zI_of (p2 (3, .inl sf32) (List.mem_of_getElem? (i := 3) rfl)) (z3 (3, ([(2, 1)], (8 * (b : Int)))) (List.mem_of_getElem? (i := 2) rfl)) (show (1 * f + 0) + (8 * (b : Int)) = f + (8 * (b : Int)) from by omega)
      have o4 : zI lo' 4 (o + (8 * (b : Int))) := zI_of (p2 (4, .inl sf32) (List.mem_of_getElem? (i := 4) rfl)) (z3 (4, ([(3, 1)], (8 * (b : Int)))) (List.mem_of_getElem? (i := 3) rfl)) (show (1 * o + 0) + (8 * (b : Int)) = o + (8 * (b : Int)) from by omega)
      have p1 : _ = [] := p1
      subst p1
      exact hE0 lo' h' hi' hm o0 o1 o2 o3 o4
    cases he
  · intro e he r' h' hp hi' hm
    cases he
def kmY1_L (b : Nat) (f : Nat) (p : Nat) : List (Nat × sT) := [(0, .inr (.inl 0)), (1, .inl ((b : Int), (b : Int))), (2, .inl ((p : Int), (p : Int))), (3, .inl ((8 * (b : Int) + (f : Int)), (8 * (b : Int) + (f : Int)))), (4, .inl (0, 15))]
def kmY1_S (b : Nat) (f : Nat) (p : Nat) : List sT := []
def kmY1_A (b : Nat) (f : Nat) (p : Nat) : sAs := ([], [], [], [])
def kmY1_P (b : Nat) (f : Nat) (p : Nat) : List sP0 := [(14, (none, ((p : Nat) : Int)), (0, 7)), (17, (none, ((p : Nat) : Int)), (0, 99)), (30, (none, (((8 * b + f) : Nat) : Int)), (0, 999)), (33, (none, (((8 * b + f) : Nat) : Int)), (0, 2000000000)), (0, (none, 69), (0, 1))]
def kmY1_G (b : Nat) (f : Nat) (p : Nat) : List sP0 := []
def kmY1_B (b : Nat) (f : Nat) (p : Nat) : List (Nat × Nat × Int) := []
def kmY1_m (b : Nat) (f : Nat) (p : Nat) : sM := [(33, (8 * b + f), (8 * b + f + 1))]
def kmY1_e0 (b : Nat) (f : Nat) (p : Nat) : sXe := (71, [.inl sf32, .inl sf32, .inr (.inl 0)], [(0, .inr (.inl 0)), (1, .inl sf32), (2, .inl sf32), (3, .inl sf32), (4, .inl sf32), (5, .inl sf32), (6, .inl sf32)], sA0, [], ([(33, (none, (((8 * b + f) : Nat) : Int)), ([(6, 1), (7, 1)], 0))], [(0, ([(4, 1)], 0)), (1, ([], (b : Int)))], [(1, ([], (b : Int))), (2, ([], (p : Int))), (3, ([], (8 * (b : Int) + (f : Int)))), (4, ([(3, 1)], 0)), (5, ([(6, 1)], 0)), (6, ([], 0))], [([(5, 1), (6, (-1))], 0), ([(8, 1)], 0), ([(8, (-1))], 0)]), [], [])
def kmY1_e1 (b : Nat) (f : Nat) (p : Nat) : sXe := (87, [], [(0, .inr (.inl 0)), (1, .inl sf32), (2, .inl sf32), (3, .inl sf32), (4, .inl sf32), (5, .inl sf32), (6, .inl sf32)], sA0, [], ([(33, (none, (((8 * b + f) : Nat) : Int)), ([(6, 1), (7, 1)], 0))], [], [(1, ([], (b : Int))), (2, ([], (p : Int))), (3, ([], (8 * (b : Int) + (f : Int)))), (4, ([(3, 1)], 0)), (5, ([(6, 1)], 0)), (6, ([], 0))], [([(5, 1), (6, (-1))], 0)]), [(([(8, 1)], 0), ([], 0))], [])
def kmY1_e2 (b : Nat) (f : Nat) (p : Nat) : sXe := (71, [.inl sf32, .inl sf32, .inr (.inl 0)], [(0, .inr (.inl 0)), (1, .inl sf32), (2, .inl sf32), (3, .inl sf32), (4, .inl sf32), (5, .inl sf32), (6, .inl sf32)], sA0, [], ([(33, (none, (((8 * b + f) : Nat) : Int)), ([(5, 1), (7, 1)], 0))], [(0, ([(4, 1)], 0)), (1, ([], (b : Int)))], [(1, ([], (b : Int))), (2, ([], (p : Int))), (3, ([], (8 * (b : Int) + (f : Int)))), (4, ([(3, 1)], 0)), (5, ([(5, 1)], 0)), (6, ([], 0))], [([(5, (-1)), (6, 1)], (-1)), ([(8, 1)], 0), ([(8, (-1))], 0)]), [], [])
def kmY1_e3 (b : Nat) (f : Nat) (p : Nat) : sXe := (87, [], [(0, .inr (.inl 0)), (1, .inl sf32), (2, .inl sf32), (3, .inl sf32), (4, .inl sf32), (5, .inl sf32), (6, .inl sf32)], sA0, [], ([(33, (none, (((8 * b + f) : Nat) : Int)), ([(5, 1), (7, 1)], 0))], [], [(1, ([], (b : Int))), (2, ([], (p : Int))), (3, ([], (8 * (b : Int) + (f : Int)))), (4, ([(3, 1)], 0)), (5, ([(5, 1)], 0)), (6, ([], 0))], [([(5, (-1)), (6, 1)], (-1))]), [(([(8, 1)], 0), ([], 0))], [])
theorem kmY1_b : ((List.range 2).all fun b => ((List.range 8).all fun f => ((List.range 10).all fun p => syeB swM sT0 (kmY1_m b f p) 400 1 254 (kmY1_L b f p) (kmY1_S b f p) (kmY1_A b f p) (kmY1_P b f p) (kmY1_G b f p) (kmY1_B b f p) 25 [kmY1_e0 b f p, kmY1_e1 b f p, kmY1_e2 b f p, kmY1_e3 b f p] []))) = true := by decide +kernel
theorem kmY1 {l : Launch} {Γ : zG} {d : Nat} (hd : 1 ≤ d) {Kp : Option Value → zH → Prop} {lo : zL} {h : zH} {b : Nat} (h_b : b < 2) {f : Nat} (h_f : f < 8) {p : Nat} (h_p : p < 10) {o f0 a bl pd nx : Int} (hi : sInv swM h) (b_o : 0 ≤ o ∧ o ≤ 15) (b_f0 : 0 ≤ f0 ∧ f0 ≤ 7) (b_a : 0 ≤ a ∧ a ≤ 99) (b_bl : 0 ≤ bl ∧ bl ≤ 999) (b_pd : 0 ≤ pd ∧ pd ≤ 2000000000) (b_nx : 0 ≤ nx ∧ nx ≤ 1) (l0 : zget lo 0 = some (.ref 0)) (l1 : zI lo 1 (b : Int)) (l2 : zI lo 2 (p : Int)) (l3 : zI lo 3 (8 * (b : Int) + (f : Int))) (l4 : zI lo 4 o) (p_f0 : pI h 14 p = f0) (p_a : pI h 17 p = a) (p_bl : pI h 30 (8 * b + f) = bl) (p_pd : pI h 33 (8 * b + f) = pd) (p_nx : pI h 0 69 = nx)
    (hE0 : ∀ (lo' : zL) (h' : zH) (y0 : Int32) (y1 : Int32), sInv swM h' → sMd (kmY1_m b f p) h h' → 0 ≤ a - bl → nx = 0 → pI h' 33 (8 * b + f) = bl + pd → zget lo' 0 = some (.ref 0) → zI lo' 1 (b : Int) → zI lo' 2 (p : Int) → zI lo' 3 (8 * (b : Int) + (f : Int)) → zI lo' 4 o → zI lo' 5 bl → zI lo' 6 0 → y0.toInt = f0 → y1.toInt = (b : Int) → zX l Γ false (d + 1) (zhd 254) (zMQ' Γ false (zhd 254) Kp) 0 0 71 lo' [.int y0, .int y1, .ref 0] h')
    (hE1 : ∀ (lo' : zL) (h' : zH), sInv swM h' → sMd (kmY1_m b f p) h h' → 0 ≤ a - bl → nx ≠ 0 → pI h' 33 (8 * b + f) = bl + pd → zget lo' 0 = some (.ref 0) → zI lo' 1 (b : Int) → zI lo' 2 (p : Int) → zI lo' 3 (8 * (b : Int) + (f : Int)) → zI lo' 4 o → zI lo' 5 bl → zI lo' 6 0 → zX l Γ false (d + 1) (zhd 254) (zMQ' Γ false (zhd 254) Kp) 0 0 87 lo' [] h')
    (hE2 : ∀ (lo' : zL) (h' : zH) (y0 : Int32) (y1 : Int32), sInv swM h' → sMd (kmY1_m b f p) h h' → 0 ≤ -a + bl - 1 → nx = 0 → pI h' 33 (8 * b + f) = a + pd → zget lo' 0 = some (.ref 0) → zI lo' 1 (b : Int) → zI lo' 2 (p : Int) → zI lo' 3 (8 * (b : Int) + (f : Int)) → zI lo' 4 o → zI lo' 5 a → zI lo' 6 0 → y0.toInt = f0 → y1.toInt = (b : Int) → zX l Γ false (d + 1) (zhd 254) (zMQ' Γ false (zhd 254) Kp) 0 0 71 lo' [.int y0, .int y1, .ref 0] h')
    (hE3 : ∀ (lo' : zL) (h' : zH), sInv swM h' → sMd (kmY1_m b f p) h h' → 0 ≤ -a + bl - 1 → nx ≠ 0 → pI h' 33 (8 * b + f) = a + pd → zget lo' 0 = some (.ref 0) → zI lo' 1 (b : Int) → zI lo' 2 (p : Int) → zI lo' 3 (8 * (b : Int) + (f : Int)) → zI lo' 4 o → zI lo' 5 a → zI lo' 6 0 → zX l Γ false (d + 1) (zhd 254) (zMQ' Γ false (zhd 254) Kp) 0 0 87 lo' [] h') : zX l Γ false (d + 1) (zhd 254) (zMQ' Γ false (zhd 254) Kp) 0 0 25 lo [] h := by
  refine sye_ok (mi := 254) (pc := 25) (fun i => [(b : Int), (p : Int), (8 * (b : Int) + (f : Int)), o, f0, a, bl, pd, nx].getD i 0) (zall_r (zall_r (zall_r kmY1_b h_b) h_f) h_p) (fun _ _ hc _ => nomatch hc) hd ⟨l0, zIm l1 (by show (b : Int) ≤ (b : Int); omega) (by show (b : Int) ≤ (b : Int); omega), zIm l2 (by show (p : Int) ≤ (p : Int); omega) (by show (p : Int) ≤ (p : Int); omega), zIm l3 (by show (8 * (b : Int) + (f : Int)) ≤ (8 * (b : Int) + (f : Int)); omega) (by show (8 * (b : Int) + (f : Int)) ≤ (8 * (b : Int) + (f : Int)); omega), zIm l4 (by show 0 ≤ o; omega) (by show o ≤ 15; omega), trivial⟩ rfl ⟨(fun _ hc => nomatch hc), (fun _ hc => nomatch hc), (fun _ hc => nomatch hc), Or.inl rfl⟩ ⟨⟨p_f0, by show 0 ≤ f0; omega, by show f0 ≤ 7; omega⟩, ⟨p_a, by show 0 ≤ a; omega, by show a ≤ 99; omega⟩, ⟨p_bl, by show 0 ≤ bl; omega, by show bl ≤ 999; omega⟩, ⟨p_pd, by show 0 ≤ pd; omega, by show pd ≤ 2000000000; omega⟩, ⟨p_nx, by show 0 ≤ nx; omega, by show nx ≤ 1; omega⟩, trivial⟩ trivial (fun _ hc => nomatch hc) hi ?_ ?_
  · intro e he lo' st' h' hp hi' hm
    rcases List.mem_cons.mp he with rfl | he
    · obtain ⟨p1, p2, -, hz⟩ := hp
      obtain ⟨⟨z1, z2, z3, z4⟩, z5, z6⟩ := hz
      have c0 : 0 ≤ a - bl := by have q_ : (0 : Int) ≤ (1 * a + ((-1) * bl + 0)) + 0 := z4 ([(5, 1), (6, (-1))], 0) (List.mem_of_getElem? (i := 0) rfl); omega
      have c1 : nx = 0 := by have q_ : (0 : Int) ≤ (1 * nx + 0) + 0 := z4 ([(8, 1)], 0) (List.mem_of_getElem? (i := 1) rfl); have q2_ : (0 : Int) ≤ ((-1) * nx + 0) + 0 := z4 ([(8, (-1))], 0) (List.mem_of_getElem? (i := 2) rfl); omega
      have k0 : pI h' 33 (8 * b + f) = bl + pd := (show pI h' 33 (8 * b + f) = (1 * bl + (1 * pd + 0)) + 0 from z1 (33, (none, (((8 * b + f) : Nat) : Int)), ([(6, 1), (7, 1)], 0)) (List.mem_of_getElem? (i := 0) rfl)).trans (by omega)
      have o0 : zget lo' 0 = some (.ref 0) := locR (p2 (0, .inr (.inl 0)) (List.mem_of_getElem? (i := 0) rfl))
      have o1 : zI lo' 1 (b : Int) := zI_of (p2 (1, .inl sf32) (List.mem_of_getElem? (i := 1) rfl)) (z3 (1, ([], (b : Int))) (List.mem_of_getElem? (i := 0) rfl)) (show 0 + (b : Int) = (b : Int) from by omega)
      have o2 : zI lo' 2 (p : Int) := zI_of (p2 (2, .inl sf32) (List.mem_of_getElem? (i := 2) rfl)) (z3 (2, ([], (p : Int))) (List.mem_of_getElem? (i := 1) rfl)) (show 0 + (p : Int) = (p : Int) from by omega)
      have o3 : zI lo' 3 (8 * (b : Int) + (f : Int)) := zI_of (p2 (3, .inl sf32) (List.mem_of_getElem? (i := 3) rfl)) (z3 (3, ([], (8 * (b : Int) + (f : Int)))) (List.mem_of_getElem? (i := 2) rfl)) (show 0 + (8 * (b : Int) + (f : Int)) = (8 * (b : Int) + (f : Int)) from by omega)
      have o4 : zI lo' 4 o := zI_of (p2 (4, .inl sf32) (List.mem_of_getElem? (i := 4) rfl)) (z3 (4, ([(3, 1)], 0)) (List.mem_of_getElem? (i := 3) rfl)) (show (1 * o + 0) + 0 = o from by omega)
      have o5 : zI lo' 5 bl := zI_of (p2 (5, .inl sf32) (List.mem_of_getElem? (i := 5) rfl)) (z3 (5, ([(6, 1)], 0)) (List.mem_of_getElem? (i := 4) rfl)) (show (1 * bl + 0) + 0 = bl from by omega)
      have o6 : zI lo' 6 0 := zI_of (p2 (6, .inl sf32) (List.mem_of_getElem? (i := 6) rfl)) (z3 (6, ([], 0)) (List.mem_of_getElem? (i := 5) rfl)) (show 0 + 0 = 0 from by omega)
      obtain ⟨_, _, rfl, ⟨y0, rfl, -⟩, p1⟩ := p1
      obtain ⟨_, _, rfl, ⟨y1, rfl, -⟩, p1⟩ := p1
      obtain ⟨_, _, rfl, hr, p1⟩ := p1
      have hr : _ = Value.ref 0 := hr
      subst hr
      have p1 : _ = [] := p1
      subst p1
      obtain ⟨v_, ev, hv⟩ := z2 (0, ([(4, 1)], 0)) (List.mem_of_getElem? (i := 0) rfl)
      cases ev
      have s0 : y0.toInt = f0 := (show y0.toInt = (1 * f0 + 0) + 0 from hv).trans (by omega)
      obtain ⟨v_, ev, hv⟩ := z2 (1, ([], (b : Int))) (List.mem_of_getElem? (i := 1) rfl)
      cases ev
      have s1 : y1.toInt = (b : Int) := (show y1.toInt = 0 + (b : Int) from hv).trans (by omega)
      exact hE0 lo' h' y0 y1 hi' hm c0 c1 k0 o0 o1 o2 o3 o4 o5 o6 s0 s1
    rcases List.mem_cons.mp he with rfl | he
    · obtain ⟨p1, p2, -, hz⟩ := hp
      obtain ⟨⟨z1, z2, z3, z4⟩, z5, z6⟩ := hz
      have c0 : 0 ≤ a - bl := by have q_ : (0 : Int) ≤ (1 * a + ((-1) * bl + 0)) + 0 := z4 ([(5, 1), (6, (-1))], 0) (List.mem_of_getElem? (i := 0) rfl); omega
      have n0 : nx ≠ 0 := fun e_ => z5 (([(8, 1)], 0), ([], 0)) (List.mem_of_getElem? (i := 0) rfl) (by show (1 * nx + 0) + 0 = 0 + 0; omega)
      have k0 : pI h' 33 (8 * b + f) = bl + pd := (show pI h' 33 (8 * b + f) = (1 * bl + (1 * pd + 0)) + 0 from z1 (33, (none, (((8 * b + f) : Nat) : Int)), ([(6, 1), (7, 1)], 0)) (List.mem_of_getElem? (i := 0) rfl)).trans (by omega)
      have o0 : zget lo' 0 = some (.ref 0) := locR (p2 (0, .inr (.inl 0)) (List.mem_of_getElem? (i := 0) rfl))
      have o1 : zI lo' 1 (b : Int) := zI_of (p2 (1, .inl sf32) (List.mem_of_getElem? (i := 1) rfl)) (z3 (1, ([], (b : Int))) (List.mem_of_getElem? (i := 0) rfl)) (show 0 + (b : Int) = (b : Int) from by omega)
      have o2 : zI lo' 2 (p : Int) := zI_of (p2 (2, .inl sf32) (List.mem_of_getElem? (i := 2) rfl)) (z3 (2, ([], (p : Int))) (List.mem_of_getElem? (i := 1) rfl)) (show 0 + (p : Int) = (p : Int) from by omega)
      have o3 : zI lo' 3 (8 * (b : Int) + (f : Int)) := zI_of (p2 (3, .inl sf32) (List.mem_of_getElem? (i := 3) rfl)) (z3 (3, ([], (8 * (b : Int) + (f : Int)))) (List.mem_of_getElem? (i := 2) rfl)) (show 0 + (8 * (b : Int) + (f : Int)) = (8 * (b : Int) + (f : Int)) from by omega)
      have o4 : zI lo' 4 o := zI_of (p2 (4, .inl sf32) (List.mem_of_getElem? (i := 4) rfl)) (z3 (4, ([(3, 1)], 0)) (List.mem_of_getElem? (i := 3) rfl)) (show (1 * o + 0) + 0 = o from by omega)
      have o5 : zI lo' 5 bl := zI_of (p2 (5, .inl sf32) (List.mem_of_getElem? (i := 5) rfl)) (z3 (5, ([(6, 1)], 0)) (List.mem_of_getElem? (i := 4) rfl)) (show (1 * bl + 0) + 0 = bl from by omega)
      have o6 : zI lo' 6 0 := zI_of (p2 (6, .inl sf32) (List.mem_of_getElem? (i := 6) rfl)) (z3 (6, ([], 0)) (List.mem_of_getElem? (i := 5) rfl)) (show 0 + 0 = 0 from by omega)
      have p1 : _ = [] := p1
      subst p1
      exact hE1 lo' h' hi' hm c0 n0 k0 o0 o1 o2 o3 o4 o5 o6
    rcases List.mem_cons.mp he with rfl | he
    · obtain ⟨p1, p2, -, hz⟩ := hp
      obtain ⟨⟨z1, z2, z3, z4⟩, z5, z6⟩ := hz
      have c0 : 0 ≤ -a + bl - 1 := by have q_ : (0 : Int) ≤ ((-1) * a + (1 * bl + 0)) + (-1) := z4 ([(5, (-1)), (6, 1)], (-1)) (List.mem_of_getElem? (i := 0) rfl); omega
      have c1 : nx = 0 := by have q_ : (0 : Int) ≤ (1 * nx + 0) + 0 := z4 ([(8, 1)], 0) (List.mem_of_getElem? (i := 1) rfl); have q2_ : (0 : Int) ≤ ((-1) * nx + 0) + 0 := z4 ([(8, (-1))], 0) (List.mem_of_getElem? (i := 2) rfl); omega
      have k0 : pI h' 33 (8 * b + f) = a + pd := (show pI h' 33 (8 * b + f) = (1 * a + (1 * pd + 0)) + 0 from z1 (33, (none, (((8 * b + f) : Nat) : Int)), ([(5, 1), (7, 1)], 0)) (List.mem_of_getElem? (i := 0) rfl)).trans (by omega)
      have o0 : zget lo' 0 = some (.ref 0) := locR (p2 (0, .inr (.inl 0)) (List.mem_of_getElem? (i := 0) rfl))
      have o1 : zI lo' 1 (b : Int) := zI_of (p2 (1, .inl sf32) (List.mem_of_getElem? (i := 1) rfl)) (z3 (1, ([], (b : Int))) (List.mem_of_getElem? (i := 0) rfl)) (show 0 + (b : Int) = (b : Int) from by omega)
      have o2 : zI lo' 2 (p : Int) := zI_of (p2 (2, .inl sf32) (List.mem_of_getElem? (i := 2) rfl)) (z3 (2, ([], (p : Int))) (List.mem_of_getElem? (i := 1) rfl)) (show 0 + (p : Int) = (p : Int) from by omega)
      have o3 : zI lo' 3 (8 * (b : Int) + (f : Int)) := zI_of (p2 (3, .inl sf32) (List.mem_of_getElem? (i := 3) rfl)) (z3 (3, ([], (8 * (b : Int) + (f : Int)))) (List.mem_of_getElem? (i := 2) rfl)) (show 0 + (8 * (b : Int) + (f : Int)) = (8 * (b : Int) + (f : Int)) from by omega)
      have o4 : zI lo' 4 o := zI_of (p2 (4, .inl sf32) (List.mem_of_getElem? (i := 4) rfl)) (z3 (4, ([(3, 1)], 0)) (List.mem_of_getElem? (i := 3) rfl)) (show (1 * o + 0) + 0 = o from by omega)
      have o5 : zI lo' 5 a := zI_of (p2 (5, .inl sf32) (List.mem_of_getElem? (i := 5) rfl)) (z3 (5, ([(5, 1)], 0)) (List.mem_of_getElem? (i := 4) rfl)) (show (1 * a + 0) + 0 = a from by omega)
      have o6 : zI lo' 6 0 := zI_of (p2 (6, .inl sf32) (List.mem_of_getElem? (i := 6) rfl)) (z3 (6, ([], 0)) (List.mem_of_getElem? (i := 5) rfl)) (show 0 + 0 = 0 from by omega)
      obtain ⟨_, _, rfl, ⟨y0, rfl, -⟩, p1⟩ := p1
      obtain ⟨_, _, rfl, ⟨y1, rfl, -⟩, p1⟩ := p1
      obtain ⟨_, _, rfl, hr, p1⟩ := p1
      have hr : _ = Value.ref 0 := hr
      subst hr
      have p1 : _ = [] := p1
      subst p1
      obtain ⟨v_, ev, hv⟩ := z2 (0, ([(4, 1)], 0)) (List.mem_of_getElem? (i := 0) rfl)
      cases ev
      have s0 : y0.toInt = f0 := (show y0.toInt = (1 * f0 + 0) + 0 from hv).trans (by omega)
      obtain ⟨v_, ev, hv⟩ := z2 (1, ([], (b : Int))) (List.mem_of_getElem? (i := 1) rfl)
      cases ev
      have s1 : y1.toInt = (b : Int) := (show y1.toInt = 0 + (b : Int) from hv).trans (by omega)
      exact hE2 lo' h' y0 y1 hi' hm c0 c1 k0 o0 o1 o2 o3 o4 o5 o6 s0 s1
    rcases List.mem_cons.mp he with rfl | he
    · obtain ⟨p1, p2, -, hz⟩ := hp
      obtain ⟨⟨z1, z2, z3, z4⟩, z5, z6⟩ := hz
      have c0 : 0 ≤ -a + bl - 1 := by have q_ : (0 : Int) ≤ ((-1) * a + (1 * bl + 0)) + (-1) := z4 ([(5, (-1)), (6, 1)], (-1)) (List.mem_of_getElem? (i := 0) rfl); omega
      have n0 : nx ≠ 0 := fun e_ => z5 (([(8, 1)], 0), ([], 0)) (List.mem_of_getElem? (i := 0) rfl) (by show (1 * nx + 0) + 0 = 0 + 0; omega)
      have k0 : pI h' 33 (8 * b + f) = a + pd := (show pI h' 33 (8 * b + f) = (1 * a + (1 * pd + 0)) + 0 from z1 (33, (none, (((8 * b + f) : Nat) : Int)), ([(5, 1), (7, 1)], 0)) (List.mem_of_getElem? (i := 0) rfl)).trans (by omega)
      have o0 : zget lo' 0 = some (.ref 0) := locR (p2 (0, .inr (.inl 0)) (List.mem_of_getElem? (i := 0) rfl))
      have o1 : zI lo' 1 (b : Int) := zI_of (p2 (1, .inl sf32) (List.mem_of_getElem? (i := 1) rfl)) (z3 (1, ([], (b : Int))) (List.mem_of_getElem? (i := 0) rfl)) (show 0 + (b : Int) = (b : Int) from by omega)
      have o2 : zI lo' 2 (p : Int) := zI_of (p2 (2, .inl sf32) (List.mem_of_getElem? (i := 2) rfl)) (z3 (2, ([], (p : Int))) (List.mem_of_getElem? (i := 1) rfl)) (show 0 + (p : Int) = (p : Int) from by omega)
      have o3 : zI lo' 3 (8 * (b : Int) + (f : Int)) := zI_of (p2 (3, .inl sf32) (List.mem_of_getElem? (i := 3) rfl)) (z3 (3, ([], (8 * (b : Int) + (f : Int)))) (List.mem_of_getElem? (i := 2) rfl)) (show 0 + (8 * (b : Int) + (f : Int)) = (8 * (b : Int) + (f : Int)) from by omega)
      have o4 : zI lo' 4 o := zI_of (p2 (4, .inl sf32) (List.mem_of_getElem? (i := 4) rfl)) (z3 (4, ([(3, 1)], 0)) (List.mem_of_getElem? (i := 3) rfl)) (show (1 * o + 0) + 0 = o from by omega)
      have o5 : zI lo' 5 a := zI_of (p2 (5, .inl sf32) (List.mem_of_getElem? (i := 5) rfl)) (z3 (5, ([(5, 1)], 0)) (List.mem_of_getElem? (i := 4) rfl)) (show (1 * a + 0) + 0 = a from by omega)
      have o6 : zI lo' 6 0 := zI_of (p2 (6, .inl sf32) (List.mem_of_getElem? (i := 6) rfl)) (z3 (6, ([], 0)) (List.mem_of_getElem? (i := 5) rfl)) (show 0 + 0 = 0 from by omega)
      have p1 : _ = [] := p1
      subst p1
      exact hE3 lo' h' hi' hm c0 n0 k0 o0 o1 o2 o3 o4 o5 o6
    cases he
  · intro e he r' h' hp hi' hm
    cases he
def kmY2_L (b : Nat) : List (Nat × sT) := [(0, .inr (.inl 0)), (1, .inl ((b : Int), (b : Int))), (2, .inl (0, 9)), (3, .inl (0, 15)), (4, .inl (0, 15)), (5, .inl (0, 99))]
def kmY2_S (b : Nat) : List sT := []
def kmY2_A (b : Nat) : sAs := ([], [], [], [])
def kmY2_P (b : Nat) : List sP0 := []
def kmY2_G (b : Nat) : List sP0 := []
def kmY2_B (b : Nat) : List (Nat × Nat × Int) := []
def kmY2_m (b : Nat) : sM := []
def kmY2_e0 (b : Nat) : sXe := (77, [.inl sf32, .inl sf32, .inr (.inl 0)], [(0, .inr (.inl 0)), (1, .inl sf32), (2, .inl sf32), (3, .inl sf32), (4, .inl sf32), (5, .inl sf32)], sA0, [], ([], [(0, ([], 0)), (1, ([], 1))], [(1, ([], (b : Int))), (2, ([(1, 1)], 0)), (3, ([(2, 1)], 0)), (4, ([(3, 1)], 0)), (5, ([(4, 1)], 0))], []), [], [])
theorem kmY2_b : ((List.range 2).all fun b => syeB swM sT0 (kmY2_m b) 400 0 254 (kmY2_L b) (kmY2_S b) (kmY2_A b) (kmY2_P b) (kmY2_G b) (kmY2_B b) 74 [kmY2_e0 b] []) = true := by decide +kernel
theorem kmY2 {l : Launch} {Γ : zG} {d : Nat} (hd : 0 ≤ d) {Kp : Option Value → zH → Prop} {lo : zL} {h : zH} {b : Nat} (h_b : b < 2) {p f o g : Int} (hi : sInv swM h) (b_p : 0 ≤ p ∧ p ≤ 9) (b_f : 0 ≤ f ∧ f ≤ 15) (b_o : 0 ≤ o ∧ o ≤ 15) (b_g : 0 ≤ g ∧ g ≤ 99) (l0 : zget lo 0 = some (.ref 0)) (l1 : zI lo 1 (b : Int)) (l2 : zI lo 2 p) (l3 : zI lo 3 f) (l4 : zI lo 4 o) (l5 : zI lo 5 g)
    (hE0 : ∀ (lo' : zL) (h' : zH) (y0 : Int32) (y1 : Int32), sInv swM h' → sMd (kmY2_m b) h h' → zget lo' 0 = some (.ref 0) → zI lo' 1 (b : Int) → zI lo' 2 p → zI lo' 3 f → zI lo' 4 o → zI lo' 5 g → y0.toInt = 0 → y1.toInt = 1 → zX l Γ false (d + 1) (zhd 254) (zMQ' Γ false (zhd 254) Kp) 0 0 77 lo' [.int y0, .int y1, .ref 0] h') : zX l Γ false (d + 1) (zhd 254) (zMQ' Γ false (zhd 254) Kp) 0 0 74 lo [] h := by
  refine sye_ok (mi := 254) (pc := 74) (fun i => [(b : Int), p, f, o, g].getD i 0) (zall_r kmY2_b h_b) (fun _ _ hc _ => nomatch hc) hd ⟨l0, zIm l1 (by show (b : Int) ≤ (b : Int); omega) (by show (b : Int) ≤ (b : Int); omega), zIm l2 (by show 0 ≤ p; omega) (by show p ≤ 9; omega), zIm l3 (by show 0 ≤ f; omega) (by show f ≤ 15; omega), zIm l4 (by show 0 ≤ o; omega) (by show o ≤ 15; omega), zIm l5 (by show 0 ≤ g; omega) (by show g ≤ 99; omega), trivial⟩ rfl ⟨(fun _ hc => nomatch hc), (fun _ hc => nomatch hc), (fun _ hc => nomatch hc), Or.inl rfl⟩ trivial trivial (fun _ hc => nomatch hc) hi ?_ ?_
  · intro e he lo' st' h' hp hi' hm
    rcases List.mem_cons.mp he with rfl | he
    · obtain ⟨p1, p2, -, hz⟩ := hp
      obtain ⟨⟨z1, z2, z3, z4⟩, z5, z6⟩ := hz
      have o0 : zget lo' 0 = some (.ref 0) := locR (p2 (0, .inr (.inl 0)) (List.mem_of_getElem? (i := 0) rfl))
      have o1 : zI lo' 1 (b : Int) := zI_of (p2 (1, .inl sf32) (List.mem_of_getElem? (i := 1) rfl)) (z3 (1, ([], (b : Int))) (List.mem_of_getElem? (i := 0) rfl)) (show 0 + (b : Int) = (b : Int) from by omega)
      have o2 : zI lo' 2 p := zI_of (p2 (2, .inl sf32) (List.mem_of_getElem? (i := 2) rfl)) (z3 (2, ([(1, 1)], 0)) (List.mem_of_getElem? (i := 1) rfl)) (show (1 * p + 0) + 0 = p from by omega)
      have o3 : zI lo' 3 f := zI_of (p2 (3, .inl sf32) (List.mem_of_getElem? (i := 3) rfl)) (z3 (3, ([(2, 1)], 0)) (List.mem_of_getElem? (i := 2) rfl)) (show (1 * f + 0) + 0 = f from by omega)
      have o4 : zI lo' 4 o := zI_of (p2 (4, .inl sf32) (List.mem_of_getElem? (i := 4) rfl)) (z3 (4, ([(3, 1)], 0)) (List.mem_of_getElem? (i := 3) rfl)) (show (1 * o + 0) + 0 = o from by omega)
      have o5 : zI lo' 5 g := zI_of (p2 (5, .inl sf32) (List.mem_of_getElem? (i := 5) rfl)) (z3 (5, ([(4, 1)], 0)) (List.mem_of_getElem? (i := 4) rfl)) (show (1 * g + 0) + 0 = g from by omega)
      obtain ⟨_, _, rfl, ⟨y0, rfl, -⟩, p1⟩ := p1
      obtain ⟨_, _, rfl, ⟨y1, rfl, -⟩, p1⟩ := p1
      obtain ⟨_, _, rfl, hr, p1⟩ := p1
      have hr : _ = Value.ref 0 := hr
      subst hr
      have p1 : _ = [] := p1
      subst p1
      obtain ⟨v_, ev, hv⟩ := z2 (0, ([], 0)) (List.mem_of_getElem? (i := 0) rfl)
      cases ev
      have s0 : y0.toInt = 0 := (show y0.toInt = 0 + 0 from hv).trans (by omega)
      obtain ⟨v_, ev, hv⟩ := z2 (1, ([], 1)) (List.mem_of_getElem? (i := 1) rfl)
      cases ev
      have s1 : y1.toInt = 1 := (show y1.toInt = 0 + 1 from hv).trans (by omega)
      exact hE0 lo' h' y0 y1 hi' hm o0 o1 o2 o3 o4 o5 s0 s1
    cases he
  · intro e he r' h' hp hi' hm
    cases he
def kmY3_L (b : Nat) : List (Nat × sT) := [(0, .inr (.inl 0)), (1, .inl ((b : Int), (b : Int))), (2, .inl (0, 9)), (3, .inl (0, 15)), (4, .inl (0, 15)), (5, .inl (0, 99))]
def kmY3_S (b : Nat) : List sT := [.inl (0, 99)]
def kmY3_A (b : Nat) : sAs := ([], [], [], [])
def kmY3_P (b : Nat) : List sP0 := []
def kmY3_G (b : Nat) : List sP0 := []
def kmY3_B (b : Nat) : List (Nat × Nat × Int) := []
def kmY3_m (b : Nat) : sM := []
def kmY3_e0 (b : Nat) : sXe := (87, [], [(0, .inr (.inl 0)), (1, .inl sf32), (2, .inl sf32), (3, .inl sf32), (4, .inl sf32), (5, .inl sf32), (6, .inl sf32)], sA0, [], ([], [], [(1, ([], (b : Int))), (2, ([(1, 1)], 0)), (3, ([(2, 1)], 0)), (4, ([(3, 1)], 0)), (5, ([(4, 1)], 0)), (6, ([(4, 1)], 0))], [([(4, (-1)), (5, 1)], 0)]), [], [])
def kmY3_e1 (b : Nat) : sXe := (87, [], [(0, .inr (.inl 0)), (1, .inl sf32), (2, .inl sf32), (3, .inl sf32), (4, .inl sf32), (5, .inl sf32), (6, .inl sf32)], sA0, [], ([], [], [(1, ([], (b : Int))), (2, ([(1, 1)], 0)), (3, ([(2, 1)], 0)), (4, ([(3, 1)], 0)), (5, ([(4, 1)], 0)), (6, ([(5, 1)], 0))], [([(4, 1), (5, (-1))], (-1))]), [], [])
theorem kmY3_b : ((List.range 2).all fun b => syeB swM sT0 (kmY3_m b) 400 1 254 (kmY3_L b) (kmY3_S b) (kmY3_A b) (kmY3_P b) (kmY3_G b) (kmY3_B b) 80 [kmY3_e0 b, kmY3_e1 b] []) = true := by decide +kernel
theorem kmY3 {l : Launch} {Γ : zG} {d : Nat} (hd : 1 ≤ d) {Kp : Option Value → zH → Prop} {lo : zL} {h : zH} {b : Nat} (h_b : b < 2) {p f o g x : Int} (hi : sInv swM h) (b_p : 0 ≤ p ∧ p ≤ 9) (b_f : 0 ≤ f ∧ f ≤ 15) (b_o : 0 ≤ o ∧ o ≤ 15) (b_g : 0 ≤ g ∧ g ≤ 99) (b_x : 0 ≤ x ∧ x ≤ 99) (l0 : zget lo 0 = some (.ref 0)) (l1 : zI lo 1 (b : Int)) (l2 : zI lo 2 p) (l3 : zI lo 3 f) (l4 : zI lo 4 o) (l5 : zI lo 5 g) {x_x : Int32} (e_x : x_x.toInt = x)
    (hE0 : ∀ (lo' : zL) (h' : zH), sInv swM h' → sMd (kmY3_m b) h h' → 0 ≤ -g + x → zget lo' 0 = some (.ref 0) → zI lo' 1 (b : Int) → zI lo' 2 p → zI lo' 3 f → zI lo' 4 o → zI lo' 5 g → zI lo' 6 g → zX l Γ false (d + 1) (zhd 254) (zMQ' Γ false (zhd 254) Kp) 0 0 87 lo' [] h')
    (hE1 : ∀ (lo' : zL) (h' : zH), sInv swM h' → sMd (kmY3_m b) h h' → 0 ≤ g - x - 1 → zget lo' 0 = some (.ref 0) → zI lo' 1 (b : Int) → zI lo' 2 p → zI lo' 3 f → zI lo' 4 o → zI lo' 5 g → zI lo' 6 x → zX l Γ false (d + 1) (zhd 254) (zMQ' Γ false (zhd 254) Kp) 0 0 87 lo' [] h') : zX l Γ false (d + 1) (zhd 254) (zMQ' Γ false (zhd 254) Kp) 0 0 80 lo [.int x_x] h := by
  refine sye_ok (mi := 254) (pc := 80) (fun i => [(b : Int), p, f, o, g, x].getD i 0) (zall_r kmY3_b h_b) (fun _ _ hc _ => nomatch hc) hd ⟨l0, zIm l1 (by show (b : Int) ≤ (b : Int); omega) (by show (b : Int) ≤ (b : Int); omega), zIm l2 (by show 0 ≤ p; omega) (by show p ≤ 9; omega), zIm l3 (by show 0 ≤ f; omega) (by show f ≤ 15; omega), zIm l4 (by show 0 ≤ o; omega) (by show o ≤ 15; omega), zIm l5 (by show 0 ≤ g; omega) (by show g ≤ 99; omega), trivial⟩ ⟨x_x, _, rfl, e_x, ⟨by show 0 ≤ x; omega, by show x ≤ 99; omega⟩, rfl⟩ ⟨(fun _ hc => nomatch hc), (fun _ hc => nomatch hc), (fun _ hc => nomatch hc), Or.inl rfl⟩ trivial trivial (fun _ hc => nomatch hc) hi ?_ ?_
  · intro e he lo' st' h' hp hi' hm
    rcases List.mem_cons.mp he with rfl | he
    · obtain ⟨p1, p2, -, hz⟩ := hp
      obtain ⟨⟨z1, z2, z3, z4⟩, z5, z6⟩ := hz
      have c0 : 0 ≤ -g + x := by have q_ : (0 : Int) ≤ ((-1) * g + (1 * x + 0)) + 0 := z4 ([(4, (-1)), (5, 1)], 0) (List.mem_of_getElem? (i := 0) rfl); omega
      have o0 : zget lo' 0 = some (.ref 0) := locR (p2 (0, .inr (.inl 0)) (List.mem_of_getElem? (i := 0) rfl))
      have o1 : zI lo' 1 (b : Int) := zI_of (p2 (1, .inl sf32) (List.mem_of_getElem? (i := 1) rfl)) (z3 (1, ([], (b : Int))) (List.mem_of_getElem? (i := 0) rfl)) (show 0 + (b : Int) = (b : Int) from by omega)
      have o2 : zI lo' 2 p := zI_of (p2 (2, .inl sf32) (List.mem_of_getElem? (i := 2) rfl)) (z3 (2, ([(1, 1)], 0)) (List.mem_of_getElem? (i := 1) rfl)) (show (1 * p + 0) + 0 = p from by omega)
      have o3 : zI lo' 3 f := zI_of (p2 (3, .inl sf32) (List.mem_of_getElem? (i := 3) rfl)) (z3 (3, ([(2, 1)], 0)) (List.mem_of_getElem? (i := 2) rfl)) (show (1 * f + 0) + 0 = f from by omega)
      have o4 : zI lo' 4 o := zI_of (p2 (4, .inl sf32) (List.mem_of_getElem? (i := 4) rfl)) (z3 (4, ([(3, 1)], 0)) (List.mem_of_getElem? (i := 3) rfl)) (show (1 * o + 0) + 0 = o from by omega)
      have o5 : zI lo' 5 g := zI_of (p2 (5, .inl sf32) (List.mem_of_getElem? (i := 5) rfl)) (z3 (5, ([(4, 1)], 0)) (List.mem_of_getElem? (i := 4) rfl)) (show (1 * g + 0) + 0 = g from by omega)
      have o6 : zI lo' 6 g := zI_of (p2 (6, .inl sf32) (List.mem_of_getElem? (i := 6) rfl)) (z3 (6, ([(4, 1)], 0)) (List.mem_of_getElem? (i := 5) rfl)) (show (1 * g + 0) + 0 = g from by omega)
      have p1 : _ = [] := p1
      subst p1
      exact hE0 lo' h' hi' hm c0 o0 o1 o2 o3 o4 o5 o6
    rcases List.mem_cons.mp he with rfl | he
    · obtain ⟨p1, p2, -, hz⟩ := hp
      obtain ⟨⟨z1, z2, z3, z4⟩, z5, z6⟩ := hz
      have c0 : 0 ≤ g - x - 1 := by have q_ : (0 : Int) ≤ (1 * g + ((-1) * x + 0)) + (-1) := z4 ([(4, 1), (5, (-1))], (-1)) (List.mem_of_getElem? (i := 0) rfl); omega
      have o0 : zget lo' 0 = some (.ref 0) := locR (p2 (0, .inr (.inl 0)) (List.mem_of_getElem? (i := 0) rfl))
      have o1 : zI lo' 1 (b : Int) := zI_of (p2 (1, .inl sf32) (List.mem_of_getElem? (i := 1) rfl)) (z3 (1, ([], (b : Int))) (List.mem_of_getElem? (i := 0) rfl)) (show 0 + (b : Int) = (b : Int) from by omega)
      have o2 : zI lo' 2 p := zI_of (p2 (2, .inl sf32) (List.mem_of_getElem? (i := 2) rfl)) (z3 (2, ([(1, 1)], 0)) (List.mem_of_getElem? (i := 1) rfl)) (show (1 * p + 0) + 0 = p from by omega)
      have o3 : zI lo' 3 f := zI_of (p2 (3, .inl sf32) (List.mem_of_getElem? (i := 3) rfl)) (z3 (3, ([(2, 1)], 0)) (List.mem_of_getElem? (i := 2) rfl)) (show (1 * f + 0) + 0 = f from by omega)
      have o4 : zI lo' 4 o := zI_of (p2 (4, .inl sf32) (List.mem_of_getElem? (i := 4) rfl)) (z3 (4, ([(3, 1)], 0)) (List.mem_of_getElem? (i := 3) rfl)) (show (1 * o + 0) + 0 = o from by omega)
      have o5 : zI lo' 5 g := zI_of (p2 (5, .inl sf32) (List.mem_of_getElem? (i := 5) rfl)) (z3 (5, ([(4, 1)], 0)) (List.mem_of_getElem? (i := 4) rfl)) (show (1 * g + 0) + 0 = g from by omega)
      have o6 : zI lo' 6 x := zI_of (p2 (6, .inl sf32) (List.mem_of_getElem? (i := 6) rfl)) (z3 (6, ([(5, 1)], 0)) (List.mem_of_getElem? (i := 5) rfl)) (show (1 * x + 0) + 0 = x from by omega)
      have p1 : _ = [] := p1
      subst p1
      exact hE1 lo' h' hi' hm c0 o0 o1 o2 o3 o4 o5 o6
    cases he
  · intro e he r' h' hp hi' hm
    cases he
def kmY4_L (b : Nat) (f : Nat) : List (Nat × sT) := [(0, .inr (.inl 0)), (1, .inl ((b : Int), (b : Int))), (2, .inl (0, 9)), (3, .inl ((8 * (b : Int) + (f : Int)), (8 * (b : Int) + (f : Int)))), (4, .inl (0, 15)), (5, .inl (0, 99)), (6, .inl (0, 99))]
def kmY4_S (b : Nat) (f : Nat) : List sT := []
def kmY4_A (b : Nat) (f : Nat) : sAs := ([], [], [], [])
def kmY4_P (b : Nat) (f : Nat) : List sP0 := [(30, (none, (((8 * b + f) : Nat) : Int)), (0, 999)), (35, (none, ((b : Nat) : Int)), (0, 2000000000))]
def kmY4_G (b : Nat) (f : Nat) : List sP0 := []
def kmY4_B (b : Nat) (f : Nat) : List (Nat × Nat × Int) := [(6, 4, 0)]
def kmY4_m (b : Nat) (f : Nat) : sM := [(30, (8 * b + f), (8 * b + f + 1)), (35, b, (b + 1))]
def kmY4_e0 (b : Nat) (f : Nat) : sXe := (109, [], [(0, .inr (.inl 0)), (1, .inl sf32), (2, .inl sf32), (3, .inl sf32), (4, .inl sf32), (5, .inl sf32), (6, .inl sf32)], sA0, [], ([(35, (none, ((b : Nat) : Int)), ([(5, 1), (7, 1)], 0)), (30, (none, (((8 * b + f) : Nat) : Int)), ([(4, (-1)), (6, 1)], 0))], [], [(1, ([], (b : Int))), (2, ([(1, 1)], 0)), (3, ([], (8 * (b : Int) + (f : Int)))), (4, ([(3, 1)], 0)), (5, ([(4, 1)], 0)), (6, ([(5, 1)], 0))], []), [], [])
theorem kmY4_b : ((List.range 2).all fun b => ((List.range 8).all fun f => syeB swM sT0 (kmY4_m b f) 400 0 254 (kmY4_L b f) (kmY4_S b f) (kmY4_A b f) (kmY4_P b f) (kmY4_G b f) (kmY4_B b f) 87 [kmY4_e0 b f] [])) = true := by decide +kernel
theorem kmY4 {l : Launch} {Γ : zG} {d : Nat} (hd : 0 ≤ d) {Kp : Option Value → zH → Prop} {lo : zL} {h : zH} {b : Nat} (h_b : b < 2) {f : Nat} (h_f : f < 8) {p o g x bl tx : Int} (hi : sInv swM h) (b_p : 0 ≤ p ∧ p ≤ 9) (b_o : 0 ≤ o ∧ o ≤ 15) (b_g : 0 ≤ g ∧ g ≤ 99) (b_x : 0 ≤ x ∧ x ≤ 99) (b_bl : 0 ≤ bl ∧ bl ≤ 999) (b_tx : 0 ≤ tx ∧ tx ≤ 2000000000) (l0 : zget lo 0 = some (.ref 0)) (l1 : zI lo 1 (b : Int)) (l2 : zI lo 2 p) (l3 : zI lo 3 (8 * (b : Int) + (f : Int))) (l4 : zI lo 4 o) (l5 : zI lo 5 g) (l6 : zI lo 6 x) (p_bl : pI h 30 (8 * b + f) = bl) (p_tx : pI h 35 b = tx) (d0 : 0 ≤ bl - g)
    (hE0 : ∀ (lo' : zL) (h' : zH), sInv swM h' → sMd (kmY4_m b f) h h' → pI h' 35 b = x + tx → pI h' 30 (8 * b + f) = -g + bl → zget lo' 0 = some (.ref 0) → zI lo' 1 (b : Int) → zI lo' 2 p → zI lo' 3 (8 * (b : Int) + (f : Int)) → zI lo' 4 o → zI lo' 5 g → zI lo' 6 x → zX l Γ false (d + 1) (zhd 254) (zMQ' Γ false (zhd 254) Kp) 0 0 109 lo' [] h') : zX l Γ false (d + 1) (zhd 254) (zMQ' Γ false (zhd 254) Kp) 0 0 87 lo [] h := by
  refine sye_ok (mi := 254) (pc := 87) (fun i => [(b : Int), p, (8 * (b : Int) + (f : Int)), o, g, x, bl, tx].getD i 0) (zall_r (zall_r kmY4_b h_b) h_f) (fun _ _ hc _ => nomatch hc) hd ⟨l0, zIm l1 (by show (b : Int) ≤ (b : Int); omega) (by show (b : Int) ≤ (b : Int); omega), zIm l2 (by show 0 ≤ p; omega) (by show p ≤ 9; omega), zIm l3 (by show (8 * (b : Int) + (f : Int)) ≤ (8 * (b : Int) + (f : Int)); omega) (by show (8 * (b : Int) + (f : Int)) ≤ (8 * (b : Int) + (f : Int)); omega), zIm l4 (by show 0 ≤ o; omega) (by show o ≤ 15; omega), zIm l5 (by show 0 ≤ g; omega) (by show g ≤ 99; omega), zIm l6 (by show 0 ≤ x; omega) (by show x ≤ 99; omega), trivial⟩ rfl ⟨(fun _ hc => nomatch hc), (fun _ hc => nomatch hc), (fun _ hc => nomatch hc), Or.inl rfl⟩ ⟨⟨p_bl, by show 0 ≤ bl; omega, by show bl ≤ 999; omega⟩, ⟨p_tx, by show 0 ≤ tx; omega, by show tx ≤ 2000000000; omega⟩, trivial⟩ trivial (sfm d0 (fun _ hc => nomatch hc)) hi ?_ ?_
  · intro e he lo' st' h' hp hi' hm
    rcases List.mem_cons.mp he with rfl | he
    · obtain ⟨p1, p2, -, hz⟩ := hp
      obtain ⟨⟨z1, z2, z3, z4⟩, z5, z6⟩ := hz
      have k0 : pI h' 35 b = x + tx := (show pI h' 35 b = (1 * x + (1 * tx + 0)) + 0 from z1 (35, (none, ((b : Nat) : Int)), ([(5, 1), (7, 1)], 0)) (List.mem_of_getElem? (i := 0) rfl)).trans (by omega)
      have k1 : pI h' 30 (8 * b + f) = -g + bl := (show pI h' 30 (8 * b + f) = ((-1) * g + (1 * bl + 0)) + 0 from z1 (30, (none, (((8 * b + f) : Nat) : Int)), ([(4, (-1)), (6, 1)], 0)) (List.mem_of_getElem? (i := 1) rfl)).trans (by omega)
      have o0 : zget lo' 0 = some (.ref 0) := locR (p2 (0, .inr (.inl 0)) (List.mem_of_getElem? (i := 0) rfl))
      have o1 : zI lo' 1 (b : Int) := zI_of (p2 (1, .inl sf32) (List.mem_of_getElem? (i := 1) rfl)) (z3 (1, ([], (b : Int))) (List.mem_of_getElem? (i := 0) rfl)) (show 0 + (b : Int) = (b : Int) from by omega)
      have o2 : zI lo' 2 p := zI_of (p2 (2, .inl sf32) (List.mem_of_getElem? (i := 2) rfl)) (z3 (2, ([(1, 1)], 0)) (List.mem_of_getElem? (i := 1) rfl)) (show (1 * p + 0) + 0 = p from by omega)
      have o3 : zI lo' 3 (8 * (b : Int) + (f : Int)) := zI_of (p2 (3, .inl sf32) (List.mem_of_getElem? (i := 3) rfl)) (z3 (3, ([], (8 * (b : Int) + (f : Int)))) (List.mem_of_getElem? (i := 2) rfl)) (show 0 + (8 * (b : Int) + (f : Int)) = (8 * (b : Int) + (f : Int)) from by omega)
      have o4 : zI lo' 4 o := zI_of (p2 (4, .inl sf32) (List.mem_of_getElem? (i := 4) rfl)) (z3 (4, ([(3, 1)], 0)) (List.mem_of_getElem? (i := 3) rfl)) (show (1 * o + 0) + 0 = o from by omega)
      have o5 : zI lo' 5 g := zI_of (p2 (5, .inl sf32) (List.mem_of_getElem? (i := 5) rfl)) (z3 (5, ([(4, 1)], 0)) (List.mem_of_getElem? (i := 4) rfl)) (show (1 * g + 0) + 0 = g from by omega)
      have o6 : zI lo' 6 x := zI_of (p2 (6, .inl sf32) (List.mem_of_getElem? (i := 6) rfl)) (z3 (6, ([(5, 1)], 0)) (List.mem_of_getElem? (i := 5) rfl)) (show (1 * x + 0) + 0 = x from by omega)
      have p1 : _ = [] := p1
      subst p1
      exact hE0 lo' h' hi' hm k0 k1 o0 o1 o2 o3 o4 o5 o6
    cases he
  · intro e he r' h' hp hi' hm
    cases he
def kmY5_L (b : Nat) (q : Nat) : List (Nat × sT) := [(0, .inr (.inl 0)), (1, .inl ((b : Int), (b : Int))), (2, .inl (0, 9)), (4, .inl ((8 * (b : Int) + (q : Int)), (8 * (b : Int) + (q : Int)))), (5, .inl (0, 99)), (6, .inl (0, 99))]
def kmY5_S (b : Nat) (q : Nat) : List sT := []
def kmY5_A (b : Nat) (q : Nat) : sAs := ([], [], [], [])
def kmY5_P (b : Nat) (q : Nat) : List sP0 := [(29, (none, (((8 * b + q) : Nat) : Int)), (0, 999))]
def kmY5_G (b : Nat) (q : Nat) : List sP0 := []
def kmY5_B (b : Nat) (q : Nat) : List (Nat × Nat × Int) := [(3, 4, 0)]
def kmY5_m (b : Nat) (q : Nat) : sM := [(29, (8 * b + q), (8 * b + q + 1))]
def kmY5_e0 (b : Nat) (q : Nat) : sXe := (135, [], [(0, .inr (.inl 0)), (1, .inl sf32), (2, .inl sf32), (5, .inl sf32)], sA0, [], ([(29, (none, (((8 * b + q) : Nat) : Int)), ([(3, 1), (4, (-1)), (5, 1)], 0))], [], [(1, ([], (b : Int))), (2, ([(1, 1)], 0)), (5, ([(3, 1)], 0))], [([(3, (-1)), (4, 1), (5, (-1))], 999)]), [], [])
def kmY5_e1 (b : Nat) (q : Nat) : sXe := (135, [], [(0, .inr (.inl 0)), (1, .inl sf32), (2, .inl sf32), (5, .inl sf32)], sA0, [], ([(29, (none, (((8 * b + q) : Nat) : Int)), ([], 999))], [], [(1, ([], (b : Int))), (2, ([(1, 1)], 0)), (5, ([(3, 1)], 0))], [([(3, 1), (4, (-1)), (5, 1)], (-1000))]), [], [])
theorem kmY5_b : ((List.range 2).all fun b => ((List.range 8).all fun q => syeB swM sT0 (kmY5_m b q) 400 1 254 (kmY5_L b q) (kmY5_S b q) (kmY5_A b q) (kmY5_P b q) (kmY5_G b q) (kmY5_B b q) 109 [kmY5_e0 b q, kmY5_e1 b q] [])) = true := by decide +kernel
theorem kmY5 {l : Launch} {Γ : zG} {d : Nat} (hd : 1 ≤ d) {Kp : Option Value → zH → Prop} {lo : zL} {h : zH} {b : Nat} (h_b : b < 2) {q : Nat} (h_q : q < 8) {p g x ab : Int} (hi : sInv swM h) (b_p : 0 ≤ p ∧ p ≤ 9) (b_g : 0 ≤ g ∧ g ≤ 99) (b_x : 0 ≤ x ∧ x ≤ 99) (b_ab : 0 ≤ ab ∧ ab ≤ 999) (l0 : zget lo 0 = some (.ref 0)) (l1 : zI lo 1 (b : Int)) (l2 : zI lo 2 p) (l4 : zI lo 4 (8 * (b : Int) + (q : Int))) (l5 : zI lo 5 g) (l6 : zI lo 6 x) (p_ab : pI h 29 (8 * b + q) = ab) (d0 : 0 ≤ g - x)
    (hE0 : ∀ (lo' : zL) (h' : zH), sInv swM h' → sMd (kmY5_m b q) h h' → 0 ≤ -g + x - ab + 999 → pI h' 29 (8 * b + q) = g - x + ab → zget lo' 0 = some (.ref 0) → zI lo' 1 (b : Int) → zI lo' 2 p → zI lo' 5 g → zX l Γ false (d + 1) (zhd 254) (zMQ' Γ false (zhd 254) Kp) 0 0 135 lo' [] h')
    (hE1 : ∀ (lo' : zL) (h' : zH), sInv swM h' → sMd (kmY5_m b q) h h' → 0 ≤ g - x + ab - 1000 → pI h' 29 (8 * b + q) = 999 → zget lo' 0 = some (.ref 0) → zI lo' 1 (b : Int) → zI lo' 2 p → zI lo' 5 g → zX l Γ false (d + 1) (zhd 254) (zMQ' Γ false (zhd 254) Kp) 0 0 135 lo' [] h') : zX l Γ false (d + 1) (zhd 254) (zMQ' Γ false (zhd 254) Kp) 0 0 109 lo [] h := by
  refine sye_ok (mi := 254) (pc := 109) (fun i => [(b : Int), p, (8 * (b : Int) + (q : Int)), g, x, ab].getD i 0) (zall_r (zall_r kmY5_b h_b) h_q) (fun _ _ hc _ => nomatch hc) hd ⟨l0, zIm l1 (by show (b : Int) ≤ (b : Int); omega) (by show (b : Int) ≤ (b : Int); omega), zIm l2 (by show 0 ≤ p; omega) (by show p ≤ 9; omega), zIm l4 (by show (8 * (b : Int) + (q : Int)) ≤ (8 * (b : Int) + (q : Int)); omega) (by show (8 * (b : Int) + (q : Int)) ≤ (8 * (b : Int) + (q : Int)); omega), zIm l5 (by show 0 ≤ g; omega) (by show g ≤ 99; omega), zIm l6 (by show 0 ≤ x; omega) (by show x ≤ 99; omega), trivial⟩ rfl ⟨(fun _ hc => nomatch hc), (fun _ hc => nomatch hc), (fun _ hc => nomatch hc), Or.inl rfl⟩ ⟨⟨p_ab, by show 0 ≤ ab; omega, by show ab ≤ 999; omega⟩, trivial⟩ trivial (sfm d0 (fun _ hc => nomatch hc)) hi ?_ ?_
  · intro e he lo' st' h' hp hi' hm
    rcases List.mem_cons.mp he with rfl | he
    · obtain ⟨p1, p2, -, hz⟩ := hp
      obtain ⟨⟨z1, z2, z3, z4⟩, z5, z6⟩ := hz
      have c0 : 0 ≤ -g + x - ab + 999 := by have q_ : (0 : Int) ≤ ((-1) * g + (1 * x + ((-1) * ab + 0))) + 999 := z4 ([(3, (-1)), (4, 1), (5, (-1))], 999) (List.mem_of_getElem? (i := 0) rfl); omega
      have k0 : pI h' 29 (8 * b + q) = g - x + ab := (show pI h' 29 (8 * b + q) = (1 * g + ((-1) * x + (1 * ab + 0))) + 0 from z1 (29, (none, (((8 * b + q) : Nat) : Int)), ([(3, 1), (4, (-1)), (5, 1)], 0)) (List.mem_of_getElem? (i := 0) rfl)).trans (by omega)
      have o0 : zget lo' 0 = some (.ref 0) := locR (p2 (0, .inr (.inl 0)) (List.mem_of_getElem? (i := 0) rfl))
      have o1 : zI lo' 1 (b : Int) := zI_of (p2 (1, .inl sf32) (List.mem_of_getElem? (i := 1) rfl)) (z3 (1, ([], (b : Int))) (List.mem_of_getElem? (i := 0) rfl)) (show 0 + (b : Int) = (b : Int) from by omega)
      have o2 : zI lo' 2 p := zI_of (p2 (2, .inl sf32) (List.mem_of_getElem? (i := 2) rfl)) (z3 (2, ([(1, 1)], 0)) (List.mem_of_getElem? (i := 1) rfl)) (show (1 * p + 0) + 0 = p from by omega)
      have o5 : zI lo' 5 g := zI_of (p2 (5, .inl sf32) (List.mem_of_getElem? (i := 3) rfl)) (z3 (5, ([(3, 1)], 0)) (List.mem_of_getElem? (i := 2) rfl)) (show (1 * g + 0) + 0 = g from by omega)
      have p1 : _ = [] := p1
      subst p1
      exact hE0 lo' h' hi' hm c0 k0 o0 o1 o2 o5
    rcases List.mem_cons.mp he with rfl | he
    · obtain ⟨p1, p2, -, hz⟩ := hp
      obtain ⟨⟨z1, z2, z3, z4⟩, z5, z6⟩ := hz
      have c0 : 0 ≤ g - x + ab - 1000 := by have q_ : (0 : Int) ≤ (1 * g + ((-1) * x + (1 * ab + 0))) + (-1000) := z4 ([(3, 1), (4, (-1)), (5, 1)], (-1000)) (List.mem_of_getElem? (i := 0) rfl); omega
      have k0 : pI h' 29 (8 * b + q) = 999 := (show pI h' 29 (8 * b + q) = 0 + 999 from z1 (29, (none, (((8 * b + q) : Nat) : Int)), ([], 999)) (List.mem_of_getElem? (i := 0) rfl)).trans (by omega)
      have o0 : zget lo' 0 = some (.ref 0) := locR (p2 (0, .inr (.inl 0)) (List.mem_of_getElem? (i := 0) rfl))
      have o1 : zI lo' 1 (b : Int) := zI_of (p2 (1, .inl sf32) (List.mem_of_getElem? (i := 1) rfl)) (z3 (1, ([], (b : Int))) (List.mem_of_getElem? (i := 0) rfl)) (show 0 + (b : Int) = (b : Int) from by omega)
      have o2 : zI lo' 2 p := zI_of (p2 (2, .inl sf32) (List.mem_of_getElem? (i := 2) rfl)) (z3 (2, ([(1, 1)], 0)) (List.mem_of_getElem? (i := 1) rfl)) (show (1 * p + 0) + 0 = p from by omega)
      have o5 : zI lo' 5 g := zI_of (p2 (5, .inl sf32) (List.mem_of_getElem? (i := 3) rfl)) (z3 (5, ([(3, 1)], 0)) (List.mem_of_getElem? (i := 2) rfl)) (show (1 * g + 0) + 0 = g from by omega)
      have p1 : _ = [] := p1
      subst p1
      exact hE1 lo' h' hi' hm c0 k0 o0 o1 o2 o5
    cases he
  · intro e he r' h' hp hi' hm
    cases he
def kmY6_L (b : Nat) (p : Nat) : List (Nat × sT) := [(0, .inr (.inl 0)), (1, .inl ((b : Int), (b : Int))), (2, .inl ((p : Int), (p : Int))), (5, .inl (0, 99))]
def kmY6_S (b : Nat) (p : Nat) : List sT := []
def kmY6_A (b : Nat) (p : Nat) : sAs := ([], [], [], [])
def kmY6_P (b : Nat) (p : Nat) : List sP0 := [(17, (none, ((p : Nat) : Int)), (0, 99))]
def kmY6_G (b : Nat) (p : Nat) : List sP0 := []
def kmY6_B (b : Nat) (p : Nat) : List (Nat × Nat × Int) := []
def kmY6_m (b : Nat) (p : Nat) : sM := [(34, (10 * b + p), (10 * b + p + 1))]
def kmY6_r0 (b : Nat) (p : Nat) : sXr := (none, sA0, [], ([(34, (none, (((10 * b + p) : Nat) : Int)), ([], 1))], [], [], [([(2, 1), (3, (-1))], 0)]), [], [])
def kmY6_r1 (b : Nat) (p : Nat) : sXr := (none, sA0, [], ([(34, (none, (((10 * b + p) : Nat) : Int)), ([], 2))], [], [], [([(2, (-1)), (3, 1)], (-1))]), [], [])
theorem kmY6_b : ((List.range 2).all fun b => ((List.range 10).all fun p => syeB swM sT0 (kmY6_m b p) 400 0 254 (kmY6_L b p) (kmY6_S b p) (kmY6_A b p) (kmY6_P b p) (kmY6_G b p) (kmY6_B b p) 135 [] [kmY6_r0 b p, kmY6_r1 b p])) = true := by decide +kernel
theorem kmY6 {l : Launch} {Γ : zG} {d : Nat} (hd : 0 ≤ d) {Kp : Option Value → zH → Prop} {lo : zL} {h : zH} {b : Nat} (h_b : b < 2) {p : Nat} (h_p : p < 10) {g a : Int} (hi : sInv swM h) (b_g : 0 ≤ g ∧ g ≤ 99) (b_a : 0 ≤ a ∧ a ≤ 99) (l0 : zget lo 0 = some (.ref 0)) (l1 : zI lo 1 (b : Int)) (l2 : zI lo 2 (p : Int)) (l5 : zI lo 5 g) (p_a : pI h 17 p = a)
    (hR0 : ∀ (h' : zH), sInv swM h' → sMd (kmY6_m b p) h h' → 0 ≤ g - a → pI h' 34 (10 * b + p) = 1 → Kp none h')
    (hR1 : ∀ (h' : zH), sInv swM h' → sMd (kmY6_m b p) h h' → 0 ≤ -g + a - 1 → pI h' 34 (10 * b + p) = 2 → Kp none h') : zX l Γ false (d + 1) (zhd 254) (zMQ' Γ false (zhd 254) Kp) 0 0 135 lo [] h := by
  refine sye_ok (mi := 254) (pc := 135) (fun i => [(b : Int), (p : Int), g, a].getD i 0) (zall_r (zall_r kmY6_b h_b) h_p) (fun _ _ hc _ => nomatch hc) hd ⟨l0, zIm l1 (by show (b : Int) ≤ (b : Int); omega) (by show (b : Int) ≤ (b : Int); omega), zIm l2 (by show (p : Int) ≤ (p : Int); omega) (by show (p : Int) ≤ (p : Int); omega), zIm l5 (by show 0 ≤ g; omega) (by show g ≤ 99; omega), trivial⟩ rfl ⟨(fun _ hc => nomatch hc), (fun _ hc => nomatch hc), (fun _ hc => nomatch hc), Or.inl rfl⟩ ⟨⟨p_a, by show 0 ≤ a; omega, by show a ≤ 99; omega⟩, trivial⟩ trivial (fun _ hc => nomatch hc) hi ?_ ?_
  · intro e he lo' st' h' hp hi' hm
    cases he
  · intro e he r' h' hp hi' hm
    rcases List.mem_cons.mp he with rfl | he
    · obtain ⟨p1, -, hz⟩ := hp
      obtain ⟨⟨z1, z2, z3, z4⟩, z5, z6⟩ := hz
      have c0 : 0 ≤ g - a := by have q_ : (0 : Int) ≤ (1 * g + ((-1) * a + 0)) + 0 := z4 ([(2, 1), (3, (-1))], 0) (List.mem_of_getElem? (i := 0) rfl); omega
      have k0 : pI h' 34 (10 * b + p) = 1 := (show pI h' 34 (10 * b + p) = 0 + 1 from z1 (34, (none, (((10 * b + p) : Nat) : Int)), ([], 1)) (List.mem_of_getElem? (i := 0) rfl)).trans (by omega)
      have p1 : r' = none := p1
      subst p1
      exact hR0 h' hi' hm c0 k0
    rcases List.mem_cons.mp he with rfl | he
    · obtain ⟨p1, -, hz⟩ := hp
      obtain ⟨⟨z1, z2, z3, z4⟩, z5, z6⟩ := hz
      have c0 : 0 ≤ -g + a - 1 := by have q_ : (0 : Int) ≤ ((-1) * g + (1 * a + 0)) + (-1) := z4 ([(2, (-1)), (3, 1)], (-1)) (List.mem_of_getElem? (i := 0) rfl); omega
      have k0 : pI h' 34 (10 * b + p) = 2 := (show pI h' 34 (10 * b + p) = 0 + 2 from z1 (34, (none, (((10 * b + p) : Nat) : Int)), ([], 2)) (List.mem_of_getElem? (i := 0) rfl)).trans (by omega)
      have p1 : r' = none := p1
      subst p1
      exact hR1 h' hi' hm c0 k0
    cases he
def kmL_L (b : Nat) (g : Nat) : List sT := [.inr (.inl 0), .inl ((b : Int), (b : Int)), .inl ((g : Int), (g : Int))]
def kmL_A (b : Nat) (g : Nat) : sAs := ([], [], [], [])
def kmL_P (b : Nat) (g : Nat) : List sP0 := [(29, (none, (((8 * b + g) : Nat) : Int)), (0, 1998)), (30, (none, (((8 * b + g) : Nat) : Int)), (0, 1998)), (33, (none, (((8 * b + g) : Nat) : Int)), sf32), (31, (none, (((8 * b + g) : Nat) : Int)), (0, 1)), (36, (none, ((b : Nat) : Int)), sf32), (0, (none, 72), sf32), (0, (none, 73), (0, 9)), (10, (none, ((g : Nat) : Int)), sf32), (11, (none, ((g : Nat) : Int)), sf32)]
def kmL_G (b : Nat) (g : Nat) : List sP0 := []
def kmL_B (b : Nat) (g : Nat) : List (Nat × Nat × Int) := []
def kmL_m (b : Nat) (g : Nat) : sM := [(27, 0, 7)]
def kmL_r0 (b : Nat) (g : Nat) : sXr := (none, sA0, [(2, 27, ([], 6), ([], 0)), (2, 27, ([], 5), ([], 0)), (2, 27, ([], 4), ([], 0)), (2, 27, ([], 3), ([], 0)), (2, 27, ([], 2), ([], 0)), (2, 27, ([], 1), ([], 0)), (2, 27, ([], 0), ([], 0))], ([], [], [], [([(7, (-1))], (g : Int)), ([(7, 1)], (-1 * (g : Int))), ([(5, 1)], 0), ([(5, (-1))], 0)]), [], [(11, ([(6, 1)], 0)), (12, ([(4, 1)], 0)), (13, ([], 0)), (14, ([(10, 1)], 0)), (15, ([(8, 1)], 0)), (16, ([(3, 1)], 0)), (17, ([(2, 1)], 0))])
def kmL_r1 (b : Nat) (g : Nat) : sXr := (none, sA0, [(2, 27, ([], 6), ([], 0)), (2, 27, ([], 5), ([], 0)), (2, 27, ([], 4), ([], 0)), (2, 27, ([], 3), ([], 0)), (2, 27, ([], 2), ([], 0)), (2, 27, ([], 1), ([], 0)), (2, 27, ([], 0), ([], 0))], ([], [], [], [([(7, (-1))], (g : Int)), ([(7, 1)], (-1 * (g : Int)))]), [(([(5, 1)], 0), ([], 0))], [(11, ([(6, 1)], 0)), (12, ([(4, 1)], 0)), (13, ([], 1)), (14, ([(10, 1)], 0)), (15, ([(8, 1)], 0)), (16, ([(3, 1)], 0)), (17, ([(2, 1)], 0))])
def kmL_r2 (b : Nat) (g : Nat) : sXr := (none, sA0, [(2, 27, ([], 6), ([], 0)), (2, 27, ([], 5), ([], 0)), (2, 27, ([], 4), ([], 0)), (2, 27, ([], 3), ([], 0)), (2, 27, ([], 2), ([], 0)), (2, 27, ([], 1), ([], 0)), (2, 27, ([], 0), ([], 0))], ([], [], [], [([(5, 1)], 0), ([(5, (-1))], 0)]), [(([], (g : Int)), ([(7, 1)], 0))], [(11, ([(6, 1)], 0)), (12, ([(4, 1)], 0)), (13, ([], 0)), (14, ([(10, 1)], 0)), (15, ([(9, 1)], 0)), (16, ([(3, 1)], 0)), (17, ([(2, 1)], 0))])
def kmL_r3 (b : Nat) (g : Nat) : sXr := (none, sA0, [(2, 27, ([], 6), ([], 0)), (2, 27, ([], 5), ([], 0)), (2, 27, ([], 4), ([], 0)), (2, 27, ([], 3), ([], 0)), (2, 27, ([], 2), ([], 0)), (2, 27, ([], 1), ([], 0)), (2, 27, ([], 0), ([], 0))], ([], [], [], []), [(([], (g : Int)), ([(7, 1)], 0)), (([(5, 1)], 0), ([], 0))], [(11, ([(6, 1)], 0)), (12, ([(4, 1)], 0)), (13, ([], 1)), (14, ([(10, 1)], 0)), (15, ([(9, 1)], 0)), (16, ([(3, 1)], 0)), (17, ([(2, 1)], 0))])
theorem kmL_b : ((List.range 2).all fun b => ((List.range 8).all fun g => syfB swM sT0 (kmL_m b g) 400 1 238 (kmL_L b g) (kmL_A b g) (kmL_P b g) (kmL_G b g) (kmL_B b g) [] [kmL_r0 b g, kmL_r1 b g, kmL_r2 b g, kmL_r3 b g])) = true := by decide +kernel
theorem kmL {l : Launch} {Γ : zG} {d : Nat} (hd : 1 ≤ d) {Kp : Option Value → zH → Prop} {h : zH} {b : Nat} (h_b : b < 2) {g : Nat} (h_g : g < 8) {a bw pd w m og on nk co : Int} (hi : sInv swM h) (b_a : 0 ≤ a ∧ a ≤ 1998) (b_bw : 0 ≤ bw ∧ bw ≤ 1998) (b_pd : (-2147483648) ≤ pd ∧ pd ≤ 2147483647) (b_w : 0 ≤ w ∧ w ≤ 1) (b_m : (-2147483648) ≤ m ∧ m ≤ 2147483647) (b_og : (-2147483648) ≤ og ∧ og ≤ 2147483647) (b_on : 0 ≤ on ∧ on ≤ 9) (b_nk : (-2147483648) ≤ nk ∧ nk ≤ 2147483647) (b_co : (-2147483648) ≤ co ∧ co ≤ 2147483647) {x_bb : Int32} (e_bb : x_bb.toInt = (b : Int)) {x_gg : Int32} (e_gg : x_gg.toInt = (g : Int)) (p_a : pI h 29 (8 * b + g) = a) (p_bw : pI h 30 (8 * b + g) = bw) (p_pd : pI h 33 (8 * b + g) = pd) (p_w : pI h 31 (8 * b + g) = w) (p_m : pI h 36 b = m) (p_og : pI h 0 72 = og) (p_on : pI h 0 73 = on) (p_nk : pI h 10 g = nk) (p_co : pI h 11 g = co)
    (hR0 : ∀ (h' : zH) (u0 u1 u2 u3 u4 u5 u6 : Int), sInv swM h' → sMd (kmL_m b g) h h' → pL h' 27 6 = u0 → u0 = m → pL h' 27 5 = u1 → u1 = pd → pL h' 27 4 = u2 → u2 = 0 → pL h' 27 3 = u3 → u3 = co → pL h' 27 2 = u4 → u4 = on → pL h' 27 1 = u5 → u5 = bw → pL h' 27 0 = u6 → u6 = a → (g : Int) = og → w = 0 → Kp none h')
    (hR1 : ∀ (h' : zH) (u0 u1 u2 u3 u4 u5 u6 : Int), sInv swM h' → sMd (kmL_m b g) h h' → pL h' 27 6 = u0 → u0 = m → pL h' 27 5 = u1 → u1 = pd → pL h' 27 4 = u2 → u2 = 1 → pL h' 27 3 = u3 → u3 = co → pL h' 27 2 = u4 → u4 = on → pL h' 27 1 = u5 → u5 = bw → pL h' 27 0 = u6 → u6 = a → (g : Int) = og → w ≠ 0 → Kp none h')
    (hR2 : ∀ (h' : zH) (u0 u1 u2 u3 u4 u5 u6 : Int), sInv swM h' → sMd (kmL_m b g) h h' → pL h' 27 6 = u0 → u0 = m → pL h' 27 5 = u1 → u1 = pd → pL h' 27 4 = u2 → u2 = 0 → pL h' 27 3 = u3 → u3 = co → pL h' 27 2 = u4 → u4 = nk → pL h' 27 1 = u5 → u5 = bw → pL h' 27 0 = u6 → u6 = a → w = 0 → (g : Int) ≠ og → Kp none h')
    (hR3 : ∀ (h' : zH) (u0 u1 u2 u3 u4 u5 u6 : Int), sInv swM h' → sMd (kmL_m b g) h h' → pL h' 27 6 = u0 → u0 = m → pL h' 27 5 = u1 → u1 = pd → pL h' 27 4 = u2 → u2 = 1 → pL h' 27 3 = u3 → u3 = co → pL h' 27 2 = u4 → u4 = nk → pL h' 27 1 = u5 → u5 = bw → pL h' 27 0 = u6 → u6 = a → (g : Int) ≠ og → w ≠ 0 → Kp none h') : zSem l Γ false (d + 1) (zhd 238) [.ref 0, .int x_bb, .int x_gg] h Kp := by
  refine syf_ok (mi := 238) (fun i => [(b : Int), (g : Int), a, bw, pd, w, m, og, on, nk, co].getD i 0) (zall_r (zall_r kmL_b h_b) h_g) (fun _ _ hc _ => nomatch hc) hd ⟨_, _, rfl, rfl, ⟨_, _, rfl, ⟨x_bb, rfl, by show (b : Int) ≤ x_bb.toInt; omega, by show x_bb.toInt ≤ (b : Int); omega⟩, ⟨_, _, rfl, ⟨x_gg, rfl, by show (g : Int) ≤ x_gg.toInt; omega, by show x_gg.toInt ≤ (g : Int); omega⟩, rfl⟩⟩⟩ ⟨rfl, ⟨x_bb, rfl, e_bb, by show (b : Int) ≤ (b : Int); omega, by show (b : Int) ≤ (b : Int); omega⟩, ⟨x_gg, rfl, e_gg, by show (g : Int) ≤ (g : Int); omega, by show (g : Int) ≤ (g : Int); omega⟩, trivial⟩ ⟨(fun _ hc => nomatch hc), (fun _ hc => nomatch hc), (fun _ hc => nomatch hc), Or.inl rfl⟩ ⟨⟨p_a, by show 0 ≤ a; omega, by show a ≤ 1998; omega⟩, ⟨p_bw, by show 0 ≤ bw; omega, by show bw ≤ 1998; omega⟩, ⟨p_pd, by show (-2147483648) ≤ pd; omega, by show pd ≤ 2147483647; omega⟩, ⟨p_w, by show 0 ≤ w; omega, by show w ≤ 1; omega⟩, ⟨p_m, by show (-2147483648) ≤ m; omega, by show m ≤ 2147483647; omega⟩, ⟨p_og, by show (-2147483648) ≤ og; omega, by show og ≤ 2147483647; omega⟩, ⟨p_on, by show 0 ≤ on; omega, by show on ≤ 9; omega⟩, ⟨p_nk, by show (-2147483648) ≤ nk; omega, by show nk ≤ 2147483647; omega⟩, ⟨p_co, by show (-2147483648) ≤ co; omega, by show co ≤ 2147483647; omega⟩, trivial⟩ trivial (fun _ hc => nomatch hc) hi ?_ ?_
  · intro e he lo' st' h' hp hi' hm
    cases he
  · intro e he r' h' hp hi' hm
    rcases List.mem_cons.mp he with rfl | he
    · obtain ⟨p1, -, hz⟩ := hp
      obtain ⟨u0, f0, hz⟩ := hz
      obtain ⟨u1, f1, hz⟩ := hz
      obtain ⟨u2, f2, hz⟩ := hz
      obtain ⟨u3, f3, hz⟩ := hz
      obtain ⟨u4, f4, hz⟩ := hz
      obtain ⟨u5, f5, hz⟩ := hz
      obtain ⟨u6, f6, hz⟩ := hz
      obtain ⟨⟨z1, z2, z3, z4⟩, z5, z6⟩ := hz
      have g0 : pL h' 27 6 = u0 := by
        rw [← (show ((0 + 6 : Int)).toNat = 6 from by omega)]
        exact f0
      have j0 : u0 = m := (show u0 = (1 * m + 0) + 0 from z6 (11, ([(6, 1)], 0)) (List.mem_of_getElem? (i := 0) rfl)).trans (by omega)
      have g1 : pL h' 27 5 = u1 := by
        rw [← (show ((0 + 5 : Int)).toNat = 5 from by omega)]
        exact f1
      have j1 : u1 = pd := (show u1 = (1 * pd + 0) + 0 from z6 (12, ([(4, 1)], 0)) (List.mem_of_getElem? (i := 1) rfl)).trans (by omega)
      have g2 : pL h' 27 4 = u2 := by
        rw [← (show ((0 + 4 : Int)).toNat = 4 from by omega)]
        exact f2
      have j2 : u2 = 0 := (show u2 = 0 + 0 from z6 (13, ([], 0)) (List.mem_of_getElem? (i := 2) rfl)).trans (by omega)
      have g3 : pL h' 27 3 = u3 := by
        rw [← (show ((0 + 3 : Int)).toNat = 3 from by omega)]
        exact f3
      have j3 : u3 = co := (show u3 = (1 * co + 0) + 0 from z6 (14, ([(10, 1)], 0)) (List.mem_of_getElem? (i := 3) rfl)).trans (by omega)
      have g4 : pL h' 27 2 = u4 := by
        rw [← (show ((0 + 2 : Int)).toNat = 2 from by omega)]
        exact f4
      have j4 : u4 = on := (show u4 = (1 * on + 0) + 0 from z6 (15, ([(8, 1)], 0)) (List.mem_of_getElem? (i := 4) rfl)).trans (by omega)
      have g5 : pL h' 27 1 = u5 := by
        rw [← (show ((0 + 1 : Int)).toNat = 1 from by omega)]
        exact f5
      have j5 : u5 = bw := (show u5 = (1 * bw + 0) + 0 from z6 (16, ([(3, 1)], 0)) (List.mem_of_getElem? (i := 5) rfl)).trans (by omega)
      have g6 : pL h' 27 0 = u6 := by
        rw [← (show ((0 + 0 : Int)).toNat = 0 from by omega)]
        exact f6
      have j6 : u6 = a := (show u6 = (1 * a + 0) + 0 from z6 (17, ([(2, 1)], 0)) (List.mem_of_getElem? (i := 6) rfl)).trans (by omega)
      have c0 : (g : Int) = og := by have q_ : (0 : Int) ≤ ((-1) * og + 0) + (g : Int) := z4 ([(7, (-1))], (g : Int)) (List.mem_of_getElem? (i := 0) rfl); have q2_ : (0 : Int) ≤ (1 * og + 0) + (-1 * (g : Int)) := z4 ([(7, 1)], (-1 * (g : Int))) (List.mem_of_getElem? (i := 1) rfl); omega
      have c2 : w = 0 := by have q_ : (0 : Int) ≤ (1 * w + 0) + 0 := z4 ([(5, 1)], 0) (List.mem_of_getElem? (i := 2) rfl); have q2_ : (0 : Int) ≤ ((-1) * w + 0) + 0 := z4 ([(5, (-1))], 0) (List.mem_of_getElem? (i := 3) rfl); omega
      have p1 : r' = none := p1
      subst p1
      exact hR0 h' u0 u1 u2 u3 u4 u5 u6 hi' hm g0 j0 g1 j1 g2 j2 g3 j3 g4 j4 g5 j5 g6 j6 c0 c2
    rcases List.mem_cons.mp he with rfl | he
    · obtain ⟨p1, -, hz⟩ := hp
      obtain ⟨u0, f0, hz⟩ := hz
      obtain ⟨u1, f1, hz⟩ := hz
      obtain ⟨u2, f2, hz⟩ := hz
      obtain ⟨u3, f3, hz⟩ := hz
      obtain ⟨u4, f4, hz⟩ := hz
      obtain ⟨u5, f5, hz⟩ := hz
      obtain ⟨u6, f6, hz⟩ := hz
      obtain ⟨⟨z1, z2, z3, z4⟩, z5, z6⟩ := hz
      have g0 : pL h' 27 6 = u0 := by
        rw [← (show ((0 + 6 : Int)).toNat = 6 from by omega)]
        exact f0
      have j0 : u0 = m := (show u0 = (1 * m + 0) + 0 from z6 (11, ([(6, 1)], 0)) (List.mem_of_getElem? (i := 0) rfl)).trans (by omega)
      have g1 : pL h' 27 5 = u1 := by
        rw [← (show ((0 + 5 : Int)).toNat = 5 from by omega)]
        exact f1
      have j1 : u1 = pd := (show u1 = (1 * pd + 0) + 0 from z6 (12, ([(4, 1)], 0)) (List.mem_of_getElem? (i := 1) rfl)).trans (by omega)
      have g2 : pL h' 27 4 = u2 := by
        rw [← (show ((0 + 4 : Int)).toNat = 4 from by omega)]
        exact f2
      have j2 : u2 = 1 := (show u2 = 0 + 1 from z6 (13, ([], 1)) (List.mem_of_getElem? (i := 2) rfl)).trans (by omega)
      have g3 : pL h' 27 3 = u3 := by
        rw [← (show ((0 + 3 : Int)).toNat = 3 from by omega)]
        exact f3
      have j3 : u3 = co := (show u3 = (1 * co + 0) + 0 from z6 (14, ([(10, 1)], 0)) (List.mem_of_getElem? (i := 3) rfl)).trans (by omega)
      have g4 : pL h' 27 2 = u4 := by
        rw [← (show ((0 + 2 : Int)).toNat = 2 from by omega)]
        exact f4
      have j4 : u4 = on := (show u4 = (1 * on + 0) + 0 from z6 (15, ([(8, 1)], 0)) (List.mem_of_getElem? (i := 4) rfl)).trans (by omega)
      have g5 : pL h' 27 1 = u5 := by
        rw [← (show ((0 + 1 : Int)).toNat = 1 from by omega)]
        exact f5
      have j5 : u5 = bw := (show u5 = (1 * bw + 0) + 0 from z6 (16, ([(3, 1)], 0)) (List.mem_of_getElem? (i := 5) rfl)).trans (by omega)
      have g6 : pL h' 27 0 = u6 := by
        rw [← (show ((0 + 0 : Int)).toNat = 0 from by omega)]
        exact f6
      have j6 : u6 = a := (show u6 = (1 * a + 0) + 0 from z6 (17, ([(2, 1)], 0)) (List.mem_of_getElem? (i := 6) rfl)).trans (by omega)
      have c0 : (g : Int) = og := by have q_ : (0 : Int) ≤ ((-1) * og + 0) + (g : Int) := z4 ([(7, (-1))], (g : Int)) (List.mem_of_getElem? (i := 0) rfl); have q2_ : (0 : Int) ≤ (1 * og + 0) + (-1 * (g : Int)) := z4 ([(7, 1)], (-1 * (g : Int))) (List.mem_of_getElem? (i := 1) rfl); omega
      have n0 : w ≠ 0 := fun e_ => z5 (([(5, 1)], 0), ([], 0)) (List.mem_of_getElem? (i := 0) rfl) (by show (1 * w + 0) + 0 = 0 + 0; omega)
      have p1 : r' = none := p1
      subst p1
      exact hR1 h' u0 u1 u2 u3 u4 u5 u6 hi' hm g0 j0 g1 j1 g2 j2 g3 j3 g4 j4 g5 j5 g6 j6 c0 n0
    rcases List.mem_cons.mp he with rfl | he
    · obtain ⟨p1, -, hz⟩ := hp
      obtain ⟨u0, f0, hz⟩ := hz
      obtain ⟨u1, f1, hz⟩ := hz
      obtain ⟨u2, f2, hz⟩ := hz
      obtain ⟨u3, f3, hz⟩ := hz
      obtain ⟨u4, f4, hz⟩ := hz
      obtain ⟨u5, f5, hz⟩ := hz
      obtain ⟨u6, f6, hz⟩ := hz
      obtain ⟨⟨z1, z2, z3, z4⟩, z5, z6⟩ := hz
      have g0 : pL h' 27 6 = u0 := by
        rw [← (show ((0 + 6 : Int)).toNat = 6 from by omega)]
        exact f0
      have j0 : u0 = m := (show u0 = (1 * m + 0) + 0 from z6 (11, ([(6, 1)], 0)) (List.mem_of_getElem? (i := 0) rfl)).trans (by omega)
      have g1 : pL h' 27 5 = u1 := by
        rw [← (show ((0 + 5 : Int)).toNat = 5 from by omega)]
        exact f1
      have j1 : u1 = pd := (show u1 = (1 * pd + 0) + 0 from z6 (12, ([(4, 1)], 0)) (List.mem_of_getElem? (i := 1) rfl)).trans (by omega)
      have g2 : pL h' 27 4 = u2 := by
        rw [← (show ((0 + 4 : Int)).toNat = 4 from by omega)]
        exact f2
      have j2 : u2 = 0 := (show u2 = 0 + 0 from z6 (13, ([], 0)) (List.mem_of_getElem? (i := 2) rfl)).trans (by omega)
      have g3 : pL h' 27 3 = u3 := by
        rw [← (show ((0 + 3 : Int)).toNat = 3 from by omega)]
        exact f3
      have j3 : u3 = co := (show u3 = (1 * co + 0) + 0 from z6 (14, ([(10, 1)], 0)) (List.mem_of_getElem? (i := 3) rfl)).trans (by omega)
      have g4 : pL h' 27 2 = u4 := by
        rw [← (show ((0 + 2 : Int)).toNat = 2 from by omega)]
        exact f4
      have j4 : u4 = nk := (show u4 = (1 * nk + 0) + 0 from z6 (15, ([(9, 1)], 0)) (List.mem_of_getElem? (i := 4) rfl)).trans (by omega)
      have g5 : pL h' 27 1 = u5 := by
        rw [← (show ((0 + 1 : Int)).toNat = 1 from by omega)]
        exact f5
      have j5 : u5 = bw := (show u5 = (1 * bw + 0) + 0 from z6 (16, ([(3, 1)], 0)) (List.mem_of_getElem? (i := 5) rfl)).trans (by omega)
      have g6 : pL h' 27 0 = u6 := by
        rw [← (show ((0 + 0 : Int)).toNat = 0 from by omega)]
        exact f6
      have j6 : u6 = a := (show u6 = (1 * a + 0) + 0 from z6 (17, ([(2, 1)], 0)) (List.mem_of_getElem? (i := 6) rfl)).trans (by omega)
      have c0 : w = 0 := by have q_ : (0 : Int) ≤ (1 * w + 0) + 0 := z4 ([(5, 1)], 0) (List.mem_of_getElem? (i := 0) rfl); have q2_ : (0 : Int) ≤ ((-1) * w + 0) + 0 := z4 ([(5, (-1))], 0) (List.mem_of_getElem? (i := 1) rfl); omega
      have n0 : (g : Int) ≠ og := fun e_ => z5 (([], (g : Int)), ([(7, 1)], 0)) (List.mem_of_getElem? (i := 0) rfl) (by show 0 + (g : Int) = (1 * og + 0) + 0; omega)
      have p1 : r' = none := p1
      subst p1
      exact hR2 h' u0 u1 u2 u3 u4 u5 u6 hi' hm g0 j0 g1 j1 g2 j2 g3 j3 g4 j4 g5 j5 g6 j6 c0 n0
    rcases List.mem_cons.mp he with rfl | he
    · obtain ⟨p1, -, hz⟩ := hp
      obtain ⟨u0, f0, hz⟩ := hz
      obtain ⟨u1, f1, hz⟩ := hz
      obtain ⟨u2, f2, hz⟩ := hz
      obtain ⟨u3, f3, hz⟩ := hz
      obtain ⟨u4, f4, hz⟩ := hz
      obtain ⟨u5, f5, hz⟩ := hz
      obtain ⟨u6, f6, hz⟩ := hz
      obtain ⟨⟨z1, z2, z3, z4⟩, z5, z6⟩ := hz
      have g0 : pL h' 27 6 = u0 := by
        rw [← (show ((0 + 6 : Int)).toNat = 6 from by omega)]
        exact f0
      have j0 : u0 = m := (show u0 = (1 * m + 0) + 0 from z6 (11, ([(6, 1)], 0)) (List.mem_of_getElem? (i := 0) rfl)).trans (by omega)
      have g1 : pL h' 27 5 = u1 := by
        rw [← (show ((0 + 5 : Int)).toNat = 5 from by omega)]
        exact f1
      have j1 : u1 = pd := (show u1 = (1 * pd + 0) + 0 from z6 (12, ([(4, 1)], 0)) (List.mem_of_getElem? (i := 1) rfl)).trans (by omega)
      have g2 : pL h' 27 4 = u2 := by
        rw [← (show ((0 + 4 : Int)).toNat = 4 from by omega)]
        exact f2
      have j2 : u2 = 1 := (show u2 = 0 + 1 from z6 (13, ([], 1)) (List.mem_of_getElem? (i := 2) rfl)).trans (by omega)
      have g3 : pL h' 27 3 = u3 := by
        rw [← (show ((0 + 3 : Int)).toNat = 3 from by omega)]
        exact f3
      have j3 : u3 = co := (show u3 = (1 * co + 0) + 0 from z6 (14, ([(10, 1)], 0)) (List.mem_of_getElem? (i := 3) rfl)).trans (by omega)
      have g4 : pL h' 27 2 = u4 := by
        rw [← (show ((0 + 2 : Int)).toNat = 2 from by omega)]
        exact f4
      have j4 : u4 = nk := (show u4 = (1 * nk + 0) + 0 from z6 (15, ([(9, 1)], 0)) (List.mem_of_getElem? (i := 4) rfl)).trans (by omega)
      have g5 : pL h' 27 1 = u5 := by
        rw [← (show ((0 + 1 : Int)).toNat = 1 from by omega)]
        exact f5
      have j5 : u5 = bw := (show u5 = (1 * bw + 0) + 0 from z6 (16, ([(3, 1)], 0)) (List.mem_of_getElem? (i := 5) rfl)).trans (by omega)
      have g6 : pL h' 27 0 = u6 := by
        rw [← (show ((0 + 0 : Int)).toNat = 0 from by omega)]
        exact f6
      have j6 : u6 = a := (show u6 = (1 * a + 0) + 0 from z6 (17, ([(2, 1)], 0)) (List.mem_of_getElem? (i := 6) rfl)).trans (by omega)
      have n0 : (g : Int) ≠ og := fun e_ => z5 (([], (g : Int)), ([(7, 1)], 0)) (List.mem_of_getElem? (i := 0) rfl) (by show 0 + (g : Int) = (1 * og + 0) + 0; omega)
      have n1 : w ≠ 0 := fun e_ => z5 (([(5, 1)], 0), ([], 0)) (List.mem_of_getElem? (i := 1) rfl) (by show (1 * w + 0) + 0 = 0 + 0; omega)
      have p1 : r' = none := p1
      subst p1
      exact hR3 h' u0 u1 u2 u3 u4 u5 u6 hi' hm g0 j0 g1 j1 g2 j2 g3 j3 g4 j4 g5 j5 g6 j6 n0 n1
    cases he
def kmB0_L (j : Nat) : List sT := [.inr (.inl 0), .inl ((j : Int), (j : Int)), .inl (0, 9)]
def kmB0_A (j : Nat) : sAs := ([], [], [], [])
def kmB0_P (j : Nat) : List sP0 := [(19, (none, ((j : Nat) : Int)), (0, 1))]
def kmB0_G (j : Nat) : List sP0 := []
def kmB0_B (j : Nat) : List (Nat × Nat × Int) := []
def kmB0_m (j : Nat) : sM := []
def kmB0_e0 (j : Nat) : sXe := (13, [.inl sf32, .inr (.inl 0)], [(0, .inr (.inl 0)), (1, .inl sf32), (2, .inl sf32)], sA0, [], ([], [(0, ([], (j : Int)))], [(1, ([], (j : Int))), (2, ([(1, 1)], 0))], []), [(([(2, 1)], 0), ([], 0))], [])
def kmB0_r0 (j : Nat) : sXr := (some (.inl sf32), sA0, [], ([], [(0, ([(1, 1)], 0))], [], [([(2, 1)], 0), ([(2, (-1))], 0)]), [], [])
theorem kmB0_b : ((List.range 3).all fun j => syfB swM sT0 (kmB0_m j) 400 0 256 (kmB0_L j) (kmB0_A j) (kmB0_P j) (kmB0_G j) (kmB0_B j) [kmB0_e0 j] [kmB0_r0 j]) = true := by decide +kernel
theorem kmB0 {l : Launch} {Γ : zG} {d : Nat} (hd : 0 ≤ d) {Kp : Option Value → zH → Prop} {h : zH} {j : Nat} (h_j : j < 3) {wo lt : Int} (hi : sInv swM h) (b_wo : 0 ≤ wo ∧ wo ≤ 9) (b_lt : 0 ≤ lt ∧ lt ≤ 1) {x_jj : Int32} (e_jj : x_jj.toInt = (j : Int)) {x_wo : Int32} (e_wo : x_wo.toInt = wo) (p_lt : pI h 19 j = lt)
    (hE0 : ∀ (lo' : zL) (h' : zH) (y0 : Int32), sInv swM h' → sMd (kmB0_m j) h h' → lt ≠ 0 → zget lo' 0 = some (.ref 0) → zI lo' 1 (j : Int) → zI lo' 2 wo → y0.toInt = (j : Int) → zX l Γ false (d + 1) (zhd 256) (zMQ' Γ false (zhd 256) Kp) 0 0 13 lo' [.int y0, .ref 0] h')
    (hR0 : ∀ (h' : zH) (r_ : Int32), sInv swM h' → sMd (kmB0_m j) h h' → lt = 0 → r_.toInt = wo → Kp (some (.int r_)) h') : zSem l Γ false (d + 1) (zhd 256) [.ref 0, .int x_jj, .int x_wo] h Kp := by
  refine syf_ok (mi := 256) (fun i => [(j : Int), wo, lt].getD i 0) (zall_r kmB0_b h_j) (fun _ _ hc _ => nomatch hc) hd ⟨_, _, rfl, rfl, ⟨_, _, rfl, ⟨x_jj, rfl, by show (j : Int) ≤ x_jj.toInt; omega, by show x_jj.toInt ≤ (j : Int); omega⟩, ⟨_, _, rfl, ⟨x_wo, rfl, by show 0 ≤ x_wo.toInt; omega, by show x_wo.toInt ≤ 9; omega⟩, rfl⟩⟩⟩ ⟨rfl, ⟨x_jj, rfl, e_jj, by show (j : Int) ≤ (j : Int); omega, by show (j : Int) ≤ (j : Int); omega⟩, ⟨x_wo, rfl, e_wo, by show 0 ≤ wo; omega, by show wo ≤ 9; omega⟩, trivial⟩ ⟨(fun _ hc => nomatch hc), (fun _ hc => nomatch hc), (fun _ hc => nomatch hc), Or.inl rfl⟩ ⟨⟨p_lt, by show 0 ≤ lt; omega, by show lt ≤ 1; omega⟩, trivial⟩ trivial (fun _ hc => nomatch hc) hi ?_ ?_
  · intro e he lo' st' h' hp hi' hm
    rcases List.mem_cons.mp he with rfl | he
    · obtain ⟨p1, p2, -, hz⟩ := hp
      obtain ⟨⟨z1, z2, z3, z4⟩, z5, z6⟩ := hz
      have n0 : lt ≠ 0 := fun e_ => z5 (([(2, 1)], 0), ([], 0)) (List.mem_of_getElem? (i := 0) rfl) (by show (1 * lt + 0) + 0 = 0 + 0; omega)
      have o0 : zget lo' 0 = some (.ref 0) := locR (p2 (0, .inr (.inl 0)) (List.mem_of_getElem? (i := 0) rfl))
      have o1 : zI lo' 1 (j : Int) := zI_of (p2 (1, .inl sf32) (List.mem_of_getElem? (i := 1) rfl)) (z3 (1, ([], (j : Int))) (List.mem_of_getElem? (i := 0) rfl)) (show 0 + (j : Int) = (j : Int) from by omega)
      have o2 : zI lo' 2 wo := zI_of (p2 (2, .inl sf32) (List.mem_of_getElem? (i := 2) rfl)) (z3 (2, ([(1, 1)], 0)) (List.mem_of_getElem? (i := 1) rfl)) (show (1 * wo + 0) + 0 = wo from by omega)
      obtain ⟨_, _, rfl, ⟨y0, rfl, -⟩, p1⟩ := p1
      obtain ⟨_, _, rfl, hr, p1⟩ := p1
      have hr : _ = Value.ref 0 := hr
      subst hr
      have p1 : _ = [] := p1
      subst p1
      obtain ⟨v_, ev, hv⟩ := z2 (0, ([], (j : Int))) (List.mem_of_getElem? (i := 0) rfl)
      cases ev
      have s0 : y0.toInt = (j : Int) := (show y0.toInt = 0 + (j : Int) from hv).trans (by omega)
      exact hE0 lo' h' y0 hi' hm n0 o0 o1 o2 s0
    cases he
  · intro e he r' h' hp hi' hm
    rcases List.mem_cons.mp he with rfl | he
    · obtain ⟨p1, -, hz⟩ := hp
      obtain ⟨⟨z1, z2, z3, z4⟩, z5, z6⟩ := hz
      have c0 : lt = 0 := by have q_ : (0 : Int) ≤ (1 * lt + 0) + 0 := z4 ([(2, 1)], 0) (List.mem_of_getElem? (i := 0) rfl); have q2_ : (0 : Int) ≤ ((-1) * lt + 0) + 0 := z4 ([(2, (-1))], 0) (List.mem_of_getElem? (i := 1) rfl); omega
      obtain ⟨r_, rfl, hv⟩ := ansI p1 (z2 (0, ([(1, 1)], 0)) (List.mem_of_getElem? (i := 0) rfl))
      have s0 : r_.toInt = wo := (show r_.toInt = (1 * wo + 0) + 0 from hv).trans (by omega)
      exact hR0 h' r_ hi' hm c0 s0
    cases he
def kmB1_L : List (Nat × sT) := [(0, .inr (.inl 0)), (2, .inl (0, 9))]
def kmB1_S : List sT := [.inr (.inr sf64)]
def kmB1_A : sAs := ([], [], [], [])
def kmB1_P : List sP0 := [(0, (none, 56), (0, 1))]
def kmB1_G : List sP0 := []
def kmB1_B : List (Nat × Nat × Int) := []
def kmB1_m : sM := []
def kmB1_r0 : sXr := (some (.inl sf32), sA0, [], ([], [(0, ([(1, 1)], 0))], [], [([(1, 1)], 0), ([(1, (-1))], 99), ([(2, 1)], 0), ([(2, (-1))], 0)]), [], [])
def kmB1_r1 : sXr := (some (.inl sf32), sA0, [], ([], [(0, ([], 99))], [], [([(1, 1)], 0), ([(1, 1)], (-100)), ([(2, 1)], 0), ([(2, (-1))], 0)]), [], [])
def kmB1_r2 : sXr := (some (.inl sf32), sA0, [], ([], [(0, ([], 0))], [], [([(1, (-1))], (-1)), ([(2, 1)], 0), ([(2, (-1))], 0)]), [], [])
def kmB1_r3 : sXr := (some (.inl sf32), sA0, [], ([], [(0, ([(0, 1)], 0))], [], []), [(([(2, 1)], 0), ([], 0))], [])
theorem kmB1_b : syeB swM sT0 kmB1_m 400 0 256 kmB1_L kmB1_S kmB1_A kmB1_P kmB1_G kmB1_B 16 [] [kmB1_r0, kmB1_r1, kmB1_r2, kmB1_r3] = true := by decide +kernel
theorem kmB1 {l : Launch} {Γ : zG} {d : Nat} (hd : 0 ≤ d) {Kp : Option Value → zH → Prop} {lo : zL} {h : zH} {wo y er : Int} (hi : sInv swM h) (b_wo : 0 ≤ wo ∧ wo ≤ 9) (b_y : (-9223372036854775808) ≤ y ∧ y ≤ 9223372036854775807) (b_er : 0 ≤ er ∧ er ≤ 1) (l0 : zget lo 0 = some (.ref 0)) (l2 : zI lo 2 wo) {x_y : Int64} (e_y : x_y.toInt = y) (p_er : pI h 0 56 = er)
    (hR0 : ∀ (h' : zH) (r_ : Int32), sInv swM h' → sMd kmB1_m h h' → 0 ≤ y → 0 ≤ -y + 99 → er = 0 → r_.toInt = y → Kp (some (.int r_)) h')
    (hR1 : ∀ (h' : zH) (r_ : Int32), sInv swM h' → sMd kmB1_m h h' → 0 ≤ y → 0 ≤ y - 100 → er = 0 → r_.toInt = 99 → Kp (some (.int r_)) h')
    (hR2 : ∀ (h' : zH) (r_ : Int32), sInv swM h' → sMd kmB1_m h h' → 0 ≤ -y - 1 → er = 0 → r_.toInt = 0 → Kp (some (.int r_)) h')
    (hR3 : ∀ (h' : zH) (r_ : Int32), sInv swM h' → sMd kmB1_m h h' → er ≠ 0 → r_.toInt = wo → Kp (some (.int r_)) h') : zX l Γ false (d + 1) (zhd 256) (zMQ' Γ false (zhd 256) Kp) 0 0 16 lo [.long x_y] h := by
  refine sye_ok (mi := 256) (pc := 16) (fun i => [wo, y, er].getD i 0) kmB1_b (fun _ _ hc _ => nomatch hc) hd ⟨l0, zIm l2 (by show 0 ≤ wo; omega) (by show wo ≤ 9; omega), trivial⟩ ⟨x_y, _, rfl, e_y, ⟨by show (-9223372036854775808) ≤ y; omega, by show y ≤ 9223372036854775807; omega⟩, rfl⟩ ⟨(fun _ hc => nomatch hc), (fun _ hc => nomatch hc), (fun _ hc => nomatch hc), Or.inl rfl⟩ ⟨⟨p_er, by show 0 ≤ er; omega, by show er ≤ 1; omega⟩, trivial⟩ trivial (fun _ hc => nomatch hc) hi ?_ ?_
  · intro e he lo' st' h' hp hi' hm
    cases he
  · intro e he r' h' hp hi' hm
    rcases List.mem_cons.mp he with rfl | he
    · obtain ⟨p1, -, hz⟩ := hp
      obtain ⟨⟨z1, z2, z3, z4⟩, z5, z6⟩ := hz
      have c0 : 0 ≤ y := by have q_ : (0 : Int) ≤ (1 * y + 0) + 0 := z4 ([(1, 1)], 0) (List.mem_of_getElem? (i := 0) rfl); omega
      have c1 : 0 ≤ -y + 99 := by have q_ : (0 : Int) ≤ ((-1) * y + 0) + 99 := z4 ([(1, (-1))], 99) (List.mem_of_getElem? (i := 1) rfl); omega
      have c2 : er = 0 := by have q_ : (0 : Int) ≤ (1 * er + 0) + 0 := z4 ([(2, 1)], 0) (List.mem_of_getElem? (i := 2) rfl); have q2_ : (0 : Int) ≤ ((-1) * er + 0) + 0 := z4 ([(2, (-1))], 0) (List.mem_of_getElem? (i := 3) rfl); omega
      obtain ⟨r_, rfl, hv⟩ := ansI p1 (z2 (0, ([(1, 1)], 0)) (List.mem_of_getElem? (i := 0) rfl))
      have s0 : r_.toInt = y := (show r_.toInt = (1 * y + 0) + 0 from hv).trans (by omega)
      exact hR0 h' r_ hi' hm c0 c1 c2 s0
    rcases List.mem_cons.mp he with rfl | he
    · obtain ⟨p1, -, hz⟩ := hp
      obtain ⟨⟨z1, z2, z3, z4⟩, z5, z6⟩ := hz
      have c0 : 0 ≤ y := by have q_ : (0 : Int) ≤ (1 * y + 0) + 0 := z4 ([(1, 1)], 0) (List.mem_of_getElem? (i := 0) rfl); omega
      have c1 : 0 ≤ y - 100 := by have q_ : (0 : Int) ≤ (1 * y + 0) + (-100) := z4 ([(1, 1)], (-100)) (List.mem_of_getElem? (i := 1) rfl); omega
      have c2 : er = 0 := by have q_ : (0 : Int) ≤ (1 * er + 0) + 0 := z4 ([(2, 1)], 0) (List.mem_of_getElem? (i := 2) rfl); have q2_ : (0 : Int) ≤ ((-1) * er + 0) + 0 := z4 ([(2, (-1))], 0) (List.mem_of_getElem? (i := 3) rfl); omega
      obtain ⟨r_, rfl, hv⟩ := ansI p1 (z2 (0, ([], 99)) (List.mem_of_getElem? (i := 0) rfl))
      have s0 : r_.toInt = 99 := (show r_.toInt = 0 + 99 from hv).trans (by omega)
      exact hR1 h' r_ hi' hm c0 c1 c2 s0
    rcases List.mem_cons.mp he with rfl | he
    · obtain ⟨p1, -, hz⟩ := hp
      obtain ⟨⟨z1, z2, z3, z4⟩, z5, z6⟩ := hz
      have c0 : 0 ≤ -y - 1 := by have q_ : (0 : Int) ≤ ((-1) * y + 0) + (-1) := z4 ([(1, (-1))], (-1)) (List.mem_of_getElem? (i := 0) rfl); omega
      have c1 : er = 0 := by have q_ : (0 : Int) ≤ (1 * er + 0) + 0 := z4 ([(2, 1)], 0) (List.mem_of_getElem? (i := 1) rfl); have q2_ : (0 : Int) ≤ ((-1) * er + 0) + 0 := z4 ([(2, (-1))], 0) (List.mem_of_getElem? (i := 2) rfl); omega
      obtain ⟨r_, rfl, hv⟩ := ansI p1 (z2 (0, ([], 0)) (List.mem_of_getElem? (i := 0) rfl))
      have s0 : r_.toInt = 0 := (show r_.toInt = 0 + 0 from hv).trans (by omega)
      exact hR2 h' r_ hi' hm c0 c1 s0
    rcases List.mem_cons.mp he with rfl | he
    · obtain ⟨p1, -, hz⟩ := hp
      obtain ⟨⟨z1, z2, z3, z4⟩, z5, z6⟩ := hz
      have n0 : er ≠ 0 := fun e_ => z5 (([(2, 1)], 0), ([], 0)) (List.mem_of_getElem? (i := 0) rfl) (by show (1 * er + 0) + 0 = 0 + 0; omega)
      obtain ⟨r_, rfl, hv⟩ := ansI p1 (z2 (0, ([(0, 1)], 0)) (List.mem_of_getElem? (i := 0) rfl))
      have s0 : r_.toInt = wo := (show r_.toInt = (1 * wo + 0) + 0 from hv).trans (by omega)
      exact hR3 h' r_ hi' hm n0 s0
    cases he
def kmF0_L (b : Nat) (g : Nat) : List sT := [.inr (.inl 0), .inl ((b : Int), (b : Int)), .inl ((g : Int), (g : Int))]
def kmF0_A (b : Nat) (g : Nat) : sAs := ([], [], [], [])
def kmF0_P (b : Nat) (g : Nat) : List sP0 := [(31, (none, (((8 * b + g) : Nat) : Int)), (0, 1)), (0, (none, 72), sf32), (0, (none, 73), (0, 9)), (10, (none, ((g : Nat) : Int)), (0, 9))]
def kmF0_G (b : Nat) (g : Nat) : List sP0 := []
def kmF0_B (b : Nat) (g : Nat) : List (Nat × Nat × Int) := []
def kmF0_m (b : Nat) (g : Nat) : sM := []
def kmF0_e0 (b : Nat) (g : Nat) : sXe := (31, [.inl sf32, .inl sf32, .inr (.inl 0)], [(0, .inr (.inl 0))], sA0, [], ([], [(0, ([(4, 1)], 0)), (1, ([], 0))], [], [([(2, 1)], 0), ([(2, (-1))], 0), ([(3, (-1))], (g : Int)), ([(3, 1)], (-1 * (g : Int)))]), [], [])
def kmF0_e1 (b : Nat) (g : Nat) : sXe := (31, [.inl sf32, .inl sf32, .inr (.inl 0)], [(0, .inr (.inl 0))], sA0, [], ([], [(0, ([(5, 1)], 0)), (1, ([], 0))], [], [([(2, 1)], 0), ([(2, (-1))], 0)]), [(([], (g : Int)), ([(3, 1)], 0))], [])
def kmF0_e2 (b : Nat) (g : Nat) : sXe := (31, [.inl sf32, .inl sf32, .inr (.inl 0)], [(0, .inr (.inl 0))], sA0, [(0, 7, ([(4, 1)], 0), ([], 2))], ([], [(0, ([(6, 1)], 0)), (1, ([], 0))], [], [([(3, (-1))], (g : Int)), ([(3, 1)], (-1 * (g : Int)))]), [(([(2, 1)], 0), ([], 0))], [])
def kmF0_e3 (b : Nat) (g : Nat) : sXe := (31, [.inl sf32, .inl sf32, .inr (.inl 0)], [(0, .inr (.inl 0))], sA0, [(0, 7, ([(5, 1)], 0), ([], 2))], ([], [(0, ([(6, 1)], 0)), (1, ([], 0))], [], []), [(([(2, 1)], 0), ([], 0)), (([], (g : Int)), ([(3, 1)], 0))], [])
theorem kmF0_b : ((List.range 2).all fun b => ((List.range 8).all fun g => syfB swM sT0 (kmF0_m b g) 400 1 260 (kmF0_L b g) (kmF0_A b g) (kmF0_P b g) (kmF0_G b g) (kmF0_B b g) [kmF0_e0 b g, kmF0_e1 b g, kmF0_e2 b g, kmF0_e3 b g] [])) = true := by decide +kernel
theorem kmF0 {l : Launch} {Γ : zG} {d : Nat} (hd : 1 ≤ d) {Kp : Option Value → zH → Prop} {h : zH} {b : Nat} (h_b : b < 2) {g : Nat} (h_g : g < 8) {w og on nk : Int} (hi : sInv swM h) (b_w : 0 ≤ w ∧ w ≤ 1) (b_og : (-2147483648) ≤ og ∧ og ≤ 2147483647) (b_on : 0 ≤ on ∧ on ≤ 9) (b_nk : 0 ≤ nk ∧ nk ≤ 9) {x_bb : Int32} (e_bb : x_bb.toInt = (b : Int)) {x_gg : Int32} (e_gg : x_gg.toInt = (g : Int)) (p_w : pI h 31 (8 * b + g) = w) (p_og : pI h 0 72 = og) (p_on : pI h 0 73 = on) (p_nk : pI h 10 g = nk)
    (hE0 : ∀ (lo' : zL) (h' : zH) (y0 : Int32) (y1 : Int32), sInv swM h' → sMd (kmF0_m b g) h h' → w = 0 → (g : Int) = og → zget lo' 0 = some (.ref 0) → y0.toInt = on → y1.toInt = 0 → zX l Γ false (d + 1) (zhd 260) (zMQ' Γ false (zhd 260) Kp) 0 0 31 lo' [.int y0, .int y1, .ref 0] h')
    (hE1 : ∀ (lo' : zL) (h' : zH) (y0 : Int32) (y1 : Int32), sInv swM h' → sMd (kmF0_m b g) h h' → w = 0 → (g : Int) ≠ og → zget lo' 0 = some (.ref 0) → y0.toInt = nk → y1.toInt = 0 → zX l Γ false (d + 1) (zhd 260) (zMQ' Γ false (zhd 260) Kp) 0 0 31 lo' [.int y0, .int y1, .ref 0] h')
    (hE2 : ∀ (lo' : zL) (h' : zH) (w0 : Int) (y0 : Int32) (y1 : Int32), sInv swM h' → sMd (kmF0_m b g) h h' → w0 = sgfn 7 on 2 → (g : Int) = og → w ≠ 0 → zget lo' 0 = some (.ref 0) → y0.toInt = w0 → y1.toInt = 0 → zX l Γ false (d + 1) (zhd 260) (zMQ' Γ false (zhd 260) Kp) 0 0 31 lo' [.int y0, .int y1, .ref 0] h')
    (hE3 : ∀ (lo' : zL) (h' : zH) (w0 : Int) (y0 : Int32) (y1 : Int32), sInv swM h' → sMd (kmF0_m b g) h h' → w0 = sgfn 7 nk 2 → w ≠ 0 → (g : Int) ≠ og → zget lo' 0 = some (.ref 0) → y0.toInt = w0 → y1.toInt = 0 → zX l Γ false (d + 1) (zhd 260) (zMQ' Γ false (zhd 260) Kp) 0 0 31 lo' [.int y0, .int y1, .ref 0] h') : zSem l Γ false (d + 1) (zhd 260) [.ref 0, .int x_bb, .int x_gg] h Kp := by
  refine syf_ok (mi := 260) (fun i => [(b : Int), (g : Int), w, og, on, nk].getD i 0) (zall_r (zall_r kmF0_b h_b) h_g) (fun _ _ hc _ => nomatch hc) hd ⟨_, _, rfl, rfl, ⟨_, _, rfl, ⟨x_bb, rfl, by show (b : Int) ≤ x_bb.toInt; omega, by show x_bb.toInt ≤ (b : Int); omega⟩, ⟨_, _, rfl, ⟨x_gg, rfl, by show (g : Int) ≤ x_gg.toInt; omega, by show x_gg.toInt ≤ (g : Int); omega⟩, rfl⟩⟩⟩ ⟨rfl, ⟨x_bb, rfl, e_bb, by show (b : Int) ≤ (b : Int); omega, by show (b : Int) ≤ (b : Int); omega⟩, ⟨x_gg, rfl, e_gg, by show (g : Int) ≤ (g : Int); omega, by show (g : Int) ≤ (g : Int); omega⟩, trivial⟩ ⟨(fun _ hc => nomatch hc), (fun _ hc => nomatch hc), (fun _ hc => nomatch hc), Or.inl rfl⟩ ⟨⟨p_w, by show 0 ≤ w; omega, by show w ≤ 1; omega⟩, ⟨p_og, by show (-2147483648) ≤ og; omega, by show og ≤ 2147483647; omega⟩, ⟨p_on, by show 0 ≤ on; omega, by show on ≤ 9; omega⟩, ⟨p_nk, by show 0 ≤ nk; omega, by show nk ≤ 9; omega⟩, trivial⟩ trivial (fun _ hc => nomatch hc) hi ?_ ?_
  · intro e he lo' st' h' hp hi' hm
    rcases List.mem_cons.mp he with rfl | he
    · obtain ⟨p1, p2, -, hz⟩ := hp
      obtain ⟨⟨z1, z2, z3, z4⟩, z5, z6⟩ := hz
      have c0 : w = 0 := by have q_ : (0 : Int) ≤ (1 * w + 0) + 0 := z4 ([(2, 1)], 0) (List.mem_of_getElem? (i := 0) rfl); have q2_ : (0 : Int) ≤ ((-1) * w + 0) + 0 := z4 ([(2, (-1))], 0) (List.mem_of_getElem? (i := 1) rfl); omega
      have c2 : (g : Int) = og := by have q_ : (0 : Int) ≤ ((-1) * og + 0) + (g : Int) := z4 ([(3, (-1))], (g : Int)) (List.mem_of_getElem? (i := 2) rfl); have q2_ : (0 : Int) ≤ (1 * og + 0) + (-1 * (g : Int)) := z4 ([(3, 1)], (-1 * (g : Int))) (List.mem_of_getElem? (i := 3) rfl); omega
      have o0 : zget lo' 0 = some (.ref 0) := locR (p2 (0, .inr (.inl 0)) (List.mem_of_getElem? (i := 0) rfl))
      obtain ⟨_, _, rfl, ⟨y0, rfl, -⟩, p1⟩ := p1
      obtain ⟨_, _, rfl, ⟨y1, rfl, -⟩, p1⟩ := p1
      obtain ⟨_, _, rfl, hr, p1⟩ := p1
      have hr : _ = Value.ref 0 := hr
      subst hr
      have p1 : _ = [] := p1
      subst p1
      obtain ⟨v_, ev, hv⟩ := z2 (0, ([(4, 1)], 0)) (List.mem_of_getElem? (i := 0) rfl)
      cases ev
      have s0 : y0.toInt = on := (show y0.toInt = (1 * on + 0) + 0 from hv).trans (by omega)
      obtain ⟨v_, ev, hv⟩ := z2 (1, ([], 0)) (List.mem_of_getElem? (i := 1) rfl)
      cases ev
      have s1 : y1.toInt = 0 := (show y1.toInt = 0 + 0 from hv).trans (by omega)
      exact hE0 lo' h' y0 y1 hi' hm c0 c2 o0 s0 s1
    rcases List.mem_cons.mp he with rfl | he
    · obtain ⟨p1, p2, -, hz⟩ := hp
      obtain ⟨⟨z1, z2, z3, z4⟩, z5, z6⟩ := hz
      have c0 : w = 0 := by have q_ : (0 : Int) ≤ (1 * w + 0) + 0 := z4 ([(2, 1)], 0) (List.mem_of_getElem? (i := 0) rfl); have q2_ : (0 : Int) ≤ ((-1) * w + 0) + 0 := z4 ([(2, (-1))], 0) (List.mem_of_getElem? (i := 1) rfl); omega
      have n0 : (g : Int) ≠ og := fun e_ => z5 (([], (g : Int)), ([(3, 1)], 0)) (List.mem_of_getElem? (i := 0) rfl) (by show 0 + (g : Int) = (1 * og + 0) + 0; omega)
      have o0 : zget lo' 0 = some (.ref 0) := locR (p2 (0, .inr (.inl 0)) (List.mem_of_getElem? (i := 0) rfl))
      obtain ⟨_, _, rfl, ⟨y0, rfl, -⟩, p1⟩ := p1
      obtain ⟨_, _, rfl, ⟨y1, rfl, -⟩, p1⟩ := p1
      obtain ⟨_, _, rfl, hr, p1⟩ := p1
      have hr : _ = Value.ref 0 := hr
      subst hr
      have p1 : _ = [] := p1
      subst p1
      obtain ⟨v_, ev, hv⟩ := z2 (0, ([(5, 1)], 0)) (List.mem_of_getElem? (i := 0) rfl)
      cases ev
      have s0 : y0.toInt = nk := (show y0.toInt = (1 * nk + 0) + 0 from hv).trans (by omega)
      obtain ⟨v_, ev, hv⟩ := z2 (1, ([], 0)) (List.mem_of_getElem? (i := 1) rfl)
      cases ev
      have s1 : y1.toInt = 0 := (show y1.toInt = 0 + 0 from hv).trans (by omega)
      exact hE1 lo' h' y0 y1 hi' hm c0 n0 o0 s0 s1
    rcases List.mem_cons.mp he with rfl | he
    · obtain ⟨p1, p2, -, hz⟩ := hp
      obtain ⟨w0, f0, hz⟩ := hz
      obtain ⟨⟨z1, z2, z3, z4⟩, z5, z6⟩ := hz
      have g0 : w0 = sgfn 7 on 2 := (show w0 = sgfn 7 ((1 * on + 0) + 0) (0 + 2) from f0).trans (sgfn_c (by omega) (by omega))
      have c0 : (g : Int) = og := by have q_ : (0 : Int) ≤ ((-1) * og + 0) + (g : Int) := z4 ([(3, (-1))], (g : Int)) (List.mem_of_getElem? (i := 0) rfl); have q2_ : (0 : Int) ≤ (1 * og + 0) + (-1 * (g : Int)) := z4 ([(3, 1)], (-1 * (g : Int))) (List.mem_of_getElem? (i := 1) rfl); omega
      have n0 : w ≠ 0 := fun e_ => z5 (([(2, 1)], 0), ([], 0)) (List.mem_of_getElem? (i := 0) rfl) (by show (1 * w + 0) + 0 = 0 + 0; omega)
      have o0 : zget lo' 0 = some (.ref 0) := locR (p2 (0, .inr (.inl 0)) (List.mem_of_getElem? (i := 0) rfl))
      obtain ⟨_, _, rfl, ⟨y0, rfl, -⟩, p1⟩ := p1
      obtain ⟨_, _, rfl, ⟨y1, rfl, -⟩, p1⟩ := p1
      obtain ⟨_, _, rfl, hr, p1⟩ := p1
      have hr : _ = Value.ref 0 := hr
      subst hr
      have p1 : _ = [] := p1
      subst p1
      obtain ⟨v_, ev, hv⟩ := z2 (0, ([(6, 1)], 0)) (List.mem_of_getElem? (i := 0) rfl)
      cases ev
      have s0 : y0.toInt = w0 := (show y0.toInt = (1 * w0 + 0) + 0 from hv).trans (by omega)
      obtain ⟨v_, ev, hv⟩ := z2 (1, ([], 0)) (List.mem_of_getElem? (i := 1) rfl)
      cases ev
      have s1 : y1.toInt = 0 := (show y1.toInt = 0 + 0 from hv).trans (by omega)
      exact hE2 lo' h' w0 y0 y1 hi' hm g0 c0 n0 o0 s0 s1
    rcases List.mem_cons.mp he with rfl | he
    · obtain ⟨p1, p2, -, hz⟩ := hp
      obtain ⟨w0, f0, hz⟩ := hz
      obtain ⟨⟨z1, z2, z3, z4⟩, z5, z6⟩ := hz
      have g0 : w0 = sgfn 7 nk 2 := (show w0 = sgfn 7 ((1 * nk + 0) + 0) (0 + 2) from f0).trans (sgfn_c (by omega) (by omega))
      have n0 : w ≠ 0 := fun e_ => z5 (([(2, 1)], 0), ([], 0)) (List.mem_of_getElem? (i := 0) rfl) (by show (1 * w + 0) + 0 = 0 + 0; omega)
      have n1 : (g : Int) ≠ og := fun e_ => z5 (([], (g : Int)), ([(3, 1)], 0)) (List.mem_of_getElem? (i := 1) rfl) (by show 0 + (g : Int) = (1 * og + 0) + 0; omega)
      have o0 : zget lo' 0 = some (.ref 0) := locR (p2 (0, .inr (.inl 0)) (List.mem_of_getElem? (i := 0) rfl))
      obtain ⟨_, _, rfl, ⟨y0, rfl, -⟩, p1⟩ := p1
      obtain ⟨_, _, rfl, ⟨y1, rfl, -⟩, p1⟩ := p1
      obtain ⟨_, _, rfl, hr, p1⟩ := p1
      have hr : _ = Value.ref 0 := hr
      subst hr
      have p1 : _ = [] := p1
      subst p1
      obtain ⟨v_, ev, hv⟩ := z2 (0, ([(6, 1)], 0)) (List.mem_of_getElem? (i := 0) rfl)
      cases ev
      have s0 : y0.toInt = w0 := (show y0.toInt = (1 * w0 + 0) + 0 from hv).trans (by omega)
      obtain ⟨v_, ev, hv⟩ := z2 (1, ([], 0)) (List.mem_of_getElem? (i := 1) rfl)
      cases ev
      have s1 : y1.toInt = 0 := (show y1.toInt = 0 + 0 from hv).trans (by omega)
      exact hE3 lo' h' w0 y0 y1 hi' hm g0 n0 n1 o0 s0 s1
    cases he
  · intro e he r' h' hp hi' hm
    cases he
def kmF1_L : List (Nat × sT) := [(0, .inr (.inl 0))]
def kmF1_S : List sT := [.inl (0, 99)]
def kmF1_A : sAs := ([], [], [], [])
def kmF1_P : List sP0 := []
def kmF1_G : List sP0 := []
def kmF1_B : List (Nat × Nat × Int) := []
def kmF1_m : sM := []
def kmF1_r0 : sXr := (some (.inl sf32), sA0, [], ([], [(0, ([(0, 1)], 0))], [], []), [], [])
theorem kmF1_b : syeB swM sT0 kmF1_m 400 0 260 kmF1_L kmF1_S kmF1_A kmF1_P kmF1_G kmF1_B 34 [] [kmF1_r0] = true := by decide +kernel
theorem kmF1 {l : Launch} {Γ : zG} {d : Nat} (hd : 0 ≤ d) {Kp : Option Value → zH → Prop} {lo : zL} {h : zH} {x : Int} (hi : sInv swM h) (b_x : 0 ≤ x ∧ x ≤ 99) (l0 : zget lo 0 = some (.ref 0)) {x_x : Int32} (e_x : x_x.toInt = x)
    (hR0 : ∀ (h' : zH) (r_ : Int32), sInv swM h' → sMd kmF1_m h h' → r_.toInt = x → Kp (some (.int r_)) h') : zX l Γ false (d + 1) (zhd 260) (zMQ' Γ false (zhd 260) Kp) 0 0 34 lo [.int x_x] h := by
  refine sye_ok (mi := 260) (pc := 34) (fun i => [x].getD i 0) kmF1_b (fun _ _ hc _ => nomatch hc) hd ⟨l0, trivial⟩ ⟨x_x, _, rfl, e_x, ⟨by show 0 ≤ x; omega, by show x ≤ 99; omega⟩, rfl⟩ ⟨(fun _ hc => nomatch hc), (fun _ hc => nomatch hc), (fun _ hc => nomatch hc), Or.inl rfl⟩ trivial trivial (fun _ hc => nomatch hc) hi ?_ ?_
  · intro e he lo' st' h' hp hi' hm
    cases he
  · intro e he r' h' hp hi' hm
    rcases List.mem_cons.mp he with rfl | he
    · obtain ⟨p1, -, hz⟩ := hp
      obtain ⟨⟨z1, z2, z3, z4⟩, z5, z6⟩ := hz
      obtain ⟨r_, rfl, hv⟩ := ansI p1 (z2 (0, ([(0, 1)], 0)) (List.mem_of_getElem? (i := 0) rfl))
      have s0 : r_.toInt = x := (show r_.toInt = (1 * x + 0) + 0 from hv).trans (by omega)
      exact hR0 h' r_ hi' hm s0
    cases he
def kmU0_L (b : Nat) (g : Nat) : List sT := [.inr (.inl 0), .inl ((b : Int), (b : Int)), .inl ((g : Int), (g : Int))]
def kmU0_A (b : Nat) (g : Nat) : sAs := ([], [], [], [])
def kmU0_P (b : Nat) (g : Nat) : List sP0 := []
def kmU0_G (b : Nat) (g : Nat) : List sP0 := []
def kmU0_B (b : Nat) (g : Nat) : List (Nat × Nat × Int) := []
def kmU0_m (b : Nat) (g : Nat) : sM := []
def kmU0_e0 (b : Nat) (g : Nat) : sXe := (10, [.inl sf32, .inl sf32, .inr (.inl 0)], [(0, .inr (.inl 0)), (1, .inl sf32), (2, .inl sf32), (3, .inl sf32)], sA0, [], ([], [(0, ([], (g : Int))), (1, ([], (b : Int)))], [(1, ([], (b : Int))), (2, ([], (g : Int))), (3, ([], (8 * (b : Int) + (g : Int))))], []), [], [])
theorem kmU0_b : ((List.range 2).all fun b => ((List.range 8).all fun g => syfB swM sT0 (kmU0_m b g) 400 0 259 (kmU0_L b g) (kmU0_A b g) (kmU0_P b g) (kmU0_G b g) (kmU0_B b g) [kmU0_e0 b g] [])) = true := by decide +kernel
theorem kmU0 {l : Launch} {Γ : zG} {d : Nat} (hd : 0 ≤ d) {Kp : Option Value → zH → Prop} {h : zH} {b : Nat} (h_b : b < 2) {g : Nat} (h_g : g < 8) (hi : sInv swM h) {x_bb : Int32} (e_bb : x_bb.toInt = (b : Int)) {x_gg : Int32} (e_gg : x_gg.toInt = (g : Int))
    (hE0 : ∀ (lo' : zL) (h' : zH) (y0 : Int32) (y1 : Int32), sInv swM h' → sMd (kmU0_m b g) h h' → zget lo' 0 = some (.ref 0) → zI lo' 1 (b : Int) → zI lo' 2 (g : Int) → zI lo' 3 (8 * (b : Int) + (g : Int)) → y0.toInt = (g : Int) → y1.toInt = (b : Int) → zX l Γ false (d + 1) (zhd 259) (zMQ' Γ false (zhd 259) Kp) 0 0 10 lo' [.int y0, .int y1, .ref 0] h') : zSem l Γ false (d + 1) (zhd 259) [.ref 0, .int x_bb, .int x_gg] h Kp := by
  refine syf_ok (mi := 259) (fun i => [(b : Int), (g : Int)].getD i 0) (zall_r (zall_r kmU0_b h_b) h_g) (fun _ _ hc _ => nomatch hc) hd ⟨_, _, rfl, rfl, ⟨_, _, rfl, ⟨x_bb, rfl, by show (b : Int) ≤ x_bb.toInt; omega, by show x_bb.toInt ≤ (b : Int); omega⟩, ⟨_, _, rfl, ⟨x_gg, rfl, by show (g : Int) ≤ x_gg.toInt; omega, by show x_gg.toInt ≤ (g : Int); omega⟩, rfl⟩⟩⟩ ⟨rfl, ⟨x_bb, rfl, e_bb, by show (b : Int) ≤ (b : Int); omega, by show (b : Int) ≤ (b : Int); omega⟩, ⟨x_gg, rfl, e_gg, by show (g : Int) ≤ (g : Int); omega, by show (g : Int) ≤ (g : Int); omega⟩, trivial⟩ ⟨(fun _ hc => nomatch hc), (fun _ hc => nomatch hc), (fun _ hc => nomatch hc), Or.inl rfl⟩ trivial trivial (fun _ hc => nomatch hc) hi ?_ ?_
  · intro e he lo' st' h' hp hi' hm
    rcases List.mem_cons.mp he with rfl | he
    · obtain ⟨p1, p2, -, hz⟩ := hp
      obtain ⟨⟨z1, z2, z3, z4⟩, z5, z6⟩ := hz
      have o0 : zget lo' 0 = some (.ref 0) := locR (p2 (0, .inr (.inl 0)) (List.mem_of_getElem? (i := 0) rfl))
      have o1 : zI lo' 1 (b : Int) := zI_of (p2 (1, .inl sf32) (List.mem_of_getElem? (i := 1) rfl)) (z3 (1, ([], (b : Int))) (List.mem_of_getElem? (i := 0) rfl)) (show 0 + (b : Int) = (b : Int) from by omega)
      have o2 : zI lo' 2 (g : Int) := zI_of (p2 (2, .inl sf32) (List.mem_of_getElem? (i := 2) rfl)) (z3 (2, ([], (g : Int))) (List.mem_of_getElem? (i := 1) rfl)) (show 0 + (g : Int) = (g : Int) from by omega)
      have o3 : zI lo' 3 (8 * (b : Int) + (g : Int)) := zI_of (p2 (3, .inl sf32) (List.mem_of_getElem? (i := 3) rfl)) (z3 (3, ([], (8 * (b : Int) + (g : Int)))) (List.mem_of_getElem? (i := 2) rfl)) (show 0 + (8 * (b : Int) + (g : Int)) = (8 * (b : Int) + (g : Int)) from by omega)
      obtain ⟨_, _, rfl, ⟨y0, rfl, -⟩, p1⟩ := p1
      obtain ⟨_, _, rfl, ⟨y1, rfl, -⟩, p1⟩ := p1
      obtain ⟨_, _, rfl, hr, p1⟩ := p1
      have hr : _ = Value.ref 0 := hr
      subst hr
      have p1 : _ = [] := p1
      subst p1
      obtain ⟨v_, ev, hv⟩ := z2 (0, ([], (g : Int))) (List.mem_of_getElem? (i := 0) rfl)
      cases ev
      have s0 : y0.toInt = (g : Int) := (show y0.toInt = 0 + (g : Int) from hv).trans (by omega)
      obtain ⟨v_, ev, hv⟩ := z2 (1, ([], (b : Int))) (List.mem_of_getElem? (i := 1) rfl)
      cases ev
      have s1 : y1.toInt = (b : Int) := (show y1.toInt = 0 + (b : Int) from hv).trans (by omega)
      exact hE0 lo' h' y0 y1 hi' hm o0 o1 o2 o3 s0 s1
    cases he
  · intro e he r' h' hp hi' hm
    cases he
def kmU1_L (b : Nat) (g : Nat) : List (Nat × sT) := [(0, .inr (.inl 0)), (1, .inl ((b : Int), (b : Int))), (2, .inl ((g : Int), (g : Int))), (3, .inl ((8 * (b : Int) + (g : Int)), (8 * (b : Int) + (g : Int))))]
def kmU1_S (b : Nat) (g : Nat) : List sT := []
def kmU1_A (b : Nat) (g : Nat) : sAs := ([], [], [], [])
def kmU1_P (b : Nat) (g : Nat) : List sP0 := []
def kmU1_G (b : Nat) (g : Nat) : List sP0 := []
def kmU1_B (b : Nat) (g : Nat) : List (Nat × Nat × Int) := []
def kmU1_m (b : Nat) (g : Nat) : sM := []
def kmU1_e0 (b : Nat) (g : Nat) : sXe := (16, [.inl sf32, .inl sf32, .inr (.inl 0)], [(0, .inr (.inl 0)), (1, .inl sf32), (2, .inl sf32), (3, .inl sf32)], sA0, [], ([], [(0, ([], (g : Int))), (1, ([], (b : Int)))], [(1, ([], (b : Int))), (2, ([], (g : Int))), (3, ([], (8 * (b : Int) + (g : Int))))], []), [], [])
theorem kmU1_b : ((List.range 2).all fun b => ((List.range 8).all fun g => syeB swM sT0 (kmU1_m b g) 400 0 259 (kmU1_L b g) (kmU1_S b g) (kmU1_A b g) (kmU1_P b g) (kmU1_G b g) (kmU1_B b g) 13 [kmU1_e0 b g] [])) = true := by decide +kernel
theorem kmU1 {l : Launch} {Γ : zG} {d : Nat} (hd : 0 ≤ d) {Kp : Option Value → zH → Prop} {lo : zL} {h : zH} {b : Nat} (h_b : b < 2) {g : Nat} (h_g : g < 8) (hi : sInv swM h) (l0 : zget lo 0 = some (.ref 0)) (l1 : zI lo 1 (b : Int)) (l2 : zI lo 2 (g : Int)) (l3 : zI lo 3 (8 * (b : Int) + (g : Int)))
    (hE0 : ∀ (lo' : zL) (h' : zH) (y0 : Int32) (y1 : Int32), sInv swM h' → sMd (kmU1_m b g) h h' → zget lo' 0 = some (.ref 0) → zI lo' 1 (b : Int) → zI lo' 2 (g : Int) → zI lo' 3 (8 * (b : Int) + (g : Int)) → y0.toInt = (g : Int) → y1.toInt = (b : Int) → zX l Γ false (d + 1) (zhd 259) (zMQ' Γ false (zhd 259) Kp) 0 0 16 lo' [.int y0, .int y1, .ref 0] h') : zX l Γ false (d + 1) (zhd 259) (zMQ' Γ false (zhd 259) Kp) 0 0 13 lo [] h := by
  refine sye_ok (mi := 259) (pc := 13) (fun i => [(b : Int), (g : Int), (8 * (b : Int) + (g : Int))].getD i 0) (zall_r (zall_r kmU1_b h_b) h_g) (fun _ _ hc _ => nomatch hc) hd ⟨l0, zIm l1 (by show (b : Int) ≤ (b : Int); omega) (by show (b : Int) ≤ (b : Int); omega), zIm l2 (by show (g : Int) ≤ (g : Int); omega) (by show (g : Int) ≤ (g : Int); omega), zIm l3 (by show (8 * (b : Int) + (g : Int)) ≤ (8 * (b : Int) + (g : Int)); omega) (by show (8 * (b : Int) + (g : Int)) ≤ (8 * (b : Int) + (g : Int)); omega), trivial⟩ rfl ⟨(fun _ hc => nomatch hc), (fun _ hc => nomatch hc), (fun _ hc => nomatch hc), Or.inl rfl⟩ trivial trivial (fun _ hc => nomatch hc) hi ?_ ?_
  · intro e he lo' st' h' hp hi' hm
    rcases List.mem_cons.mp he with rfl | he
    · obtain ⟨p1, p2, -, hz⟩ := hp
      obtain ⟨⟨z1, z2, z3, z4⟩, z5, z6⟩ := hz
      have o0 : zget lo' 0 = some (.ref 0) := locR (p2 (0, .inr (.inl 0)) (List.mem_of_getElem? (i := 0) rfl))
      have o1 : zI lo' 1 (b : Int) := zI_of (p2 (1, .inl sf32) (List.mem_of_getElem? (i := 1) rfl)) (z3 (1, ([], (b : Int))) (List.mem_of_getElem? (i := 0) rfl)) (show 0 + (b : Int) = (b : Int) from by omega)
      have o2 : zI lo' 2 (g : Int) := zI_of (p2 (2, .inl sf32) (List.mem_of_getElem? (i := 2) rfl)) (z3 (2, ([], (g : Int))) (List.mem_of_getElem? (i := 1) rfl)) (show 0 + (g : Int) = (g : Int) from by omega)
      have o3 : zI lo' 3 (8 * (b : Int) + (g : Int)) := zI_of (p2 (3, .inl sf32) (List.mem_of_getElem? (i := 3) rfl)) (z3 (3, ([], (8 * (b : Int) + (g : Int)))) (List.mem_of_getElem? (i := 2) rfl)) (show 0 + (8 * (b : Int) + (g : Int)) = (8 * (b : Int) + (g : Int)) from by omega)
      obtain ⟨_, _, rfl, ⟨y0, rfl, -⟩, p1⟩ := p1
      obtain ⟨_, _, rfl, ⟨y1, rfl, -⟩, p1⟩ := p1
      obtain ⟨_, _, rfl, hr, p1⟩ := p1
      have hr : _ = Value.ref 0 := hr
      subst hr
      have p1 : _ = [] := p1
      subst p1
      obtain ⟨v_, ev, hv⟩ := z2 (0, ([], (g : Int))) (List.mem_of_getElem? (i := 0) rfl)
      cases ev
      have s0 : y0.toInt = (g : Int) := (show y0.toInt = 0 + (g : Int) from hv).trans (by omega)
      obtain ⟨v_, ev, hv⟩ := z2 (1, ([], (b : Int))) (List.mem_of_getElem? (i := 1) rfl)
      cases ev
      have s1 : y1.toInt = (b : Int) := (show y1.toInt = 0 + (b : Int) from hv).trans (by omega)
      exact hE0 lo' h' y0 y1 hi' hm o0 o1 o2 o3 s0 s1
    cases he
  · intro e he r' h' hp hi' hm
    cases he
def kmU2_L (b : Nat) (g : Nat) : List (Nat × sT) := [(0, .inr (.inl 0)), (1, .inl ((b : Int), (b : Int))), (2, .inl ((g : Int), (g : Int))), (3, .inl ((8 * (b : Int) + (g : Int)), (8 * (b : Int) + (g : Int))))]
def kmU2_S (b : Nat) (g : Nat) : List sT := [.inl (0, 99)]
def kmU2_A (b : Nat) (g : Nat) : sAs := ([], [], [], [])
def kmU2_P (b : Nat) (g : Nat) : List sP0 := [(29, (none, (((8 * b + g) : Nat) : Int)), (0, 999))]
def kmU2_G (b : Nat) (g : Nat) : List sP0 := []
def kmU2_B (b : Nat) (g : Nat) : List (Nat × Nat × Int) := []
def kmU2_m (b : Nat) (g : Nat) : sM := []
def kmU2_e0 (b : Nat) (g : Nat) : sXe := (30, [], [(0, .inr (.inl 0)), (3, .inl sf32), (4, .inl sf32)], sA0, [], ([], [], [(3, ([], (8 * (b : Int) + (g : Int)))), (4, ([(4, 1)], 0))], [([(3, 1), (4, (-1))], 0)]), [], [])
def kmU2_e1 (b : Nat) (g : Nat) : sXe := (30, [], [(0, .inr (.inl 0)), (3, .inl sf32), (4, .inl sf32)], sA0, [], ([], [], [(3, ([], (8 * (b : Int) + (g : Int)))), (4, ([(3, 1)], 0))], [([(3, (-1)), (4, 1)], (-1))]), [], [])
theorem kmU2_b : ((List.range 2).all fun b => ((List.range 8).all fun g => syeB swM sT0 (kmU2_m b g) 400 1 259 (kmU2_L b g) (kmU2_S b g) (kmU2_A b g) (kmU2_P b g) (kmU2_G b g) (kmU2_B b g) 19 [kmU2_e0 b g, kmU2_e1 b g] [])) = true := by decide +kernel
theorem kmU2 {l : Launch} {Γ : zG} {d : Nat} (hd : 1 ≤ d) {Kp : Option Value → zH → Prop} {lo : zL} {h : zH} {b : Nat} (h_b : b < 2) {g : Nat} (h_g : g < 8) {x a : Int} (hi : sInv swM h) (b_x : 0 ≤ x ∧ x ≤ 99) (b_a : 0 ≤ a ∧ a ≤ 999) (l0 : zget lo 0 = some (.ref 0)) (l1 : zI lo 1 (b : Int)) (l2 : zI lo 2 (g : Int)) (l3 : zI lo 3 (8 * (b : Int) + (g : Int))) {x_x : Int32} (e_x : x_x.toInt = x) (p_a : pI h 29 (8 * b + g) = a)
    (hE0 : ∀ (lo' : zL) (h' : zH), sInv swM h' → sMd (kmU2_m b g) h h' → 0 ≤ x - a → zget lo' 0 = some (.ref 0) → zI lo' 3 (8 * (b : Int) + (g : Int)) → zI lo' 4 a → zX l Γ false (d + 1) (zhd 259) (zMQ' Γ false (zhd 259) Kp) 0 0 30 lo' [] h')
    (hE1 : ∀ (lo' : zL) (h' : zH), sInv swM h' → sMd (kmU2_m b g) h h' → 0 ≤ -x + a - 1 → zget lo' 0 = some (.ref 0) → zI lo' 3 (8 * (b : Int) + (g : Int)) → zI lo' 4 x → zX l Γ false (d + 1) (zhd 259) (zMQ' Γ false (zhd 259) Kp) 0 0 30 lo' [] h') : zX l Γ false (d + 1) (zhd 259) (zMQ' Γ false (zhd 259) Kp) 0 0 19 lo [.int x_x] h := by
  refine sye_ok (mi := 259) (pc := 19) (fun i => [(b : Int), (g : Int), (8 * (b : Int) + (g : Int)), x, a].getD i 0) (zall_r (zall_r kmU2_b h_b) h_g) (fun _ _ hc _ => nomatch hc) hd ⟨l0, zIm l1 (by show (b : Int) ≤ (b : Int); omega) (by show (b : Int) ≤ (b : Int); omega), zIm l2 (by show (g : Int) ≤ (g : Int); omega) (by show (g : Int) ≤ (g : Int); omega), zIm l3 (by show (8 * (b : Int) + (g : Int)) ≤ (8 * (b : Int) + (g : Int)); omega) (by show (8 * (b : Int) + (g : Int)) ≤ (8 * (b : Int) + (g : Int)); omega), trivial⟩ ⟨x_x, _, rfl, e_x, ⟨by show 0 ≤ x; omega, by show x ≤ 99; omega⟩, rfl⟩ ⟨(fun _ hc => nomatch hc), (fun _ hc => nomatch hc), (fun _ hc => nomatch hc), Or.inl rfl⟩ ⟨⟨p_a, by show 0 ≤ a; omega, by show a ≤ 999; omega⟩, trivial⟩ trivial (fun _ hc => nomatch hc) hi ?_ ?_
  · intro e he lo' st' h' hp hi' hm
    rcases List.mem_cons.mp he with rfl | he
    · obtain ⟨p1, p2, -, hz⟩ := hp
      obtain ⟨⟨z1, z2, z3, z4⟩, z5, z6⟩ := hz
      have c0 : 0 ≤ x - a := by have q_ : (0 : Int) ≤ (1 * x + ((-1) * a + 0)) + 0 := z4 ([(3, 1), (4, (-1))], 0) (List.mem_of_getElem? (i := 0) rfl); omega
      have o0 : zget lo' 0 = some (.ref 0) := locR (p2 (0, .inr (.inl 0)) (List.mem_of_getElem? (i := 0) rfl))
      have o3 : zI lo' 3 (8 * (b : Int) + (g : Int)) := zI_of (p2 (3, .inl sf32) (List.mem_of_getElem? (i := 1) rfl)) (z3 (3, ([], (8 * (b : Int) + (g : Int)))) (List.mem_of_getElem? (i := 0) rfl)) (show 0 + (8 * (b : Int) + (g : Int)) = (8 * (b : Int) + (g : Int)) from by omega)
      have o4 : zI lo' 4 a := zI_of (p2 (4, .inl sf32) (List.mem_of_getElem? (i := 2) rfl)) (z3 (4, ([(4, 1)], 0)) (List.mem_of_getElem? (i := 1) rfl)) (show (1 * a + 0) + 0 = a from by omega)
      have p1 : _ = [] := p1
      subst p1
      exact hE0 lo' h' hi' hm c0 o0 o3 o4
    rcases List.mem_cons.mp he with rfl | he
    · obtain ⟨p1, p2, -, hz⟩ := hp
      obtain ⟨⟨z1, z2, z3, z4⟩, z5, z6⟩ := hz
      have c0 : 0 ≤ -x + a - 1 := by have q_ : (0 : Int) ≤ ((-1) * x + (1 * a + 0)) + (-1) := z4 ([(3, (-1)), (4, 1)], (-1)) (List.mem_of_getElem? (i := 0) rfl); omega
      have o0 : zget lo' 0 = some (.ref 0) := locR (p2 (0, .inr (.inl 0)) (List.mem_of_getElem? (i := 0) rfl))
      have o3 : zI lo' 3 (8 * (b : Int) + (g : Int)) := zI_of (p2 (3, .inl sf32) (List.mem_of_getElem? (i := 1) rfl)) (z3 (3, ([], (8 * (b : Int) + (g : Int)))) (List.mem_of_getElem? (i := 0) rfl)) (show 0 + (8 * (b : Int) + (g : Int)) = (8 * (b : Int) + (g : Int)) from by omega)
      have o4 : zI lo' 4 x := zI_of (p2 (4, .inl sf32) (List.mem_of_getElem? (i := 2) rfl)) (z3 (4, ([(3, 1)], 0)) (List.mem_of_getElem? (i := 1) rfl)) (show (1 * x + 0) + 0 = x from by omega)
      have p1 : _ = [] := p1
      subst p1
      exact hE1 lo' h' hi' hm c0 o0 o3 o4
    cases he
  · intro e he r' h' hp hi' hm
    cases he
def kmU3_L (b : Nat) (g : Nat) : List (Nat × sT) := [(0, .inr (.inl 0)), (3, .inl ((8 * (b : Int) + (g : Int)), (8 * (b : Int) + (g : Int)))), (4, .inl (0, 99))]
def kmU3_S (b : Nat) (g : Nat) : List sT := []
def kmU3_A (b : Nat) (g : Nat) : sAs := ([], [], [], [])
def kmU3_P (b : Nat) (g : Nat) : List sP0 := [(29, (none, (((8 * b + g) : Nat) : Int)), (0, 999)), (30, (none, (((8 * b + g) : Nat) : Int)), (0, 999)), (32, (none, (((8 * b + g) : Nat) : Int)), (0, 2000000000))]
def kmU3_G (b : Nat) (g : Nat) : List sP0 := []
def kmU3_B (b : Nat) (g : Nat) : List (Nat × Nat × Int) := [(2, 1, 0)]
def kmU3_m (b : Nat) (g : Nat) : sM := [(29, (8 * b + g), (8 * b + g + 1)), (30, (8 * b + g), (8 * b + g + 1)), (32, (8 * b + g), (8 * b + g + 1))]
def kmU3_r0 (b : Nat) (g : Nat) : sXr := (none, sA0, [], ([(30, (none, (((8 * b + g) : Nat) : Int)), ([(1, 1), (3, 1)], 0)), (29, (none, (((8 * b + g) : Nat) : Int)), ([], 0)), (32, (none, (((8 * b + g) : Nat) : Int)), ([(4, 1)], 0))], [], [], [([(2, (-1))], 0), ([(1, (-1)), (3, (-1))], 999)]), [], [])
def kmU3_r1 (b : Nat) (g : Nat) : sXr := (none, sA0, [], ([(30, (none, (((8 * b + g) : Nat) : Int)), ([], 999)), (29, (none, (((8 * b + g) : Nat) : Int)), ([], 0)), (32, (none, (((8 * b + g) : Nat) : Int)), ([(4, 1)], 0))], [], [], [([(2, (-1))], 0), ([(1, 1), (3, 1)], (-1000))]), [], [])
def kmU3_r2 (b : Nat) (g : Nat) : sXr := (none, sA0, [], ([(30, (none, (((8 * b + g) : Nat) : Int)), ([(1, 1), (3, 1)], 0)), (29, (none, (((8 * b + g) : Nat) : Int)), ([], 0)), (32, (none, (((8 * b + g) : Nat) : Int)), ([(4, 1)], 1))], [], [], [([(2, 1)], (-1)), ([(1, (-1)), (3, (-1))], 999), ([(1, (-1)), (2, 1)], 0), ([(1, 1), (2, (-1))], 0)]), [], [])
def kmU3_r3 (b : Nat) (g : Nat) : sXr := (none, sA0, [], ([(30, (none, (((8 * b + g) : Nat) : Int)), ([], 999)), (29, (none, (((8 * b + g) : Nat) : Int)), ([], 0)), (32, (none, (((8 * b + g) : Nat) : Int)), ([(4, 1)], 1))], [], [], [([(2, 1)], (-1)), ([(1, 1), (3, 1)], (-1000)), ([(1, (-1)), (2, 1)], 0), ([(1, 1), (2, (-1))], 0)]), [], [])
def kmU3_r4 (b : Nat) (g : Nat) : sXr := (none, sA0, [], ([(30, (none, (((8 * b + g) : Nat) : Int)), ([(1, 1), (3, 1)], 0)), (29, (none, (((8 * b + g) : Nat) : Int)), ([(1, (-1)), (2, 1)], 0)), (32, (none, (((8 * b + g) : Nat) : Int)), ([(4, 1)], 0))], [], [], [([(2, 1)], (-1)), ([(1, (-1)), (3, (-1))], 999)]), [(([(2, 1)], 0), ([(1, 1)], 0))], [])
def kmU3_r5 (b : Nat) (g : Nat) : sXr := (none, sA0, [], ([(30, (none, (((8 * b + g) : Nat) : Int)), ([], 999)), (29, (none, (((8 * b + g) : Nat) : Int)), ([(1, (-1)), (2, 1)], 0)), (32, (none, (((8 * b + g) : Nat) : Int)), ([(4, 1)], 0))], [], [], [([(2, 1)], (-1)), ([(1, 1), (3, 1)], (-1000))]), [(([(2, 1)], 0), ([(1, 1)], 0))], [])
theorem kmU3_b : ((List.range 2).all fun b => ((List.range 8).all fun g => syeB swM sT0 (kmU3_m b g) 400 1 259 (kmU3_L b g) (kmU3_S b g) (kmU3_A b g) (kmU3_P b g) (kmU3_G b g) (kmU3_B b g) 30 [] [kmU3_r0 b g, kmU3_r1 b g, kmU3_r2 b g, kmU3_r3 b g, kmU3_r4 b g, kmU3_r5 b g])) = true := by decide +kernel
theorem kmU3 {l : Launch} {Γ : zG} {d : Nat} (hd : 1 ≤ d) {Kp : Option Value → zH → Prop} {lo : zL} {h : zH} {b : Nat} (h_b : b < 2) {g : Nat} (h_g : g < 8) {x a bw em : Int} (hi : sInv swM h) (b_x : 0 ≤ x ∧ x ≤ 99) (b_a : 0 ≤ a ∧ a ≤ 999) (b_bw : 0 ≤ bw ∧ bw ≤ 999) (b_em : 0 ≤ em ∧ em ≤ 2000000000) (l0 : zget lo 0 = some (.ref 0)) (l3 : zI lo 3 (8 * (b : Int) + (g : Int))) (l4 : zI lo 4 x) (p_a : pI h 29 (8 * b + g) = a) (p_bw : pI h 30 (8 * b + g) = bw) (p_em : pI h 32 (8 * b + g) = em) (d0 : 0 ≤ a - x)
    (hR0 : ∀ (h' : zH), sInv swM h' → sMd (kmU3_m b g) h h' → 0 ≤ -a → 0 ≤ -x - bw + 999 → pI h' 30 (8 * b + g) = x + bw → pI h' 29 (8 * b + g) = 0 → pI h' 32 (8 * b + g) = em → Kp none h')
    (hR1 : ∀ (h' : zH), sInv swM h' → sMd (kmU3_m b g) h h' → 0 ≤ -a → 0 ≤ x + bw - 1000 → pI h' 30 (8 * b + g) = 999 → pI h' 29 (8 * b + g) = 0 → pI h' 32 (8 * b + g) = em → Kp none h')
    (hR2 : ∀ (h' : zH), sInv swM h' → sMd (kmU3_m b g) h h' → 0 ≤ a - 1 → 0 ≤ -x - bw + 999 → a = x → pI h' 30 (8 * b + g) = x + bw → pI h' 29 (8 * b + g) = 0 → pI h' 32 (8 * b + g) = em + 1 → Kp none h')
    (hR3 : ∀ (h' : zH), sInv swM h' → sMd (kmU3_m b g) h h' → 0 ≤ a - 1 → 0 ≤ x + bw - 1000 → a = x → pI h' 30 (8 * b + g) = 999 → pI h' 29 (8 * b + g) = 0 → pI h' 32 (8 * b + g) = em + 1 → Kp none h')
    (hR4 : ∀ (h' : zH), sInv swM h' → sMd (kmU3_m b g) h h' → 0 ≤ a - 1 → 0 ≤ -x - bw + 999 → a ≠ x → pI h' 30 (8 * b + g) = x + bw → pI h' 29 (8 * b + g) = -x + a → pI h' 32 (8 * b + g) = em → Kp none h')
    (hR5 : ∀ (h' : zH), sInv swM h' → sMd (kmU3_m b g) h h' → 0 ≤ a - 1 → 0 ≤ x + bw - 1000 → a ≠ x → pI h' 30 (8 * b + g) = 999 → pI h' 29 (8 * b + g) = -x + a → pI h' 32 (8 * b + g) = em → Kp none h') : zX l Γ false (d + 1) (zhd 259) (zMQ' Γ false (zhd 259) Kp) 0 0 30 lo [] h := by
  refine sye_ok (mi := 259) (pc := 30) (fun i => [(8 * (b : Int) + (g : Int)), x, a, bw, em].getD i 0) (zall_r (zall_r kmU3_b h_b) h_g) (fun _ _ hc _ => nomatch hc) hd ⟨l0, zIm l3 (by show (8 * (b : Int) + (g : Int)) ≤ (8 * (b : Int) + (g : Int)); omega) (by show (8 * (b : Int) + (g : Int)) ≤ (8 * (b : Int) + (g : Int)); omega), zIm l4 (by show 0 ≤ x; omega) (by show x ≤ 99; omega), trivial⟩ rfl ⟨(fun _ hc => nomatch hc), (fun _ hc => nomatch hc), (fun _ hc => nomatch hc), Or.inl rfl⟩ ⟨⟨p_a, by show 0 ≤ a; omega, by show a ≤ 999; omega⟩, ⟨p_bw, by show 0 ≤ bw; omega, by show bw ≤ 999; omega⟩, ⟨p_em, by show 0 ≤ em; omega, by show em ≤ 2000000000; omega⟩, trivial⟩ trivial (sfm d0 (fun _ hc => nomatch hc)) hi ?_ ?_
  · intro e he lo' st' h' hp hi' hm
    cases he
  · intro e he r' h' hp hi' hm
    rcases List.mem_cons.mp he with rfl | he
    · obtain ⟨p1, -, hz⟩ := hp
      obtain ⟨⟨z1, z2, z3, z4⟩, z5, z6⟩ := hz
      have c0 : 0 ≤ -a := by have q_ : (0 : Int) ≤ ((-1) * a + 0) + 0 := z4 ([(2, (-1))], 0) (List.mem_of_getElem? (i := 0) rfl); omega
      have c1 : 0 ≤ -x - bw + 999 := by have q_ : (0 : Int) ≤ ((-1) * x + ((-1) * bw + 0)) + 999 := z4 ([(1, (-1)), (3, (-1))], 999) (List.mem_of_getElem? (i := 1) rfl); omega
      have k0 : pI h' 30 (8 * b + g) = x + bw := (show pI h' 30 (8 * b + g) = (1 * x + (1 * bw + 0)) + 0 from z1 (30, (none, (((8 * b + g) : Nat) : Int)), ([(1, 1), (3, 1)], 0)) (List.mem_of_getElem? (i := 0) rfl)).trans (by omega)
      have k1 : pI h' 29 (8 * b + g) = 0 := (show pI h' 29 (8 * b + g) = 0 + 0 from z1 (29, (none, (((8 * b + g) : Nat) : Int)), ([], 0)) (List.mem_of_getElem? (i := 1) rfl)).trans (by omega)
      have k2 : pI h' 32 (8 * b + g) = em := (show pI h' 32 (8 * b + g) = (1 * em + 0) + 0 from z1 (32, (none, (((8 * b + g) : Nat) : Int)), ([(4, 1)], 0)) (List.mem_of_getElem? (i := 2) rfl)).trans (by omega)
      have p1 : r' = none := p1
      subst p1
      exact hR0 h' hi' hm c0 c1 k0 k1 k2
    rcases List.mem_cons.mp he with rfl | he
    · obtain ⟨p1, -, hz⟩ := hp
      obtain ⟨⟨z1, z2, z3, z4⟩, z5, z6⟩ := hz
      have c0 : 0 ≤ -a := by have q_ : (0 : Int) ≤ ((-1) * a + 0) + 0 := z4 ([(2, (-1))], 0) (List.mem_of_getElem? (i := 0) rfl); omega
      have c1 : 0 ≤ x + bw - 1000 := by have q_ : (0 : Int) ≤ (1 * x + (1 * bw + 0)) + (-1000) := z4 ([(1, 1), (3, 1)], (-1000)) (List.mem_of_getElem? (i := 1) rfl); omega
      have k0 : pI h' 30 (8 * b + g) = 999 := (show pI h' 30 (8 * b + g) = 0 + 999 from z1 (30, (none, (((8 * b + g) : Nat) : Int)), ([], 999)) (List.mem_of_getElem? (i := 0) rfl)).trans (by omega)
      have k1 : pI h' 29 (8 * b + g) = 0 := (show pI h' 29 (8 * b + g) = 0 + 0 from z1 (29, (none, (((8 * b + g) : Nat) : Int)), ([], 0)) (List.mem_of_getElem? (i := 1) rfl)).trans (by omega)
      have k2 : pI h' 32 (8 * b + g) = em := (show pI h' 32 (8 * b + g) = (1 * em + 0) + 0 from z1 (32, (none, (((8 * b + g) : Nat) : Int)), ([(4, 1)], 0)) (List.mem_of_getElem? (i := 2) rfl)).trans (by omega)
      have p1 : r' = none := p1
      subst p1
      exact hR1 h' hi' hm c0 c1 k0 k1 k2
    rcases List.mem_cons.mp he with rfl | he
    · obtain ⟨p1, -, hz⟩ := hp
      obtain ⟨⟨z1, z2, z3, z4⟩, z5, z6⟩ := hz
      have c0 : 0 ≤ a - 1 := by have q_ : (0 : Int) ≤ (1 * a + 0) + (-1) := z4 ([(2, 1)], (-1)) (List.mem_of_getElem? (i := 0) rfl); omega
      have c1 : 0 ≤ -x - bw + 999 := by have q_ : (0 : Int) ≤ ((-1) * x + ((-1) * bw + 0)) + 999 := z4 ([(1, (-1)), (3, (-1))], 999) (List.mem_of_getElem? (i := 1) rfl); omega
      have c2 : a = x := by have q_ : (0 : Int) ≤ ((-1) * x + (1 * a + 0)) + 0 := z4 ([(1, (-1)), (2, 1)], 0) (List.mem_of_getElem? (i := 2) rfl); have q2_ : (0 : Int) ≤ (1 * x + ((-1) * a + 0)) + 0 := z4 ([(1, 1), (2, (-1))], 0) (List.mem_of_getElem? (i := 3) rfl); omega
      have k0 : pI h' 30 (8 * b + g) = x + bw := (show pI h' 30 (8 * b + g) = (1 * x + (1 * bw + 0)) + 0 from z1 (30, (none, (((8 * b + g) : Nat) : Int)), ([(1, 1), (3, 1)], 0)) (List.mem_of_getElem? (i := 0) rfl)).trans (by omega)
      have k1 : pI h' 29 (8 * b + g) = 0 := (show pI h' 29 (8 * b + g) = 0 + 0 from z1 (29, (none, (((8 * b + g) : Nat) : Int)), ([], 0)) (List.mem_of_getElem? (i := 1) rfl)).trans (by omega)
      have k2 : pI h' 32 (8 * b + g) = em + 1 := (show pI h' 32 (8 * b + g) = (1 * em + 0) + 1 from z1 (32, (none, (((8 * b + g) : Nat) : Int)), ([(4, 1)], 1)) (List.mem_of_getElem? (i := 2) rfl)).trans (by omega)
      have p1 : r' = none := p1
      subst p1
      exact hR2 h' hi' hm c0 c1 c2 k0 k1 k2
    rcases List.mem_cons.mp he with rfl | he
    · obtain ⟨p1, -, hz⟩ := hp
      obtain ⟨⟨z1, z2, z3, z4⟩, z5, z6⟩ := hz
      have c0 : 0 ≤ a - 1 := by have q_ : (0 : Int) ≤ (1 * a + 0) + (-1) := z4 ([(2, 1)], (-1)) (List.mem_of_getElem? (i := 0) rfl); omega
      have c1 : 0 ≤ x + bw - 1000 := by have q_ : (0 : Int) ≤ (1 * x + (1 * bw + 0)) + (-1000) := z4 ([(1, 1), (3, 1)], (-1000)) (List.mem_of_getElem? (i := 1) rfl); omega
      have c2 : a = x := by have q_ : (0 : Int) ≤ ((-1) * x + (1 * a + 0)) + 0 := z4 ([(1, (-1)), (2, 1)], 0) (List.mem_of_getElem? (i := 2) rfl); have q2_ : (0 : Int) ≤ (1 * x + ((-1) * a + 0)) + 0 := z4 ([(1, 1), (2, (-1))], 0) (List.mem_of_getElem? (i := 3) rfl); omega
      have k0 : pI h' 30 (8 * b + g) = 999 := (show pI h' 30 (8 * b + g) = 0 + 999 from z1 (30, (none, (((8 * b + g) : Nat) : Int)), ([], 999)) (List.mem_of_getElem? (i := 0) rfl)).trans (by omega)
      have k1 : pI h' 29 (8 * b + g) = 0 := (show pI h' 29 (8 * b + g) = 0 + 0 from z1 (29, (none, (((8 * b + g) : Nat) : Int)), ([], 0)) (List.mem_of_getElem? (i := 1) rfl)).trans (by omega)
      have k2 : pI h' 32 (8 * b + g) = em + 1 := (show pI h' 32 (8 * b + g) = (1 * em + 0) + 1 from z1 (32, (none, (((8 * b + g) : Nat) : Int)), ([(4, 1)], 1)) (List.mem_of_getElem? (i := 2) rfl)).trans (by omega)
      have p1 : r' = none := p1
      subst p1
      exact hR3 h' hi' hm c0 c1 c2 k0 k1 k2
    rcases List.mem_cons.mp he with rfl | he
    · obtain ⟨p1, -, hz⟩ := hp
      obtain ⟨⟨z1, z2, z3, z4⟩, z5, z6⟩ := hz
      have c0 : 0 ≤ a - 1 := by have q_ : (0 : Int) ≤ (1 * a + 0) + (-1) := z4 ([(2, 1)], (-1)) (List.mem_of_getElem? (i := 0) rfl); omega
      have c1 : 0 ≤ -x - bw + 999 := by have q_ : (0 : Int) ≤ ((-1) * x + ((-1) * bw + 0)) + 999 := z4 ([(1, (-1)), (3, (-1))], 999) (List.mem_of_getElem? (i := 1) rfl); omega
      have n0 : a ≠ x := fun e_ => z5 (([(2, 1)], 0), ([(1, 1)], 0)) (List.mem_of_getElem? (i := 0) rfl) (by show (1 * a + 0) + 0 = (1 * x + 0) + 0; omega)
      have k0 : pI h' 30 (8 * b + g) = x + bw := (show pI h' 30 (8 * b + g) = (1 * x + (1 * bw + 0)) + 0 from z1 (30, (none, (((8 * b + g) : Nat) : Int)), ([(1, 1), (3, 1)], 0)) (List.mem_of_getElem? (i := 0) rfl)).trans (by omega)
      have k1 : pI h' 29 (8 * b + g) = -x + a := (show pI h' 29 (8 * b + g) = ((-1) * x + (1 * a + 0)) + 0 from z1 (29, (none, (((8 * b + g) : Nat) : Int)), ([(1, (-1)), (2, 1)], 0)) (List.mem_of_getElem? (i := 1) rfl)).trans (by omega)
      have k2 : pI h' 32 (8 * b + g) = em := (show pI h' 32 (8 * b + g) = (1 * em + 0) + 0 from z1 (32, (none, (((8 * b + g) : Nat) : Int)), ([(4, 1)], 0)) (List.mem_of_getElem? (i := 2) rfl)).trans (by omega)
      have p1 : r' = none := p1
      subst p1
      exact hR4 h' hi' hm c0 c1 n0 k0 k1 k2
    rcases List.mem_cons.mp he with rfl | he
    · obtain ⟨p1, -, hz⟩ := hp
      obtain ⟨⟨z1, z2, z3, z4⟩, z5, z6⟩ := hz
      have c0 : 0 ≤ a - 1 := by have q_ : (0 : Int) ≤ (1 * a + 0) + (-1) := z4 ([(2, 1)], (-1)) (List.mem_of_getElem? (i := 0) rfl); omega
      have c1 : 0 ≤ x + bw - 1000 := by have q_ : (0 : Int) ≤ (1 * x + (1 * bw + 0)) + (-1000) := z4 ([(1, 1), (3, 1)], (-1000)) (List.mem_of_getElem? (i := 1) rfl); omega
      have n0 : a ≠ x := fun e_ => z5 (([(2, 1)], 0), ([(1, 1)], 0)) (List.mem_of_getElem? (i := 0) rfl) (by show (1 * a + 0) + 0 = (1 * x + 0) + 0; omega)
      have k0 : pI h' 30 (8 * b + g) = 999 := (show pI h' 30 (8 * b + g) = 0 + 999 from z1 (30, (none, (((8 * b + g) : Nat) : Int)), ([], 999)) (List.mem_of_getElem? (i := 0) rfl)).trans (by omega)
      have k1 : pI h' 29 (8 * b + g) = -x + a := (show pI h' 29 (8 * b + g) = ((-1) * x + (1 * a + 0)) + 0 from z1 (29, (none, (((8 * b + g) : Nat) : Int)), ([(1, (-1)), (2, 1)], 0)) (List.mem_of_getElem? (i := 1) rfl)).trans (by omega)
      have k2 : pI h' 32 (8 * b + g) = em := (show pI h' 32 (8 * b + g) = (1 * em + 0) + 0 from z1 (32, (none, (((8 * b + g) : Nat) : Int)), ([(4, 1)], 0)) (List.mem_of_getElem? (i := 2) rfl)).trans (by omega)
      have p1 : r' = none := p1
      subst p1
      exact hR5 h' hi' hm c0 c1 n0 k0 k1 k2
    cases he
def kmV0_L (b : Nat) (g : Nat) : List sT := [.inr (.inl 0), .inl ((b : Int), (b : Int)), .inl ((g : Int), (g : Int))]
def kmV0_A (b : Nat) (g : Nat) : sAs := ([], [], [], [])
def kmV0_P (b : Nat) (g : Nat) : List sP0 := []
def kmV0_G (b : Nat) (g : Nat) : List sP0 := []
def kmV0_B (b : Nat) (g : Nat) : List (Nat × Nat × Int) := []
def kmV0_m (b : Nat) (g : Nat) : sM := []
def kmV0_e0 (b : Nat) (g : Nat) : sXe := (3, [.inl sf32, .inl sf32, .inr (.inl 0)], [(0, .inr (.inl 0)), (1, .inl sf32), (2, .inl sf32)], sA0, [], ([], [(0, ([], (g : Int))), (1, ([], (b : Int)))], [(1, ([], (b : Int))), (2, ([], (g : Int)))], []), [], [])
theorem kmV0_b : ((List.range 2).all fun b => ((List.range 8).all fun g => syfB swM sT0 (kmV0_m b g) 400 0 261 (kmV0_L b g) (kmV0_A b g) (kmV0_P b g) (kmV0_G b g) (kmV0_B b g) [kmV0_e0 b g] [])) = true := by decide +kernel
theorem kmV0 {l : Launch} {Γ : zG} {d : Nat} (hd : 0 ≤ d) {Kp : Option Value → zH → Prop} {h : zH} {b : Nat} (h_b : b < 2) {g : Nat} (h_g : g < 8) (hi : sInv swM h) {x_bb : Int32} (e_bb : x_bb.toInt = (b : Int)) {x_gg : Int32} (e_gg : x_gg.toInt = (g : Int))
    (hE0 : ∀ (lo' : zL) (h' : zH) (y0 : Int32) (y1 : Int32), sInv swM h' → sMd (kmV0_m b g) h h' → zget lo' 0 = some (.ref 0) → zI lo' 1 (b : Int) → zI lo' 2 (g : Int) → y0.toInt = (g : Int) → y1.toInt = (b : Int) → zX l Γ false (d + 1) (zhd 261) (zMQ' Γ false (zhd 261) Kp) 0 0 3 lo' [.int y0, .int y1, .ref 0] h') : zSem l Γ false (d + 1) (zhd 261) [.ref 0, .int x_bb, .int x_gg] h Kp := by
  refine syf_ok (mi := 261) (fun i => [(b : Int), (g : Int)].getD i 0) (zall_r (zall_r kmV0_b h_b) h_g) (fun _ _ hc _ => nomatch hc) hd ⟨_, _, rfl, rfl, ⟨_, _, rfl, ⟨x_bb, rfl, by show (b : Int) ≤ x_bb.toInt; omega, by show x_bb.toInt ≤ (b : Int); omega⟩, ⟨_, _, rfl, ⟨x_gg, rfl, by show (g : Int) ≤ x_gg.toInt; omega, by show x_gg.toInt ≤ (g : Int); omega⟩, rfl⟩⟩⟩ ⟨rfl, ⟨x_bb, rfl, e_bb, by show (b : Int) ≤ (b : Int); omega, by show (b : Int) ≤ (b : Int); omega⟩, ⟨x_gg, rfl, e_gg, by show (g : Int) ≤ (g : Int); omega, by show (g : Int) ≤ (g : Int); omega⟩, trivial⟩ ⟨(fun _ hc => nomatch hc), (fun _ hc => nomatch hc), (fun _ hc => nomatch hc), Or.inl rfl⟩ trivial trivial (fun _ hc => nomatch hc) hi ?_ ?_
  · intro e he lo' st' h' hp hi' hm
    rcases List.mem_cons.mp he with rfl | he
    · obtain ⟨p1, p2, -, hz⟩ := hp
      obtain ⟨⟨z1, z2, z3, z4⟩, z5, z6⟩ := hz
      have o0 : zget lo' 0 = some (.ref 0) := locR (p2 (0, .inr (.inl 0)) (List.mem_of_getElem? (i := 0) rfl))
      have o1 : zI lo' 1 (b : Int) := zI_of (p2 (1, .inl sf32) (List.mem_of_getElem? (i := 1) rfl)) (z3 (1, ([], (b : Int))) (List.mem_of_getElem? (i := 0) rfl)) (show 0 + (b : Int) = (b : Int) from by omega)
      have o2 : zI lo' 2 (g : Int) := zI_of (p2 (2, .inl sf32) (List.mem_of_getElem? (i := 2) rfl)) (z3 (2, ([], (g : Int))) (List.mem_of_getElem? (i := 1) rfl)) (show 0 + (g : Int) = (g : Int) from by omega)
      obtain ⟨_, _, rfl, ⟨y0, rfl, -⟩, p1⟩ := p1
      obtain ⟨_, _, rfl, ⟨y1, rfl, -⟩, p1⟩ := p1
      obtain ⟨_, _, rfl, hr, p1⟩ := p1
      have hr : _ = Value.ref 0 := hr
      subst hr
      have p1 : _ = [] := p1
      subst p1
      obtain ⟨v_, ev, hv⟩ := z2 (0, ([], (g : Int))) (List.mem_of_getElem? (i := 0) rfl)
      cases ev
      have s0 : y0.toInt = (g : Int) := (show y0.toInt = 0 + (g : Int) from hv).trans (by omega)
      obtain ⟨v_, ev, hv⟩ := z2 (1, ([], (b : Int))) (List.mem_of_getElem? (i := 1) rfl)
      cases ev
      have s1 : y1.toInt = (b : Int) := (show y1.toInt = 0 + (b : Int) from hv).trans (by omega)
      exact hE0 lo' h' y0 y1 hi' hm o0 o1 o2 s0 s1
    cases he
  · intro e he r' h' hp hi' hm
    cases he
def kmV1_L (b : Nat) (g : Nat) : List (Nat × sT) := [(0, .inr (.inl 0)), (1, .inl ((b : Int), (b : Int))), (2, .inl ((g : Int), (g : Int)))]
def kmV1_S (b : Nat) (g : Nat) : List sT := []
def kmV1_A (b : Nat) (g : Nat) : sAs := ([], [], [], [])
def kmV1_P (b : Nat) (g : Nat) : List sP0 := [(30, (none, (((8 * b + g) : Nat) : Int)), (0, 999))]
def kmV1_G (b : Nat) (g : Nat) : List sP0 := []
def kmV1_B (b : Nat) (g : Nat) : List (Nat × Nat × Int) := []
def kmV1_m (b : Nat) (g : Nat) : sM := []
def kmV1_e0 (b : Nat) (g : Nat) : sXe := (23, [.inl sf32, .inl sf32, .inr (.inl 0), .inl sf32, .inl sf32, .inr (.inl 30)], [(0, .inr (.inl 0)), (1, .inl sf32), (2, .inl sf32), (3, .inl sf32)], sA0, [], ([], [(0, ([], 0)), (1, ([], 2)), (3, ([(2, 1)], 0)), (4, ([], (8 * (b : Int) + (g : Int))))], [(1, ([], (b : Int))), (2, ([], (g : Int))), (3, ([], (8 * (b : Int) + (g : Int))))], []), [], [])
theorem kmV1_b : ((List.range 2).all fun b => ((List.range 8).all fun g => syeB swM sT0 (kmV1_m b g) 400 0 261 (kmV1_L b g) (kmV1_S b g) (kmV1_A b g) (kmV1_P b g) (kmV1_G b g) (kmV1_B b g) 6 [kmV1_e0 b g] [])) = true := by decide +kernel
theorem kmV1 {l : Launch} {Γ : zG} {d : Nat} (hd : 0 ≤ d) {Kp : Option Value → zH → Prop} {lo : zL} {h : zH} {b : Nat} (h_b : b < 2) {g : Nat} (h_g : g < 8) {bw : Int} (hi : sInv swM h) (b_bw : 0 ≤ bw ∧ bw ≤ 999) (l0 : zget lo 0 = some (.ref 0)) (l1 : zI lo 1 (b : Int)) (l2 : zI lo 2 (g : Int)) (p_bw : pI h 30 (8 * b + g) = bw)
    (hE0 : ∀ (lo' : zL) (h' : zH) (y0 : Int32) (y1 : Int32) (y3 : Int32) (y4 : Int32), sInv swM h' → sMd (kmV1_m b g) h h' → zget lo' 0 = some (.ref 0) → zI lo' 1 (b : Int) → zI lo' 2 (g : Int) → zI lo' 3 (8 * (b : Int) + (g : Int)) → y0.toInt = 0 → y1.toInt = 2 → y3.toInt = bw → y4.toInt = (8 * (b : Int) + (g : Int)) → zX l Γ false (d + 1) (zhd 261) (zMQ' Γ false (zhd 261) Kp) 0 0 23 lo' [.int y0, .int y1, .ref 0, .int y3, .int y4, .ref 30] h') : zX l Γ false (d + 1) (zhd 261) (zMQ' Γ false (zhd 261) Kp) 0 0 6 lo [] h := by
  refine sye_ok (mi := 261) (pc := 6) (fun i => [(b : Int), (g : Int), bw].getD i 0) (zall_r (zall_r kmV1_b h_b) h_g) (fun _ _ hc _ => nomatch hc) hd ⟨l0, zIm l1 (by show (b : Int) ≤ (b : Int); omega) (by show (b : Int) ≤ (b : Int); omega), zIm l2 (by show (g : Int) ≤ (g : Int); omega) (by show (g : Int) ≤ (g : Int); omega), trivial⟩ rfl ⟨(fun _ hc => nomatch hc), (fun _ hc => nomatch hc), (fun _ hc => nomatch hc), Or.inl rfl⟩ ⟨⟨p_bw, by show 0 ≤ bw; omega, by show bw ≤ 999; omega⟩, trivial⟩ trivial (fun _ hc => nomatch hc) hi ?_ ?_
  · intro e he lo' st' h' hp hi' hm
    rcases List.mem_cons.mp he with rfl | he
    · obtain ⟨p1, p2, -, hz⟩ := hp
      obtain ⟨⟨z1, z2, z3, z4⟩, z5, z6⟩ := hz
      have o0 : zget lo' 0 = some (.ref 0) := locR (p2 (0, .inr (.inl 0)) (List.mem_of_getElem? (i := 0) rfl))
      have o1 : zI lo' 1 (b : Int) := zI_of (p2 (1, .inl sf32) (List.mem_of_getElem? (i := 1) rfl)) (z3 (1, ([], (b : Int))) (List.mem_of_getElem? (i := 0) rfl)) (show 0 + (b : Int) = (b : Int) from by omega)
      have o2 : zI lo' 2 (g : Int) := zI_of (p2 (2, .inl sf32) (List.mem_of_getElem? (i := 2) rfl)) (z3 (2, ([], (g : Int))) (List.mem_of_getElem? (i := 1) rfl)) (show 0 + (g : Int) = (g : Int) from by omega)
      have o3 : zI lo' 3 (8 * (b : Int) + (g : Int)) := zI_of (p2 (3, .inl sf32) (List.mem_of_getElem? (i := 3) rfl)) (z3 (3, ([], (8 * (b : Int) + (g : Int)))) (List.mem_of_getElem? (i := 2) rfl)) (show 0 + (8 * (b : Int) + (g : Int)) = (8 * (b : Int) + (g : Int)) from by omega)
      obtain ⟨_, _, rfl, ⟨y0, rfl, -⟩, p1⟩ := p1
      obtain ⟨_, _, rfl, ⟨y1, rfl, -⟩, p1⟩ := p1
      obtain ⟨_, _, rfl, hr, p1⟩ := p1
      have hr : _ = Value.ref 0 := hr
      subst hr
      obtain ⟨_, _, rfl, ⟨y3, rfl, -⟩, p1⟩ := p1
      obtain ⟨_, _, rfl, ⟨y4, rfl, -⟩, p1⟩ := p1
      obtain ⟨_, _, rfl, hr, p1⟩ := p1
      have hr : _ = Value.ref 30 := hr
      subst hr
      have p1 : _ = [] := p1
      subst p1
      obtain ⟨v_, ev, hv⟩ := z2 (0, ([], 0)) (List.mem_of_getElem? (i := 0) rfl)
      cases ev
      have s0 : y0.toInt = 0 := (show y0.toInt = 0 + 0 from hv).trans (by omega)
      obtain ⟨v_, ev, hv⟩ := z2 (1, ([], 2)) (List.mem_of_getElem? (i := 1) rfl)
      cases ev
      have s1 : y1.toInt = 2 := (show y1.toInt = 0 + 2 from hv).trans (by omega)
      obtain ⟨v_, ev, hv⟩ := z2 (3, ([(2, 1)], 0)) (List.mem_of_getElem? (i := 2) rfl)
      cases ev
      have s3 : y3.toInt = bw := (show y3.toInt = (1 * bw + 0) + 0 from hv).trans (by omega)
      obtain ⟨v_, ev, hv⟩ := z2 (4, ([], (8 * (b : Int) + (g : Int)))) (List.mem_of_getElem? (i := 3) rfl)
      cases ev
      have s4 : y4.toInt = (8 * (b : Int) + (g : Int)) := (show y4.toInt = 0 + (8 * (b : Int) + (g : Int)) from hv).trans (by omega)
      exact hE0 lo' h' y0 y1 y3 y4 hi' hm o0 o1 o2 o3 s0 s1 s3 s4
    cases he
  · intro e he r' h' hp hi' hm
    cases he
def kmV2_L (b : Nat) (g : Nat) : List (Nat × sT) := [(0, .inr (.inl 0)), (3, .inl ((8 * (b : Int) + (g : Int)), (8 * (b : Int) + (g : Int))))]
def kmV2_S (b : Nat) (g : Nat) : List sT := [.inl (0, 99), .inl (0, 999), .inl ((8 * (b : Int) + (g : Int)), (8 * (b : Int) + (g : Int))), .inr (.inl 30)]
def kmV2_A (b : Nat) (g : Nat) : sAs := ([], [], [], [])
def kmV2_P (b : Nat) (g : Nat) : List sP0 := [(30, (none, (((8 * b + g) : Nat) : Int)), (0, 999))]
def kmV2_G (b : Nat) (g : Nat) : List sP0 := []
def kmV2_B (b : Nat) (g : Nat) : List (Nat × Nat × Int) := []
def kmV2_m (b : Nat) (g : Nat) : sM := []
def kmV2_e0 (b : Nat) (g : Nat) : sXe := (35, [.inl sf32, .inl sf32, .inl sf32, .inr (.inl 30)], [(0, .inr (.inl 0))], sA0, [], ([], [(0, ([(4, 1)], 0)), (1, ([(2, 1)], 0)), (2, ([], (8 * (b : Int) + (g : Int))))], [], [([(1, 1), (4, (-1))], 0)]), [], [])
def kmV2_e1 (b : Nat) (g : Nat) : sXe := (35, [.inl sf32, .inl sf32, .inl sf32, .inr (.inl 30)], [(0, .inr (.inl 0))], sA0, [], ([], [(0, ([(1, 1)], 0)), (1, ([(2, 1)], 0)), (2, ([], (8 * (b : Int) + (g : Int))))], [], [([(1, (-1)), (4, 1)], (-1))]), [], [])
theorem kmV2_b : ((List.range 2).all fun b => ((List.range 8).all fun g => syeB swM sT0 (kmV2_m b g) 400 1 261 (kmV2_L b g) (kmV2_S b g) (kmV2_A b g) (kmV2_P b g) (kmV2_G b g) (kmV2_B b g) 26 [kmV2_e0 b g, kmV2_e1 b g] [])) = true := by decide +kernel
theorem kmV2 {l : Launch} {Γ : zG} {d : Nat} (hd : 1 ≤ d) {Kp : Option Value → zH → Prop} {lo : zL} {h : zH} {b : Nat} (h_b : b < 2) {g : Nat} (h_g : g < 8) {x b1 bw : Int} (hi : sInv swM h) (b_x : 0 ≤ x ∧ x ≤ 99) (b_b1 : 0 ≤ b1 ∧ b1 ≤ 999) (b_bw : 0 ≤ bw ∧ bw ≤ 999) (l0 : zget lo 0 = some (.ref 0)) (l3 : zI lo 3 (8 * (b : Int) + (g : Int))) {x_x : Int32} (e_x : x_x.toInt = x) {x_b1 : Int32} (e_b1 : x_b1.toInt = b1) {x_i2 : Int32} (e_i2 : x_i2.toInt = (8 * (b : Int) + (g : Int))) (p_bw : pI h 30 (8 * b + g) = bw)
    (hE0 : ∀ (lo' : zL) (h' : zH) (y0 : Int32) (y1 : Int32) (y2 : Int32), sInv swM h' → sMd (kmV2_m b g) h h' → 0 ≤ x - bw → zget lo' 0 = some (.ref 0) → y0.toInt = bw → y1.toInt = b1 → y2.toInt = (8 * (b : Int) + (g : Int)) → zX l Γ false (d + 1) (zhd 261) (zMQ' Γ false (zhd 261) Kp) 0 0 35 lo' [.int y0, .int y1, .int y2, .ref 30] h')
    (hE1 : ∀ (lo' : zL) (h' : zH) (y0 : Int32) (y1 : Int32) (y2 : Int32), sInv swM h' → sMd (kmV2_m b g) h h' → 0 ≤ -x + bw - 1 → zget lo' 0 = some (.ref 0) → y0.toInt = x → y1.toInt = b1 → y2.toInt = (8 * (b : Int) + (g : Int)) → zX l Γ false (d + 1) (zhd 261) (zMQ' Γ false (zhd 261) Kp) 0 0 35 lo' [.int y0, .int y1, .int y2, .ref 30] h') : zX l Γ false (d + 1) (zhd 261) (zMQ' Γ false (zhd 261) Kp) 0 0 26 lo [.int x_x, .int x_b1, .int x_i2, .ref 30] h := by
  refine sye_ok (mi := 261) (pc := 26) (fun i => [(8 * (b : Int) + (g : Int)), x, b1, (8 * (b : Int) + (g : Int)), bw].getD i 0) (zall_r (zall_r kmV2_b h_b) h_g) (fun _ _ hc _ => nomatch hc) hd ⟨l0, zIm l3 (by show (8 * (b : Int) + (g : Int)) ≤ (8 * (b : Int) + (g : Int)); omega) (by show (8 * (b : Int) + (g : Int)) ≤ (8 * (b : Int) + (g : Int)); omega), trivial⟩ ⟨x_x, _, rfl, e_x, ⟨by show 0 ≤ x; omega, by show x ≤ 99; omega⟩, ⟨x_b1, _, rfl, e_b1, ⟨by show 0 ≤ b1; omega, by show b1 ≤ 999; omega⟩, ⟨x_i2, _, rfl, e_i2, ⟨by show (8 * (b : Int) + (g : Int)) ≤ (8 * (b : Int) + (g : Int)); omega, by show (8 * (b : Int) + (g : Int)) ≤ (8 * (b : Int) + (g : Int)); omega⟩, ⟨_, rfl, rfl⟩⟩⟩⟩ ⟨(fun _ hc => nomatch hc), (fun _ hc => nomatch hc), (fun _ hc => nomatch hc), Or.inl rfl⟩ ⟨⟨p_bw, by show 0 ≤ bw; omega, by show bw ≤ 999; omega⟩, trivial⟩ trivial (fun _ hc => nomatch hc) hi ?_ ?_
  · intro e he lo' st' h' hp hi' hm
    rcases List.mem_cons.mp he with rfl | he
    · obtain ⟨p1, p2, -, hz⟩ := hp
      obtain ⟨⟨z1, z2, z3, z4⟩, z5, z6⟩ := hz
      have c0 : 0 ≤ x - bw := by have q_ : (0 : Int) ≤ (1 * x + ((-1) * bw + 0)) + 0 := z4 ([(1, 1), (4, (-1))], 0) (List.mem_of_getElem? (i := 0) rfl); omega
      have o0 : zget lo' 0 = some (.ref 0) := locR (p2 (0, .inr (.inl 0)) (List.mem_of_getElem? (i := 0) rfl))
      obtain ⟨_, _, rfl, ⟨y0, rfl, -⟩, p1⟩ := p1
      obtain ⟨_, _, rfl, ⟨y1, rfl, -⟩, p1⟩ := p1
      obtain ⟨_, _, rfl, ⟨y2, rfl, -⟩, p1⟩ := p1
      obtain ⟨_, _, rfl, hr, p1⟩ := p1
      have hr : _ = Value.ref 30 := hr
      subst hr
      have p1 : _ = [] := p1
      subst p1
      obtain ⟨v_, ev, hv⟩ := z2 (0, ([(4, 1)], 0)) (List.mem_of_getElem? (i := 0) rfl)
      cases ev
      have s0 : y0.toInt = bw := (show y0.toInt = (1 * bw + 0) + 0 from hv).trans (by omega)
      obtain ⟨v_, ev, hv⟩ := z2 (1, ([(2, 1)], 0)) (List.mem_of_getElem? (i := 1) rfl)
      cases ev
      have s1 : y1.toInt = b1 := (show y1.toInt = (1 * b1 + 0) + 0 from hv).trans (by omega)
      obtain ⟨v_, ev, hv⟩ := z2 (2, ([], (8 * (b : Int) + (g : Int)))) (List.mem_of_getElem? (i := 2) rfl)
      cases ev
      have s2 : y2.toInt = (8 * (b : Int) + (g : Int)) := (show y2.toInt = 0 + (8 * (b : Int) + (g : Int)) from hv).trans (by omega)
      exact hE0 lo' h' y0 y1 y2 hi' hm c0 o0 s0 s1 s2
    rcases List.mem_cons.mp he with rfl | he
    · obtain ⟨p1, p2, -, hz⟩ := hp
      obtain ⟨⟨z1, z2, z3, z4⟩, z5, z6⟩ := hz
      have c0 : 0 ≤ -x + bw - 1 := by have q_ : (0 : Int) ≤ ((-1) * x + (1 * bw + 0)) + (-1) := z4 ([(1, (-1)), (4, 1)], (-1)) (List.mem_of_getElem? (i := 0) rfl); omega
      have o0 : zget lo' 0 = some (.ref 0) := locR (p2 (0, .inr (.inl 0)) (List.mem_of_getElem? (i := 0) rfl))
      obtain ⟨_, _, rfl, ⟨y0, rfl, -⟩, p1⟩ := p1
      obtain ⟨_, _, rfl, ⟨y1, rfl, -⟩, p1⟩ := p1
      obtain ⟨_, _, rfl, ⟨y2, rfl, -⟩, p1⟩ := p1
      obtain ⟨_, _, rfl, hr, p1⟩ := p1
      have hr : _ = Value.ref 30 := hr
      subst hr
      have p1 : _ = [] := p1
      subst p1
      obtain ⟨v_, ev, hv⟩ := z2 (0, ([(1, 1)], 0)) (List.mem_of_getElem? (i := 0) rfl)
      cases ev
      have s0 : y0.toInt = x := (show y0.toInt = (1 * x + 0) + 0 from hv).trans (by omega)
      obtain ⟨v_, ev, hv⟩ := z2 (1, ([(2, 1)], 0)) (List.mem_of_getElem? (i := 1) rfl)
      cases ev
      have s1 : y1.toInt = b1 := (show y1.toInt = (1 * b1 + 0) + 0 from hv).trans (by omega)
      obtain ⟨v_, ev, hv⟩ := z2 (2, ([], (8 * (b : Int) + (g : Int)))) (List.mem_of_getElem? (i := 2) rfl)
      cases ev
      have s2 : y2.toInt = (8 * (b : Int) + (g : Int)) := (show y2.toInt = 0 + (8 * (b : Int) + (g : Int)) from hv).trans (by omega)
      exact hE1 lo' h' y0 y1 y2 hi' hm c0 o0 s0 s1 s2
    cases he
  · intro e he r' h' hp hi' hm
    cases he
def kmV3_L (b : Nat) (g : Nat) : List (Nat × sT) := [(0, .inr (.inl 0))]
def kmV3_S (b : Nat) (g : Nat) : List sT := [.inl (0, 999), .inl (0, 999), .inl ((8 * (b : Int) + (g : Int)), (8 * (b : Int) + (g : Int))), .inr (.inl 30)]
def kmV3_A (b : Nat) (g : Nat) : sAs := ([], [], [], [])
def kmV3_P (b : Nat) (g : Nat) : List sP0 := []
def kmV3_G (b : Nat) (g : Nat) : List sP0 := []
def kmV3_B (b : Nat) (g : Nat) : List (Nat × Nat × Int) := [(1, 0, 0)]
def kmV3_m (b : Nat) (g : Nat) : sM := [(30, (8 * b + g), (8 * b + g + 1))]
def kmV3_r0 (b : Nat) (g : Nat) : sXr := (none, sA0, [], ([(30, (none, (((8 * b + g) : Nat) : Int)), ([(0, (-1)), (1, 1)], 0))], [], [], []), [], [])
theorem kmV3_b : ((List.range 2).all fun b => ((List.range 8).all fun g => syeB swM sT0 (kmV3_m b g) 400 0 261 (kmV3_L b g) (kmV3_S b g) (kmV3_A b g) (kmV3_P b g) (kmV3_G b g) (kmV3_B b g) 35 [] [kmV3_r0 b g])) = true := by decide +kernel
theorem kmV3 {l : Launch} {Γ : zG} {d : Nat} (hd : 0 ≤ d) {Kp : Option Value → zH → Prop} {lo : zL} {h : zH} {b : Nat} (h_b : b < 2) {g : Nat} (h_g : g < 8) {y b1 : Int} (hi : sInv swM h) (b_y : 0 ≤ y ∧ y ≤ 999) (b_b1 : 0 ≤ b1 ∧ b1 ≤ 999) (l0 : zget lo 0 = some (.ref 0)) {x_y : Int32} (e_y : x_y.toInt = y) {x_b1 : Int32} (e_b1 : x_b1.toInt = b1) {x_i2 : Int32} (e_i2 : x_i2.toInt = (8 * (b : Int) + (g : Int))) (d0 : 0 ≤ b1 - y)
    (hR0 : ∀ (h' : zH), sInv swM h' → sMd (kmV3_m b g) h h' → pI h' 30 (8 * b + g) = -y + b1 → Kp none h') : zX l Γ false (d + 1) (zhd 261) (zMQ' Γ false (zhd 261) Kp) 0 0 35 lo [.int x_y, .int x_b1, .int x_i2, .ref 30] h := by
  refine sye_ok (mi := 261) (pc := 35) (fun i => [y, b1, (8 * (b : Int) + (g : Int))].getD i 0) (zall_r (zall_r kmV3_b h_b) h_g) (fun _ _ hc _ => nomatch hc) hd ⟨l0, trivial⟩ ⟨x_y, _, rfl, e_y, ⟨by show 0 ≤ y; omega, by show y ≤ 999; omega⟩, ⟨x_b1, _, rfl, e_b1, ⟨by show 0 ≤ b1; omega, by show b1 ≤ 999; omega⟩, ⟨x_i2, _, rfl, e_i2, ⟨by show (8 * (b : Int) + (g : Int)) ≤ (8 * (b : Int) + (g : Int)); omega, by show (8 * (b : Int) + (g : Int)) ≤ (8 * (b : Int) + (g : Int)); omega⟩, ⟨_, rfl, rfl⟩⟩⟩⟩ ⟨(fun _ hc => nomatch hc), (fun _ hc => nomatch hc), (fun _ hc => nomatch hc), Or.inl rfl⟩ trivial trivial (sfm d0 (fun _ hc => nomatch hc)) hi ?_ ?_
  · intro e he lo' st' h' hp hi' hm
    cases he
  · intro e he r' h' hp hi' hm
    rcases List.mem_cons.mp he with rfl | he
    · obtain ⟨p1, -, hz⟩ := hp
      obtain ⟨⟨z1, z2, z3, z4⟩, z5, z6⟩ := hz
      have k0 : pI h' 30 (8 * b + g) = -y + b1 := (show pI h' 30 (8 * b + g) = ((-1) * y + (1 * b1 + 0)) + 0 from z1 (30, (none, (((8 * b + g) : Nat) : Int)), ([(0, (-1)), (1, 1)], 0)) (List.mem_of_getElem? (i := 0) rfl)).trans (by omega)
      have p1 : r' = none := p1
      subst p1
      exact hR0 h' hi' hm k0
    cases he
