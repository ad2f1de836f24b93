def kcSw_L (g : Nat) (u : Nat) : List sT := [.inr (.inl (12 * u + 43)), .inl ((g : Int), (g : Int))]
def kcSw_A (g : Nat) (u : Nat) : sAs := ([], [], [], [])
def kcSw_P (g : Nat) (u : Nat) : List sP0 := [((12 * u + 44), (none, ((g : Nat) : Int)), sf32), ((12 * u + 45), (none, ((g : Nat) : Int)), sf32)]
def kcSw_G (g : Nat) (u : Nat) : List sP0 := []
def kcSw_B (g : Nat) (u : Nat) : List (Nat × Nat × Int) := []
def kcSw_m (g : Nat) (u : Nat) : sM := [((12 * u + 44), g, (g + 1)), ((12 * u + 45), g, (g + 1))]
def kcSw_r0 (g : Nat) (u : Nat) : sXr := (none, sA0, [], ([((12 * u + 45), (none, ((g : Nat) : Int)), ([(1, 1)], 0)), ((12 * u + 44), (none, ((g : Nat) : Int)), ([(2, 1)], 0))], [], [], []), [], [])
theorem kcSw_b : ((List.range 8).all fun g => ((List.range 2).all fun u => syfB swC sT0 (kcSw_m g u) 400 0 92 (kcSw_L g u) (kcSw_A g u) (kcSw_P g u) (kcSw_G g u) (kcSw_B g u) [] [kcSw_r0 g u])) = true := by decide +kernel
theorem kcSw {l : Launch} {Γ : zG} {d : Nat} (hd : 0 ≤ d) {Kp : Option Value → zH → Prop} {h : zH} {g : Nat} (h_g : g < 8) {u : Nat} (h_u : u < 2) {a b : Int} (hi : sInv swC h) (b_a : (-2147483648) ≤ a ∧ a ≤ 2147483647) (b_b : (-2147483648) ≤ b ∧ b ≤ 2147483647) {x_gg : Int32} (e_gg : x_gg.toInt = (g : Int)) (p_a : pI h (12 * u + 44) g = a) (p_b : pI h (12 * u + 45) g = b)
    (hR0 : ∀ (h' : zH), sInv swC h' → sMd (kcSw_m g u) h h' → pI h' (12 * u + 45) g = a → pI h' (12 * u + 44) g = b → Kp none h') : zSem l Γ false (d + 1) (zhd 92) [.ref (12 * u + 43), .int x_gg] h Kp := by
  refine syf_ok (mi := 92) (fun i => [(g : Int), a, b].getD i 0) (zall_r (zall_r kcSw_b h_g) h_u) (fun _ _ hc _ => nomatch hc) hd ⟨_, _, rfl, rfl, ⟨_, _, rfl, ⟨x_gg, rfl, by show (g : Int) ≤ x_gg.toInt; omega, by show x_gg.toInt ≤ (g : Int); omega⟩, rfl⟩⟩ ⟨rfl, ⟨x_gg, rfl, e_gg, by show (g : Int) ≤ (g : Int); omega, by show (g : Int) ≤ (g : Int); omega⟩, trivial⟩ ⟨(fun _ hc => nomatch hc), (fun _ hc => nomatch hc), (fun _ hc => nomatch hc), Or.inl rfl⟩ ⟨⟨p_a, by show (-2147483648) ≤ a; omega, by show a ≤ 2147483647; omega⟩, ⟨p_b, by show (-2147483648) ≤ b; omega, by show b ≤ 2147483647; omega⟩, trivial⟩ trivial (fun _ hc => nomatch hc) hi ?_ ?_
  · intro e he lo' st' h' hp hi' hm
    cases he
  · intro e he r' h' hp hi' hm
    rcases List.mem_cons.mp he with rfl | he
    · obtain ⟨p1, -, hz⟩ := hp
      obtain ⟨⟨z1, z2, z3, z4⟩, z5, z6⟩ := hz
      have k0 : pI h' (12 * u + 45) g = a := (show pI h' (12 * u + 45) g = (1 * a + 0) + 0 from z1 ((12 * u + 45), (none, ((g : Nat) : Int)), ([(1, 1)], 0)) (List.mem_of_getElem? (i := 0) rfl)).trans (by omega)
      have k1 : pI h' (12 * u + 44) g = b := (show pI h' (12 * u + 44) g = (1 * b + 0) + 0 from z1 ((12 * u + 44), (none, ((g : Nat) : Int)), ([(2, 1)], 0)) (List.mem_of_getElem? (i := 1) rfl)).trans (by omega)
      have p1 : r' = none := p1
      subst p1
      exact hR0 h' hi' hm k0 k1
    cases he
def kcT0_L (u : Nat) : List sT := [.inr (.inl 61), .inr (.inl (12 * u + 43))]
def kcT0_A (u : Nat) : sAs := ([], [], [], [])
def kcT0_P (u : Nat) : List sP0 := []
def kcT0_G (u : Nat) : List sP0 := []
def kcT0_B (u : Nat) : List (Nat × Nat × Int) := []
def kcT0_m (u : Nat) : sM := []
def kcT0_e0 (u : Nat) : sXe := (2, [], [(0, .inr (.inl 61)), (1, .inr (.inl (12 * u + 43))), (2, .inl sf32)], sA0, [], ([], [], [(2, ([], 0))], []), [], [])
theorem kcT0_b : ((List.range 2).all fun u => syfB swC sT0 (kcT0_m u) 400 0 101 (kcT0_L u) (kcT0_A u) (kcT0_P u) (kcT0_G u) (kcT0_B u) [kcT0_e0 u] []) = true := by decide +kernel
theorem kcT0 {l : Launch} {Γ : zG} {d : Nat} (hd : 0 ≤ d) {Kp : Option Value → zH → Prop} {h : zH} {u : Nat} (h_u : u < 2) (hi : sInv swC h) 
    (hE0 : ∀ (lo' : zL) (h' : zH), sInv swC h' → sMd (kcT0_m u) h h' → zget lo' 0 = some (.ref 61) → zget lo' 1 = some (.ref (12 * u + 43)) → zI lo' 2 0 → zX l Γ false (d + 1) (zhd 101) (zMQ' Γ false (zhd 101) Kp) 0 0 2 lo' [] h') : zSem l Γ false (d + 1) (zhd 101) [.ref 61, .ref (12 * u + 43)] h Kp := by
  refine syf_ok (mi := 101) (fun i => [].getD i 0) (zall_r kcT0_b h_u) (fun _ _ hc _ => nomatch hc) hd ⟨_, _, rfl, rfl, ⟨_, _, rfl, rfl, rfl⟩⟩ ⟨rfl, rfl, trivial⟩ ⟨(fun _ hc => nomatch hc), (fun _ hc => nomatch hc), (fun _ hc => nomatch hc), Or.inl rfl⟩ trivial trivial (fun _ hc => nomatch hc) hi ?_ ?_
  · intro e he lo' st' h' hp hi' hm
    rcases List.mem_cons.mp he with rfl | he
    · obtain ⟨p1, p2, -, hz⟩ := hp
      obtain ⟨⟨z1, z2, z3, z4⟩, z5, z6⟩ := hz
      have o0 : zget lo' 0 = some (.ref 61) := locR (p2 (0, .inr (.inl 61)) (List.mem_of_getElem? (i := 0) rfl))
      have o1 : zget lo' 1 = some (.ref (12 * u + 43)) := locR (p2 (1, .inr (.inl (12 * u + 43))) (List.mem_of_getElem? (i := 1) rfl))
      have o2 : zI lo' 2 0 := zI_of (p2 (2, .inl sf32) (List.mem_of_getElem? (i := 2) rfl)) (z3 (2, ([], 0)) (List.mem_of_getElem? (i := 0) rfl)) (show 0 + 0 = 0 from by omega)
      have p1 : _ = [] := p1
      subst p1
      exact hE0 lo' h' hi' hm o0 o1 o2
    cases he
  · intro e he r' h' hp hi' hm
    cases he
def kcT1_L (r : Nat) (t : Nat) (u : Nat) : List (Nat × sT) := [(0, .inr (.inl 61)), (1, .inr (.inl (12 * u + 43))), (2, .inl ((r : Int), (r : Int)))]
def kcT1_S (r : Nat) (t : Nat) (u : Nat) : List sT := []
def kcT1_A (r : Nat) (t : Nat) (u : Nat) : sAs := ([], [(61, 0, (17 * t + 9))], [], [])
def kcT1_P (r : Nat) (t : Nat) (u : Nat) : List sP0 := [((17 * t + 14), (none, 3), (((r : Int) + 1), 10)), ((17 * t + 15), (none, ((2 * r : Nat) : Int)), (0, 7)), ((17 * t + 15), (none, (((2 * r + 1) : Nat) : Int)), sf32), ((12 * u + 43), (none, 0), sf32)]
def kcT1_G (r : Nat) (t : Nat) (u : Nat) : List sP0 := []
def kcT1_B (r : Nat) (t : Nat) (u : Nat) : List (Nat × Nat × Int) := []
def kcT1_m (r : Nat) (t : Nat) (u : Nat) : sM := []
def kcT1_e0 (r : Nat) (t : Nat) (u : Nat) : sXe := (48, [.inl sf32, .inr (.inl (12 * u + 43))], [(0, .inr (.inl 61)), (1, .inr (.inl (12 * u + 43))), (2, .inl sf32)], sA0, [], ([], [(0, ([(2, 1)], 0))], [(2, ([], (r : Int)))], [([(3, 1), (4, (-1))], 0), ([(3, (-1)), (4, 1)], 0)]), [], [])
def kcT1_e1 (r : Nat) (t : Nat) (u : Nat) : sXe := (2, [], [(0, .inr (.inl 61)), (1, .inr (.inl (12 * u + 43))), (2, .inl sf32)], sA0, [], ([], [], [(2, ([], ((r : Int) + 1)))], []), [(([(3, 1)], 0), ([(4, 1)], 0))], [])
theorem kcT1_b : ((List.range 10).all fun r => ((List.range 2).all fun t => ((List.range 2).all fun u => syeB swC sT0 (kcT1_m r t u) 400 1 101 (kcT1_L r t u) (kcT1_S r t u) (kcT1_A r t u) (kcT1_P r t u) (kcT1_G r t u) (kcT1_B r t u) 2 [kcT1_e0 r t u, kcT1_e1 r t u] []))) = true := by decide +kernel
theorem kcT1 {l : Launch} {Γ : zG} {d : Nat} (hd : 1 ≤ d) {Kp : Option Value → zH → Prop} {lo : zL} {h : zH} {r : Nat} (h_r : r < 10) {t : Nat} (h_t : t < 2) {u : Nat} (h_u : u < 2) {n gl mn m : Int} (hi : sInv swC h) (b_n : ((r : Int) + 1) ≤ n ∧ n ≤ 10) (b_gl : 0 ≤ gl ∧ gl ≤ 7) (b_mn : (-2147483648) ≤ mn ∧ mn ≤ 2147483647) (b_m : (-2147483648) ≤ m ∧ m ≤ 2147483647) (l0 : zget lo 0 = some (.ref 61)) (l1 : zget lo 1 = some (.ref (12 * u + 43))) (l2 : zI lo 2 (r : Int)) (p_n : pI h (17 * t + 14) 3 = n) (p_gl : pI h (17 * t + 15) (2 * r) = gl) (p_mn : pI h (17 * t + 15) (2 * r + 1) = mn) (p_m : pI h (12 * u + 43) 0 = m) (q0 : h.2.2.2 61 0 = some (17 * t + 9))
    (hE0 : ∀ (lo' : zL) (h' : zH) (y0 : Int32), sInv swC h' → sMd (kcT1_m r t u) h h' → mn = m → zget lo' 0 = some (.ref 61) → zget lo' 1 = some (.ref (12 * u + 43)) → zI lo' 2 (r : Int) → y0.toInt = gl → zX l Γ false (d + 1) (zhd 101) (zMQ' Γ false (zhd 101) Kp) 0 0 48 lo' [.int y0, .ref (12 * u + 43)] h')
    (hE1 : ∀ (lo' : zL) (h' : zH), sInv swC h' → sMd (kcT1_m r t u) h h' → mn ≠ m → zget lo' 0 = some (.ref 61) → zget lo' 1 = some (.ref (12 * u + 43)) → zI lo' 2 ((r : Int) + 1) → zX l Γ false (d + 1) (zhd 101) (zMQ' Γ false (zhd 101) Kp) 0 0 2 lo' [] h') : zX l Γ false (d + 1) (zhd 101) (zMQ' Γ false (zhd 101) Kp) 0 0 2 lo [] h := by
  refine sye_ok (mi := 101) (pc := 2) (fun i => [(r : Int), n, gl, mn, m].getD i 0) (zall_r (zall_r (zall_r kcT1_b h_r) h_t) h_u) (fun _ _ hc _ => nomatch hc) hd ⟨l0, l1, zIm l2 (by show (r : Int) ≤ (r : Int); omega) (by show (r : Int) ≤ (r : Int); omega), trivial⟩ rfl ⟨(fun _ hc => nomatch hc), (sfm q0 (fun _ hc => nomatch hc)), (fun _ hc => nomatch hc), Or.inl rfl⟩ ⟨⟨p_n, by show ((r : Int) + 1) ≤ n; omega, by show n ≤ 10; omega⟩, ⟨p_gl, by show 0 ≤ gl; omega, by show gl ≤ 7; omega⟩, ⟨p_mn, by show (-2147483648) ≤ mn; omega, by show mn ≤ 2147483647; omega⟩, ⟨p_m, by show (-2147483648) ≤ m; omega, by show m ≤ 2147483647; omega⟩, trivial⟩ trivial (fun _ hc => nomatch hc) hi ?_ ?_
  · intro e he lo' st' h' hp hi' hm
    rcases List.mem_cons.mp he with rfl | he
    · obtain ⟨p1, p2, -, hz⟩ := hp
      obtain ⟨⟨z1, z2, z3, z4⟩, z5, z6⟩ := hz
      have c0 : mn = m := by have q_ : (0 : Int) ≤ (1 * mn + ((-1) * m + 0)) + 0 := z4 ([(3, 1), (4, (-1))], 0) (List.mem_of_getElem? (i := 0) rfl); have q2_ : (0 : Int) ≤ ((-1) * mn + (1 * m + 0)) + 0 := z4 ([(3, (-1)), (4, 1)], 0) (List.mem_of_getElem? (i := 1) rfl); omega
      have o0 : zget lo' 0 = some (.ref 61) := locR (p2 (0, .inr (.inl 61)) (List.mem_of_getElem? (i := 0) rfl))
      have o1 : zget lo' 1 = some (.ref (12 * u + 43)) := locR (p2 (1, .inr (.inl (12 * u + 43))) (List.mem_of_getElem? (i := 1) rfl))
      have o2 : zI lo' 2 (r : Int) := zI_of (p2 (2, .inl sf32) (List.mem_of_getElem? (i := 2) rfl)) (z3 (2, ([], (r : Int))) (List.mem_of_getElem? (i := 0) rfl)) (show 0 + (r : Int) = (r : Int) from by omega)
      obtain ⟨_, _, rfl, ⟨y0, rfl, -⟩, p1⟩ := p1
      obtain ⟨_, _, rfl, hr, p1⟩ := p1
      have hr : _ = Value.ref (12 * u + 43) := hr
      subst hr
      have p1 : _ = [] := p1
      subst p1
      obtain ⟨v_, ev, hv⟩ := z2 (0, ([(2, 1)], 0)) (List.mem_of_getElem? (i := 0) rfl)
      cases ev
      have s0 : y0.toInt = gl := (show y0.toInt = (1 * gl + 0) + 0 from hv).trans (by omega)
      exact hE0 lo' h' y0 hi' hm c0 o0 o1 o2 s0
    rcases List.mem_cons.mp he with rfl | he
    · obtain ⟨p1, p2, -, hz⟩ := hp
      obtain ⟨⟨z1, z2, z3, z4⟩, z5, z6⟩ := hz
      have n0 : mn ≠ m := fun e_ => z5 (([(3, 1)], 0), ([(4, 1)], 0)) (List.mem_of_getElem? (i := 0) rfl) (by show (1 * mn + 0) + 0 = (1 * m + 0) + 0; omega)
      have o0 : zget lo' 0 = some (.ref 61) := locR (p2 (0, .inr (.inl 61)) (List.mem_of_getElem? (i := 0) rfl))
      have o1 : zget lo' 1 = some (.ref (12 * u + 43)) := locR (p2 (1, .inr (.inl (12 * u + 43))) (List.mem_of_getElem? (i := 1) rfl))
      have o2 : zI lo' 2 ((r : Int) + 1) := zI_of (p2 (2, .inl sf32) (List.mem_of_getElem? (i := 2) rfl)) (z3 (2, ([], ((r : Int) + 1))) (List.mem_of_getElem? (i := 0) rfl)) (show 0 + ((r : Int) + 1) = ((r : Int) + 1) from by omega)
      have p1 : _ = [] := p1
      subst p1
      exact hE1 lo' h' hi' hm n0 o0 o1 o2
    cases he
  · intro e he r' h' hp hi' hm
    cases he
def kcT2_L (u : Nat) : List (Nat × sT) := [(0, .inr (.inl 61)), (1, .inr (.inl (12 * u + 43))), (2, .inl (0, 9))]
def kcT2_S (u : Nat) : List sT := []
def kcT2_A (u : Nat) : sAs := ([], [], [], [])
def kcT2_P (u : Nat) : List sP0 := []
def kcT2_G (u : Nat) : List sP0 := []
def kcT2_B (u : Nat) : List (Nat × Nat × Int) := []
def kcT2_m (u : Nat) : sM := []
def kcT2_e0 (u : Nat) : sXe := (2, [], [(0, .inr (.inl 61)), (1, .inr (.inl (12 * u + 43))), (2, .inl sf32)], sA0, [], ([], [], [(2, ([(0, 1)], 1))], []), [], [])
theorem kcT2_b : ((List.range 2).all fun u => syeB swC sT0 (kcT2_m u) 400 0 101 (kcT2_L u) (kcT2_S u) (kcT2_A u) (kcT2_P u) (kcT2_G u) (kcT2_B u) 51 [kcT2_e0 u] []) = true := by decide +kernel
theorem kcT2 {l : Launch} {Γ : zG} {d : Nat} (hd : 0 ≤ d) {Kp : Option Value → zH → Prop} {lo : zL} {h : zH} {u : Nat} (h_u : u < 2) {ri : Int} (hi : sInv swC h) (b_ri : 0 ≤ ri ∧ ri ≤ 9) (l0 : zget lo 0 = some (.ref 61)) (l1 : zget lo 1 = some (.ref (12 * u + 43))) (l2 : zI lo 2 ri)
    (hE0 : ∀ (lo' : zL) (h' : zH), sInv swC h' → sMd (kcT2_m u) h h' → zget lo' 0 = some (.ref 61) → zget lo' 1 = some (.ref (12 * u + 43)) → zI lo' 2 (ri + 1) → zX l Γ false (d + 1) (zhd 101) (zMQ' Γ false (zhd 101) Kp) 0 0 2 lo' [] h') : zX l Γ false (d + 1) (zhd 101) (zMQ' Γ false (zhd 101) Kp) 0 0 51 lo [] h := by
  refine sye_ok (mi := 101) (pc := 51) (fun i => [ri].getD i 0) (zall_r kcT2_b h_u) (fun _ _ hc _ => nomatch hc) hd ⟨l0, l1, zIm l2 (by show 0 ≤ ri; omega) (by show ri ≤ 9; omega), trivial⟩ rfl ⟨(fun _ hc => nomatch hc), (fun _ hc => nomatch hc), (fun _ hc => nomatch hc), Or.inl rfl⟩ trivial trivial (fun _ hc => nomatch hc) hi ?_ ?_
  · intro e he lo' st' h' hp hi' hm
    rcases List.mem_cons.mp he with rfl | he
    · obtain ⟨p1, p2, -, hz⟩ := hp
      obtain ⟨⟨z1, z2, z3, z4⟩, z5, z6⟩ := hz
      have o0 : zget lo' 0 = some (.ref 61) := locR (p2 (0, .inr (.inl 61)) (List.mem_of_getElem? (i := 0) rfl))
      have o1 : zget lo' 1 = some (.ref (12 * u + 43)) := locR (p2 (1, .inr (.inl (12 * u + 43))) (List.mem_of_getElem? (i := 1) rfl))
      have o2 : zI lo' 2 (ri + 1) := zI_of (p2 (2, .inl sf32) (List.mem_of_getElem? (i := 2) rfl)) (z3 (2, ([(0, 1)], 1)) (List.mem_of_getElem? (i := 0) rfl)) (show (1 * ri + 0) + 1 = ri + 1 from by omega)
      have p1 : _ = [] := p1
      subst p1
      exact hE0 lo' h' hi' hm o0 o1 o2
    cases he
  · intro e he r' h' hp hi' hm
    cases he
def kcT3_L (t : Nat) (u : Nat) : List (Nat × sT) := [(0, .inr (.inl 61)), (1, .inr (.inl (12 * u + 43))), (2, .inl (0, 10))]
def kcT3_S (t : Nat) (u : Nat) : List sT := []
def kcT3_A (t : Nat) (u : Nat) : sAs := ([], [(61, 0, (17 * t + 9))], [], [])
def kcT3_P (t : Nat) (u : Nat) : List sP0 := [((17 * t + 14), (none, 3), (0, 10))]
def kcT3_G (t : Nat) (u : Nat) : List sP0 := []
def kcT3_B (t : Nat) (u : Nat) : List (Nat × Nat × Int) := [(0, 1, 0)]
def kcT3_m (t : Nat) (u : Nat) : sM := []
def kcT3_r0 (t : Nat) (u : Nat) : sXr := (none, sA0, [], ([], [], [], []), [], [])
theorem kcT3_b : ((List.range 2).all fun t => ((List.range 2).all fun u => syeB swC sT0 (kcT3_m t u) 400 0 101 (kcT3_L t u) (kcT3_S t u) (kcT3_A t u) (kcT3_P t u) (kcT3_G t u) (kcT3_B t u) 2 [] [kcT3_r0 t u])) = true := by decide +kernel
theorem kcT3 {l : Launch} {Γ : zG} {d : Nat} (hd : 0 ≤ d) {Kp : Option Value → zH → Prop} {lo : zL} {h : zH} {t : Nat} (h_t : t < 2) {u : Nat} (h_u : u < 2) {ri n : Int} (hi : sInv swC h) (b_ri : 0 ≤ ri ∧ ri ≤ 10) (b_n : 0 ≤ n ∧ n ≤ 10) (l0 : zget lo 0 = some (.ref 61)) (l1 : zget lo 1 = some (.ref (12 * u + 43))) (l2 : zI lo 2 ri) (p_n : pI h (17 * t + 14) 3 = n) (q0 : h.2.2.2 61 0 = some (17 * t + 9)) (d0 : 0 ≤ ri - n)
    (hR0 : ∀ (h' : zH), sInv swC h' → sMd (kcT3_m t u) h h' → Kp none h') : zX l Γ false (d + 1) (zhd 101) (zMQ' Γ false (zhd 101) Kp) 0 0 2 lo [] h := by
  refine sye_ok (mi := 101) (pc := 2) (fun i => [ri, n].getD i 0) (zall_r (zall_r kcT3_b h_t) h_u) (fun _ _ hc _ => nomatch hc) hd ⟨l0, l1, zIm l2 (by show 0 ≤ ri; omega) (by show ri ≤ 10; omega), trivial⟩ rfl ⟨(fun _ hc => nomatch hc), (sfm q0 (fun _ hc => nomatch hc)), (fun _ hc => nomatch hc), Or.inl rfl⟩ ⟨⟨p_n, by show 0 ≤ n; omega, by show n ≤ 10; omega⟩, trivial⟩ trivial (sfm d0 (fun _ hc => nomatch hc)) hi ?_ ?_
  · intro e he lo' st' h' hp hi' hm
    cases he
  · intro e he r' h' hp hi' hm
    rcases List.mem_cons.mp he with rfl | he
    · obtain ⟨p1, -, hz⟩ := hp
      obtain ⟨⟨z1, z2, z3, z4⟩, z5, z6⟩ := hz
      have p1 : r' = none := p1
      subst p1
      exact hR0 h' hi' hm
    cases he
def kcP0_L (t : Nat) (u : Nat) : List sT := [.inr (.inl 61), .inr (.inl (12 * u + 43))]
def kcP0_A (t : Nat) (u : Nat) : sAs := ([], [(61, 0, (17 * t + 9))], [], [])
def kcP0_P (t : Nat) (u : Nat) : List sP0 := []
def kcP0_G (t : Nat) (u : Nat) : List sP0 := []
def kcP0_B (t : Nat) (u : Nat) : List (Nat × Nat × Int) := []
def kcP0_m (t : Nat) (u : Nat) : sM := []
def kcP0_e0 (t : Nat) (u : Nat) : sXe := (10, [], [(0, .inr (.inl 61)), (1, .inr (.inl (12 * u + 43))), (2, .inr (.inl (17 * t + 16))), (3, .inl sf32)], sA0, [], ([], [], [(3, ([], 0))], []), [], [])
theorem kcP0_b : ((List.range 2).all fun t => ((List.range 2).all fun u => syfB swC sT0 (kcP0_m t u) 400 0 102 (kcP0_L t u) (kcP0_A t u) (kcP0_P t u) (kcP0_G t u) (kcP0_B t u) [kcP0_e0 t u] [])) = true := by decide +kernel
theorem kcP0 {l : Launch} {Γ : zG} {d : Nat} (hd : 0 ≤ d) {Kp : Option Value → zH → Prop} {h : zH} {t : Nat} (h_t : t < 2) {u : Nat} (h_u : u < 2) (hi : sInv swC h) (q0 : h.2.2.2 61 0 = some (17 * t + 9))
    (hE0 : ∀ (lo' : zL) (h' : zH), sInv swC h' → sMd (kcP0_m t u) h h' → zget lo' 0 = some (.ref 61) → zget lo' 1 = some (.ref (12 * u + 43)) → zget lo' 2 = some (.ref (17 * t + 16)) → zI lo' 3 0 → zX l Γ false (d + 1) (zhd 102) (zMQ' Γ false (zhd 102) Kp) 0 0 10 lo' [] h') : zSem l Γ false (d + 1) (zhd 102) [.ref 61, .ref (12 * u + 43)] h Kp := by
  refine syf_ok (mi := 102) (fun i => [].getD i 0) (zall_r (zall_r kcP0_b h_t) h_u) (fun _ _ hc _ => nomatch hc) hd ⟨_, _, rfl, rfl, ⟨_, _, rfl, rfl, rfl⟩⟩ ⟨rfl, rfl, trivial⟩ ⟨(fun _ hc => nomatch hc), (sfm q0 (fun _ hc => nomatch hc)), (fun _ hc => nomatch hc), Or.inl rfl⟩ trivial trivial (fun _ hc => nomatch hc) hi ?_ ?_
  · intro e he lo' st' h' hp hi' hm
    rcases List.mem_cons.mp he with rfl | he
    · obtain ⟨p1, p2, -, hz⟩ := hp
      obtain ⟨⟨z1, z2, z3, z4⟩, z5, z6⟩ := hz
      have o0 : zget lo' 0 = some (.ref 61) := locR (p2 (0, .inr (.inl 61)) (List.mem_of_getElem? (i := 0) rfl))
      have o1 : zget lo' 1 = some (.ref (12 * u + 43)) := locR (p2 (1, .inr (.inl (12 * u + 43))) (List.mem_of_getElem? (i := 1) rfl))
      have o2 : zget lo' 2 = some (.ref (17 * t + 16)) := locR (p2 (2, .inr (.inl (17 * t + 16))) (List.mem_of_getElem? (i := 2) rfl))
      have o3 : zI lo' 3 0 := zI_of (p2 (3, .inl sf32) (List.mem_of_getElem? (i := 3) rfl)) (z3 (3, ([], 0)) (List.mem_of_getElem? (i := 0) rfl)) (show 0 + 0 = 0 from by omega)
      have p1 : _ = [] := p1
      subst p1
      exact hE0 lo' h' hi' hm o0 o1 o2 o3
    cases he
  · intro e he r' h' hp hi' hm
    cases he
def kcP1_L (r : Nat) (t : Nat) (u : Nat) : List (Nat × sT) := [(0, .inr (.inl 61)), (1, .inr (.inl (12 * u + 43))), (2, .inr (.inl (17 * t + 16))), (3, .inl ((r : Int), (r : Int)))]
def kcP1_S (r : Nat) (t : Nat) (u : Nat) : List sT := []
def kcP1_A (r : Nat) (t : Nat) (u : Nat) : sAs := ([], [(61, 0, (17 * t + 9))], [], [])
def kcP1_P (r : Nat) (t : Nat) (u : Nat) : List sP0 := [((17 * t + 16), (none, 3), (((r : Int) + 1), 10)), ((17 * t + 17), (none, ((4 * r : Nat) : Int)), (0, 7)), ((17 * t + 17), (none, (((4 * r + 1) : Nat) : Int)), (0, 7)), ((17 * t + 17), (none, (((4 * r + 2) : Nat) : Int)), sf32), ((12 * u + 43), (none, 0), sf32), (61, (none, 2), sf32), (61, (none, 3), sf32)]
def kcP1_G (r : Nat) (t : Nat) (u : Nat) : List sP0 := []
def kcP1_B (r : Nat) (t : Nat) (u : Nat) : List (Nat × Nat × Int) := []
def kcP1_m (r : Nat) (t : Nat) (u : Nat) : sM := []
def kcP1_e0 (r : Nat) (t : Nat) (u : Nat) : sXe := (10, [], [(0, .inr (.inl 61)), (1, .inr (.inl (12 * u + 43))), (2, .inr (.inl (17 * t + 16))), (3, .inl sf32)], sA0, [], ([], [], [(3, ([], ((r : Int) + 1)))], [([(4, 1), (5, (-1))], 0), ([(4, (-1)), (5, 1)], 0), ([(6, 1)], (-2)), ([(6, (-1))], 2), ([(2, 1), (7, (-1))], 0), ([(2, (-1)), (7, 1)], 0)]), [], [])
def kcP1_e1 (r : Nat) (t : Nat) (u : Nat) : sXe := (112, [], [(0, .inr (.inl 61)), (1, .inr (.inl (12 * u + 43))), (2, .inr (.inl (17 * t + 16))), (3, .inl sf32), (4, .inl sf32), (5, .inl sf32)], sA0, [], ([], [], [(3, ([], (r : Int))), (4, ([(2, 1)], 0)), (5, ([(3, 1)], 0))], [([(4, 1), (5, (-1))], 0), ([(4, (-1)), (5, 1)], 0), ([(6, 1)], (-2)), ([(6, (-1))], 2)]), [(([(2, 1)], 0), ([(7, 1)], 0))], [])
def kcP1_e2 (r : Nat) (t : Nat) (u : Nat) : sXe := (112, [], [(0, .inr (.inl 61)), (1, .inr (.inl (12 * u + 43))), (2, .inr (.inl (17 * t + 16))), (3, .inl sf32), (4, .inl sf32), (5, .inl sf32)], sA0, [], ([], [], [(3, ([], (r : Int))), (4, ([(2, 1)], 0)), (5, ([(3, 1)], 0))], [([(4, 1), (5, (-1))], 0), ([(4, (-1)), (5, 1)], 0)]), [(([(6, 1)], 0), ([], 2))], [])
def kcP1_e3 (r : Nat) (t : Nat) (u : Nat) : sXe := (10, [], [(0, .inr (.inl 61)), (1, .inr (.inl (12 * u + 43))), (2, .inr (.inl (17 * t + 16))), (3, .inl sf32)], sA0, [], ([], [], [(3, ([], ((r : Int) + 1)))], []), [(([(4, 1)], 0), ([(5, 1)], 0))], [])
theorem kcP1_b : ((List.range 10).all fun r => ((List.range 2).all fun t => ((List.range 2).all fun u => syeB swC sT0 (kcP1_m r t u) 400 1 102 (kcP1_L r t u) (kcP1_S r t u) (kcP1_A r t u) (kcP1_P r t u) (kcP1_G r t u) (kcP1_B r t u) 10 [kcP1_e0 r t u, kcP1_e1 r t u, kcP1_e2 r t u, kcP1_e3 r t u] []))) = true := by decide +kernel
theorem kcP1 {l : Launch} {Γ : zG} {d : Nat} (hd : 1 ≤ d) {Kp : Option Value → zH → Prop} {lo : zL} {h : zH} {r : Nat} (h_r : r < 10) {t : Nat} (h_t : t < 2) {u : Nat} (h_u : u < 2) {n f o mn m lf up : Int} (hi : sInv swC h) (b_n : ((r : Int) + 1) ≤ n ∧ n ≤ 10) (b_f : 0 ≤ f ∧ f ≤ 7) (b_o : 0 ≤ o ∧ o ≤ 7) (b_mn : (-2147483648) ≤ mn ∧ mn ≤ 2147483647) (b_m : (-2147483648) ≤ m ∧ m ≤ 2147483647) (b_lf : (-2147483648) ≤ lf ∧ lf ≤ 2147483647) (b_up : (-2147483648) ≤ up ∧ up ≤ 2147483647) (l0 : zget lo 0 = some (.ref 61)) (l1 : zget lo 1 = some (.ref (12 * u + 43))) (l2 : zget lo 2 = some (.ref (17 * t + 16))) (l3 : zI lo 3 (r : Int)) (p_n : pI h (17 * t + 16) 3 = n) (p_f : pI h (17 * t + 17) (4 * r) = f) (p_o : pI h (17 * t + 17) (4 * r + 1) = o) (p_mn : pI h (17 * t + 17) (4 * r + 2) = mn) (p_m : pI h (12 * u + 43) 0 = m) (p_lf : pI h 61 2 = lf) (p_up : pI h 61 3 = up) (q0 : h.2.2.2 61 0 = some (17 * t + 9))
    (hE0 : ∀ (lo' : zL) (h' : zH), sInv swC h' → sMd (kcP1_m r t u) h h' → mn = m → lf = 2 → f = up → zget lo' 0 = some (.ref 61) → zget lo' 1 = some (.ref (12 * u + 43)) → zget lo' 2 = some (.ref (17 * t + 16)) → zI lo' 3 ((r : Int) + 1) → zX l Γ false (d + 1) (zhd 102) (zMQ' Γ false (zhd 102) Kp) 0 0 10 lo' [] h')
    (hE1 : ∀ (lo' : zL) (h' : zH), sInv swC h' → sMd (kcP1_m r t u) h h' → mn = m → lf = 2 → f ≠ up → zget lo' 0 = some (.ref 61) → zget lo' 1 = some (.ref (12 * u + 43)) → zget lo' 2 = some (.ref (17 * t + 16)) → zI lo' 3 (r : Int) → zI lo' 4 f → zI lo' 5 o → zX l Γ false (d + 1) (zhd 102) (zMQ' Γ false (zhd 102) Kp) 0 0 112 lo' [] h')
    (hE2 : ∀ (lo' : zL) (h' : zH), sInv swC h' → sMd (kcP1_m r t u) h h' → mn = m → lf ≠ 2 → zget lo' 0 = some (.ref 61) → zget lo' 1 = some (.ref (12 * u + 43)) → zget lo' 2 = some (.ref (17 * t + 16)) → zI lo' 3 (r : Int) → zI lo' 4 f → zI lo' 5 o → zX l Γ false (d + 1) (zhd 102) (zMQ' Γ false (zhd 102) Kp) 0 0 112 lo' [] h')
    (hE3 : ∀ (lo' : zL) (h' : zH), sInv swC h' → sMd (kcP1_m r t u) h h' → mn ≠ m → zget lo' 0 = some (.ref 61) → zget lo' 1 = some (.ref (12 * u + 43)) → zget lo' 2 = some (.ref (17 * t + 16)) → zI lo' 3 ((r : Int) + 1) → zX l Γ false (d + 1) (zhd 102) (zMQ' Γ false (zhd 102) Kp) 0 0 10 lo' [] h') : zX l Γ false (d + 1) (zhd 102) (zMQ' Γ false (zhd 102) Kp) 0 0 10 lo [] h := by
  refine sye_ok (mi := 102) (pc := 10) (fun i => [(r : Int), n, f, o, mn, m, lf, up].getD i 0) (zall_r (zall_r (zall_r kcP1_b h_r) h_t) h_u) (fun _ _ hc _ => nomatch hc) hd ⟨l0, l1, l2, zIm l3 (by show (r : Int) ≤ (r : Int); omega) (by show (r : Int) ≤ (r : Int); omega), trivial⟩ rfl ⟨(fun _ hc => nomatch hc), (sfm q0 (fun _ hc => nomatch hc)), (fun _ hc => nomatch hc), Or.inl rfl⟩ ⟨⟨p_n, by show ((r : Int) + 1) ≤ n; omega, by show n ≤ 10; omega⟩, ⟨p_f, by show 0 ≤ f; omega, by show f ≤ 7; omega⟩, ⟨p_o, by show 0 ≤ o; omega, by show o ≤ 7; omega⟩, ⟨p_mn, by show (-2147483648) ≤ mn; omega, by show mn ≤ 2147483647; omega⟩, ⟨p_m, by show (-2147483648) ≤ m; omega, by show m ≤ 2147483647; omega⟩, ⟨p_lf, by show (-2147483648) ≤ lf; omega, by show lf ≤ 2147483647; omega⟩, ⟨p_up, by show (-2147483648) ≤ up; omega, by show up ≤ 2147483647; omega⟩, trivial⟩ trivial (fun _ hc => nomatch hc) hi ?_ ?_
  · intro e he lo' st' h' hp hi' hm
    rcases List.mem_cons.mp he with rfl | he
    · obtain ⟨p1, p2, -, hz⟩ := hp
      obtain ⟨⟨z1, z2, z3, z4⟩, z5, z6⟩ := hz
      have c0 : mn = m := by have q_ : (0 : Int) ≤ (1 * mn + ((-1) * m + 0)) + 0 := z4 ([(4, 1), (5, (-1))], 0) (List.mem_of_getElem? (i := 0) rfl); have q2_ : (0 : Int) ≤ ((-1) * mn + (1 * m + 0)) + 0 := z4 ([(4, (-1)), (5, 1)], 0) (List.mem_of_getElem? (i := 1) rfl); omega
      have c2 : lf = 2 := by have q_ : (0 : Int) ≤ (1 * lf + 0) + (-2) := z4 ([(6, 1)], (-2)) (List.mem_of_getElem? (i := 2) rfl); have q2_ : (0 : Int) ≤ ((-1) * lf + 0) + 2 := z4 ([(6, (-1))], 2) (List.mem_of_getElem? (i := 3) rfl); omega
      have c4 : f = up := by have q_ : (0 : Int) ≤ (1 * f + ((-1) * up + 0)) + 0 := z4 ([(2, 1), (7, (-1))], 0) (List.mem_of_getElem? (i := 4) rfl); have q2_ : (0 : Int) ≤ ((-1) * f + (1 * up + 0)) + 0 := z4 ([(2, (-1)), (7, 1)], 0) (List.mem_of_getElem? (i := 5) rfl); omega
      have o0 : zget lo' 0 = some (.ref 61) := locR (p2 (0, .inr (.inl 61)) (List.mem_of_getElem? (i := 0) rfl))
      have o1 : zget lo' 1 = some (.ref (12 * u + 43)) := locR (p2 (1, .inr (.inl (12 * u + 43))) (List.mem_of_getElem? (i := 1) rfl))
      have o2 : zget lo' 2 = some (.ref (17 * t + 16)) := locR (p2 (2, .inr (.inl (17 * t + 16))) (List.mem_of_getElem? (i := 2) rfl))
      have o3 : zI lo' 3 ((r : Int) + 1) := zI_of (p2 (3, .inl sf32) (List.mem_of_getElem? (i := 3) rfl)) (z3 (3, ([], ((r : Int) + 1))) (List.mem_of_getElem? (i := 0) rfl)) (show 0 + ((r : Int) + 1) = ((r : Int) + 1) from by omega)
      have p1 : _ = [] := p1
      subst p1
      exact hE0 lo' h' hi' hm c0 c2 c4 o0 o1 o2 o3
    rcases List.mem_cons.mp he with rfl | he
    · obtain ⟨p1, p2, -, hz⟩ := hp
      obtain ⟨⟨z1, z2, z3, z4⟩, z5, z6⟩ := hz
      have c0 : mn = m := by have q_ : (0 : Int) ≤ (1 * mn + ((-1) * m + 0)) + 0 := z4 ([(4, 1), (5, (-1))], 0) (List.mem_of_getElem? (i := 0) rfl); have q2_ : (0 : Int) ≤ ((-1) * mn + (1 * m + 0)) + 0 := z4 ([(4, (-1)), (5, 1)], 0) (List.mem_of_getElem? (i := 1) rfl); omega
      have c2 : lf = 2 := by have q_ : (0 : Int) ≤ (1 * lf + 0) + (-2) := z4 ([(6, 1)], (-2)) (List.mem_of_getElem? (i := 2) rfl); have q2_ : (0 : Int) ≤ ((-1) * lf + 0) + 2 := z4 ([(6, (-1))], 2) (List.mem_of_getElem? (i := 3) rfl); omega
      have n0 : f ≠ up := fun e_ => z5 (([(2, 1)], 0), ([(7, 1)], 0)) (List.mem_of_getElem? (i := 0) rfl) (by show (1 * f + 0) + 0 = (1 * up + 0) + 0; omega)
      have o0 : zget lo' 0 = some (.ref 61) := locR (p2 (0, .inr (.inl 61)) (List.mem_of_getElem? (i := 0) rfl))
      have o1 : zget lo' 1 = some (.ref (12 * u + 43)) := locR (p2 (1, .inr (.inl (12 * u + 43))) (List.mem_of_getElem? (i := 1) rfl))
      have o2 : zget lo' 2 = some (.ref (17 * t + 16)) := locR (p2 (2, .inr (.inl (17 * t + 16))) (List.mem_of_getElem? (i := 2) rfl))
      have o3 : zI lo' 3 (r : Int) := zI_of (p2 (3, .inl sf32) (List.mem_of_getElem? (i := 3) rfl)) (z3 (3, ([], (r : Int))) (List.mem_of_getElem? (i := 0) rfl)) (show 0 + (r : Int) = (r : Int) from by omega)
      have o4 : zI lo' 4 f := zI_of (p2 (4, .inl sf32) (List.mem_of_getElem? (i := 4) rfl)) (z3 (4, ([(2, 1)], 0)) (List.mem_of_getElem? (i := 1) rfl)) (show (1 * f + 0) + 0 = f from by omega)
      have o5 : zI lo' 5 o := zI_of (p2 (5, .inl sf32) (List.mem_of_getElem? (i := 5) rfl)) (z3 (5, ([(3, 1)], 0)) (List.mem_of_getElem? (i := 2) rfl)) (show (1 * o + 0) + 0 = o from by omega)
      have p1 : _ = [] := p1
      subst p1
      exact hE1 lo' h' hi' hm c0 c2 n0 o0 o1 o2 o3 o4 o5
    rcases List.mem_cons.mp he with rfl | he
    · obtain ⟨p1, p2, -, hz⟩ := hp
      obtain ⟨⟨z1, z2, z3, z4⟩, z5, z6⟩ := hz
      have c0 : mn = m := by have q_ : (0 : Int) ≤ (1 * mn + ((-1) * m + 0)) + 0 := z4 ([(4, 1), (5, (-1))], 0) (List.mem_of_getElem? (i := 0) rfl); have q2_ : (0 : Int) ≤ ((-1) * mn + (1 * m + 0)) + 0 := z4 ([(4, (-1)), (5, 1)], 0) (List.mem_of_getElem? (i := 1) rfl); omega
      have n0 : lf ≠ 2 := fun e_ => z5 (([(6, 1)], 0), ([], 2)) (List.mem_of_getElem? (i := 0) rfl) (by show (1 * lf + 0) + 0 = 0 + 2; omega)
      have o0 : zget lo' 0 = some (.ref 61) := locR (p2 (0, .inr (.inl 61)) (List.mem_of_getElem? (i := 0) rfl))
      have o1 : zget lo' 1 = some (.ref (12 * u + 43)) := locR (p2 (1, .inr (.inl (12 * u + 43))) (List.mem_of_getElem? (i := 1) rfl))
      have o2 : zget lo' 2 = some (.ref (17 * t + 16)) := locR (p2 (2, .inr (.inl (17 * t + 16))) (List.mem_of_getElem? (i := 2) rfl))
      have o3 : zI lo' 3 (r : Int) := zI_of (p2 (3, .inl sf32) (List.mem_of_getElem? (i := 3) rfl)) (z3 (3, ([], (r : Int))) (List.mem_of_getElem? (i := 0) rfl)) (show 0 + (r : Int) = (r : Int) from by omega)
      have o4 : zI lo' 4 f := zI_of (p2 (4, .inl sf32) (List.mem_of_getElem? (i := 4) rfl)) (z3 (4, ([(2, 1)], 0)) (List.mem_of_getElem? (i := 1) rfl)) (show (1 * f + 0) + 0 = f from by omega)
      have o5 : zI lo' 5 o := zI_of (p2 (5, .inl sf32) (List.mem_of_getElem? (i := 5) rfl)) (z3 (5, ([(3, 1)], 0)) (List.mem_of_getElem? (i := 2) rfl)) (show (1 * o + 0) + 0 = o from by omega)
      have p1 : _ = [] := p1
      subst p1
      exact hE2 lo' h' hi' hm c0 n0 o0 o1 o2 o3 o4 o5
    rcases List.mem_cons.mp he with rfl | he
    · obtain ⟨p1, p2, -, hz⟩ := hp
      obtain ⟨⟨z1, z2, z3, z4⟩, z5, z6⟩ := hz
      have n0 : mn ≠ m := fun e_ => z5 (([(4, 1)], 0), ([(5, 1)], 0)) (List.mem_of_getElem? (i := 0) rfl) (by show (1 * mn + 0) + 0 = (1 * m + 0) + 0; omega)
      have o0 : zget lo' 0 = some (.ref 61) := locR (p2 (0, .inr (.inl 61)) (List.mem_of_getElem? (i := 0) rfl))
      have o1 : zget lo' 1 = some (.ref (12 * u + 43)) := locR (p2 (1, .inr (.inl (12 * u + 43))) (List.mem_of_getElem? (i := 1) rfl))
      have o2 : zget lo' 2 = some (.ref (17 * t + 16)) := locR (p2 (2, .inr (.inl (17 * t + 16))) (List.mem_of_getElem? (i := 2) rfl))
      have o3 : zI lo' 3 ((r : Int) + 1) := zI_of (p2 (3, .inl sf32) (List.mem_of_getElem? (i := 3) rfl)) (z3 (3, ([], ((r : Int) + 1))) (List.mem_of_getElem? (i := 0) rfl)) (show 0 + ((r : Int) + 1) = ((r : Int) + 1) from by omega)
      have p1 : _ = [] := p1
      subst p1
      exact hE3 lo' h' hi' hm n0 o0 o1 o2 o3
    cases he
  · intro e he r' h' hp hi' hm
    cases he
def kcP2_L (r : Nat) (t : Nat) (u : Nat) : List (Nat × sT) := [(0, .inr (.inl 61)), (1, .inr (.inl (12 * u + 43))), (2, .inr (.inl (17 * t + 16))), (3, .inl ((r : Int), (r : Int))), (4, .inl (0, 7)), (5, .inl (0, 7))]
def kcP2_S (r : Nat) (t : Nat) (u : Nat) : List sT := []
def kcP2_A (r : Nat) (t : Nat) (u : Nat) : sAs := ([], [], [], [])
def kcP2_P (r : Nat) (t : Nat) (u : Nat) : List sP0 := [((17 * t + 16), (none, 3), (((r : Int) + 1), 10)), ((17 * t + 17), (none, (((4 * r + 3) : Nat) : Int)), (0, 99)), ((12 * u + 45), (some 1, 0), (0, 999))]
def kcP2_G (r : Nat) (t : Nat) (u : Nat) : List sP0 := []
def kcP2_B (r : Nat) (t : Nat) (u : Nat) : List (Nat × Nat × Int) := []
def kcP2_m (r : Nat) (t : Nat) (u : Nat) : sM := []
def kcP2_e0 (r : Nat) (t : Nat) (u : Nat) : sXe := (130, [], [(0, .inr (.inl 61)), (1, .inr (.inl (12 * u + 43))), (2, .inr (.inl (17 * t + 16))), (3, .inl sf32), (4, .inl sf32), (5, .inl sf32), (7, .inl sf32)], sA0, [], ([], [], [(3, ([], (r : Int))), (4, ([(1, 1)], 0)), (5, ([(2, 1)], 0)), (7, ([(5, 1)], 0))], [([(4, 1), (5, (-1))], (-1))]), [], [])
def kcP2_e1 (r : Nat) (t : Nat) (u : Nat) : sXe := (130, [], [(0, .inr (.inl 61)), (1, .inr (.inl (12 * u + 43))), (2, .inr (.inl (17 * t + 16))), (3, .inl sf32), (4, .inl sf32), (5, .inl sf32), (7, .inl sf32)], sA0, [], ([], [], [(3, ([], (r : Int))), (4, ([(1, 1)], 0)), (5, ([(2, 1)], 0)), (7, ([(4, 1)], 0))], [([(4, (-1)), (5, 1)], 0)]), [], [])
theorem kcP2_b : ((List.range 10).all fun r => ((List.range 2).all fun t => ((List.range 2).all fun u => syeB swC sT0 (kcP2_m r t u) 400 1 102 (kcP2_L r t u) (kcP2_S r t u) (kcP2_A r t u) (kcP2_P r t u) (kcP2_G r t u) (kcP2_B r t u) 112 [kcP2_e0 r t u, kcP2_e1 r t u] []))) = true := by decide +kernel
theorem kcP2 {l : Launch} {Γ : zG} {d : Nat} (hd : 1 ≤ d) {Kp : Option Value → zH → Prop} {lo : zL} {h : zH} {r : Nat} (h_r : r < 10) {t : Nat} (h_t : t < 2) {u : Nat} (h_u : u < 2) {f o n a bl : Int} (hi : sInv swC h) (b_f : 0 ≤ f ∧ f ≤ 7) (b_o : 0 ≤ o ∧ o ≤ 7) (b_n : ((r : Int) + 1) ≤ n ∧ n ≤ 10) (b_a : 0 ≤ a ∧ a ≤ 99) (b_bl : 0 ≤ bl ∧ bl ≤ 999) (l0 : zget lo 0 = some (.ref 61)) (l1 : zget lo 1 = some (.ref (12 * u + 43))) (l2 : zget lo 2 = some (.ref (17 * t + 16))) (l3 : zI lo 3 (r : Int)) (l4 : zI lo 4 f) (l5 : zI lo 5 o) (p_n : pI h (17 * t + 16) 3 = n) (p_a : pI h (17 * t + 17) (4 * r + 3) = a) (p_bl : pI h (12 * u + 45) (f + 0).toNat = bl)
    (hE0 : ∀ (lo' : zL) (h' : zH), sInv swC h' → sMd (kcP2_m r t u) h h' → 0 ≤ a - bl - 1 → zget lo' 0 = some (.ref 61) → zget lo' 1 = some (.ref (12 * u + 43)) → zget lo' 2 = some (.ref (17 * t + 16)) → zI lo' 3 (r : Int) → zI lo' 4 f → zI lo' 5 o → zI lo' 7 bl → zX l Γ false (d + 1) (zhd 102) (zMQ' Γ false (zhd 102) Kp) 0 0 130 lo' [] h')
    (hE1 : ∀ (lo' : zL) (h' : zH), sInv swC h' → sMd (kcP2_m r t u) h h' → 0 ≤ -a + bl → zget lo' 0 = some (.ref 61) → zget lo' 1 = some (.ref (12 * u + 43)) → zget lo' 2 = some (.ref (17 * t + 16)) → zI lo' 3 (r : Int) → zI lo' 4 f → zI lo' 5 o → zI lo' 7 a → zX l Γ false (d + 1) (zhd 102) (zMQ' Γ false (zhd 102) Kp) 0 0 130 lo' [] h') : zX l Γ false (d + 1) (zhd 102) (zMQ' Γ false (zhd 102) Kp) 0 0 112 lo [] h := by
  refine sye_ok (mi := 102) (pc := 112) (fun i => [(r : Int), f, o, n, a, bl].getD i 0) (zall_r (zall_r (zall_r kcP2_b h_r) h_t) h_u) (fun _ _ hc _ => nomatch hc) hd ⟨l0, l1, l2, zIm l3 (by show (r : Int) ≤ (r : Int); omega) (by show (r : Int) ≤ (r : Int); omega), zIm l4 (by show 0 ≤ f; omega) (by show f ≤ 7; omega), zIm l5 (by show 0 ≤ o; omega) (by show o ≤ 7; omega), trivial⟩ rfl ⟨(fun _ hc => nomatch hc), (fun _ hc => nomatch hc), (fun _ hc => nomatch hc), Or.inl rfl⟩ ⟨⟨p_n, by show ((r : Int) + 1) ≤ n; omega, by show n ≤ 10; omega⟩, ⟨p_a, by show 0 ≤ a; omega, by show a ≤ 99; omega⟩, ⟨p_bl, by show 0 ≤ bl; omega, by show bl ≤ 999; omega⟩, trivial⟩ trivial (fun _ hc => nomatch hc) hi ?_ ?_
  · intro e he lo' st' h' hp hi' hm
    rcases List.mem_cons.mp he with rfl | he
    · obtain ⟨p1, p2, -, hz⟩ := hp
      obtain ⟨⟨z1, z2, z3, z4⟩, z5, z6⟩ := hz
      have c0 : 0 ≤ a - bl - 1 := by have q_ : (0 : Int) ≤ (1 * a + ((-1) * bl + 0)) + (-1) := z4 ([(4, 1), (5, (-1))], (-1)) (List.mem_of_getElem? (i := 0) rfl); omega
      have o0 : zget lo' 0 = some (.ref 61) := locR (p2 (0, .inr (.inl 61)) (List.mem_of_getElem? (i := 0) rfl))
      have o1 : zget lo' 1 = some (.ref (12 * u + 43)) := locR (p2 (1, .inr (.inl (12 * u + 43))) (List.mem_of_getElem? (i := 1) rfl))
      have o2 : zget lo' 2 = some (.ref (17 * t + 16)) := locR (p2 (2, .inr (.inl (17 * t + 16))) (List.mem_of_getElem? (i := 2) rfl))
      have o3 : zI lo' 3 (r : Int) := zI_of (p2 (3, .inl sf32) (List.mem_of_getElem? (i := 3) rfl)) (z3 (3, ([], (r : Int))) (List.mem_of_getElem? (i := 0) rfl)) (show 0 + (r : Int) = (r : Int) from by omega)
      have o4 : zI lo' 4 f := zI_of (p2 (4, .inl sf32) (List.mem_of_getElem? (i := 4) rfl)) (z3 (4, ([(1, 1)], 0)) (List.mem_of_getElem? (i := 1) rfl)) (show (1 * f + 0) + 0 = f from by omega)
      have o5 : zI lo' 5 o := zI_of (p2 (5, .inl sf32) (List.mem_of_getElem? (i := 5) rfl)) (z3 (5, ([(2, 1)], 0)) (List.mem_of_getElem? (i := 2) rfl)) (show (1 * o + 0) + 0 = o from by omega)
      have o7 : zI lo' 7 bl := zI_of (p2 (7, .inl sf32) (List.mem_of_getElem? (i := 6) rfl)) (z3 (7, ([(5, 1)], 0)) (List.mem_of_getElem? (i := 3) rfl)) (show (1 * bl + 0) + 0 = bl from by omega)
      have p1 : _ = [] := p1
      subst p1
      exact hE0 lo' h' hi' hm c0 o0 o1 o2 o3 o4 o5 o7
    rcases List.mem_cons.mp he with rfl | he
    · obtain ⟨p1, p2, -, hz⟩ := hp
      obtain ⟨⟨z1, z2, z3, z4⟩, z5, z6⟩ := hz
      have c0 : 0 ≤ -a + bl := by have q_ : (0 : Int) ≤ ((-1) * a + (1 * bl + 0)) + 0 := z4 ([(4, (-1)), (5, 1)], 0) (List.mem_of_getElem? (i := 0) rfl); omega
      have o0 : zget lo' 0 = some (.ref 61) := locR (p2 (0, .inr (.inl 61)) (List.mem_of_getElem? (i := 0) rfl))
      have o1 : zget lo' 1 = some (.ref (12 * u + 43)) := locR (p2 (1, .inr (.inl (12 * u + 43))) (List.mem_of_getElem? (i := 1) rfl))
      have o2 : zget lo' 2 = some (.ref (17 * t + 16)) := locR (p2 (2, .inr (.inl (17 * t + 16))) (List.mem_of_getElem? (i := 2) rfl))
      have o3 : zI lo' 3 (r : Int) := zI_of (p2 (3, .inl sf32) (List.mem_of_getElem? (i := 3) rfl)) (z3 (3, ([], (r : Int))) (List.mem_of_getElem? (i := 0) rfl)) (show 0 + (r : Int) = (r : Int) from by omega)
      have o4 : zI lo' 4 f := zI_of (p2 (4, .inl sf32) (List.mem_of_getElem? (i := 4) rfl)) (z3 (4, ([(1, 1)], 0)) (List.mem_of_getElem? (i := 1) rfl)) (show (1 * f + 0) + 0 = f from by omega)
      have o5 : zI lo' 5 o := zI_of (p2 (5, .inl sf32) (List.mem_of_getElem? (i := 5) rfl)) (z3 (5, ([(2, 1)], 0)) (List.mem_of_getElem? (i := 2) rfl)) (show (1 * o + 0) + 0 = o from by omega)
      have o7 : zI lo' 7 a := zI_of (p2 (7, .inl sf32) (List.mem_of_getElem? (i := 6) rfl)) (z3 (7, ([(4, 1)], 0)) (List.mem_of_getElem? (i := 3) rfl)) (show (1 * a + 0) + 0 = a from by omega)
      have p1 : _ = [] := p1
      subst p1
      exact hE1 lo' h' hi' hm c0 o0 o1 o2 o3 o4 o5 o7
    cases he
  · intro e he r' h' hp hi' hm
    cases he
def kcP6_L (r : Nat) (t : Nat) (u : Nat) : List (Nat × sT) := [(0, .inr (.inl 61)), (1, .inr (.inl (12 * u + 43))), (2, .inr (.inl (17 * t + 16))), (3, .inl ((r : Int), (r : Int))), (4, .inl (0, 7)), (5, .inl (0, 7)), (7, .inl (0, 99))]
def kcP6_S (r : Nat) (t : Nat) (u : Nat) : List sT := []
def kcP6_A (r : Nat) (t : Nat) (u : Nat) : sAs := ([], [], [], [])
def kcP6_P (r : Nat) (t : Nat) (u : Nat) : List sP0 := [((17 * t + 16), (none, 3), (((r : Int) + 1), 10)), ((17 * t + 17), (none, (((4 * r + 3) : Nat) : Int)), (0, 99))]
def kcP6_G (r : Nat) (t : Nat) (u : Nat) : List sP0 := []
def kcP6_B (r : Nat) (t : Nat) (u : Nat) : List (Nat × Nat × Int) := []
def kcP6_m (r : Nat) (t : Nat) (u : Nat) : sM := [((12 * u + 48), r, (r + 1))]
def kcP6_e0 (r : Nat) (t : Nat) (u : Nat) : sXe := (152, [], [(0, .inr (.inl 61)), (1, .inr (.inl (12 * u + 43))), (2, .inr (.inl (17 * t + 16))), (3, .inl sf32), (4, .inl sf32), (5, .inl sf32), (7, .inl sf32)], sA0, [], ([((12 * u + 48), (none, ((r : Nat) : Int)), ([], 1))], [], [(3, ([], (r : Int))), (4, ([(1, 1)], 0)), (5, ([(2, 1)], 0)), (7, ([(3, 1)], 0))], [([(3, 1), (5, (-1))], 0)]), [], [])
def kcP6_e1 (r : Nat) (t : Nat) (u : Nat) : sXe := (152, [], [(0, .inr (.inl 61)), (1, .inr (.inl (12 * u + 43))), (2, .inr (.inl (17 * t + 16))), (3, .inl sf32), (4, .inl sf32), (5, .inl sf32), (7, .inl sf32)], sA0, [], ([((12 * u + 48), (none, ((r : Nat) : Int)), ([], 2))], [], [(3, ([], (r : Int))), (4, ([(1, 1)], 0)), (5, ([(2, 1)], 0)), (7, ([(3, 1)], 0))], [([(3, (-1)), (5, 1)], (-1))]), [], [])
theorem kcP6_b : ((List.range 10).all fun r => ((List.range 2).all fun t => ((List.range 2).all fun u => syeB swC sT0 (kcP6_m r t u) 400 1 102 (kcP6_L r t u) (kcP6_S r t u) (kcP6_A r t u) (kcP6_P r t u) (kcP6_G r t u) (kcP6_B r t u) 130 [kcP6_e0 r t u, kcP6_e1 r t u] []))) = true := by decide +kernel
theorem kcP6 {l : Launch} {Γ : zG} {d : Nat} (hd : 1 ≤ d) {Kp : Option Value → zH → Prop} {lo : zL} {h : zH} {r : Nat} (h_r : r < 10) {t : Nat} (h_t : t < 2) {u : Nat} (h_u : u < 2) {f o g n a : Int} (hi : sInv swC h) (b_f : 0 ≤ f ∧ f ≤ 7) (b_o : 0 ≤ o ∧ o ≤ 7) (b_g : 0 ≤ g ∧ g ≤ 99) (b_n : ((r : Int) + 1) ≤ n ∧ n ≤ 10) (b_a : 0 ≤ a ∧ a ≤ 99) (l0 : zget lo 0 = some (.ref 61)) (l1 : zget lo 1 = some (.ref (12 * u + 43))) (l2 : zget lo 2 = some (.ref (17 * t + 16))) (l3 : zI lo 3 (r : Int)) (l4 : zI lo 4 f) (l5 : zI lo 5 o) (l7 : zI lo 7 g) (p_n : pI h (17 * t + 16) 3 = n) (p_a : pI h (17 * t + 17) (4 * r + 3) = a)
    (hE0 : ∀ (lo' : zL) (h' : zH), sInv swC h' → sMd (kcP6_m r t u) h h' → 0 ≤ g - a → pI h' (12 * u + 48) r = 1 → zget lo' 0 = some (.ref 61) → zget lo' 1 = some (.ref (12 * u + 43)) → zget lo' 2 = some (.ref (17 * t + 16)) → zI lo' 3 (r : Int) → zI lo' 4 f → zI lo' 5 o → zI lo' 7 g → zX l Γ false (d + 1) (zhd 102) (zMQ' Γ false (zhd 102) Kp) 0 0 152 lo' [] h')
    (hE1 : ∀ (lo' : zL) (h' : zH), sInv swC h' → sMd (kcP6_m r t u) h h' → 0 ≤ -g + a - 1 → pI h' (12 * u + 48) r = 2 → zget lo' 0 = some (.ref 61) → zget lo' 1 = some (.ref (12 * u + 43)) → zget lo' 2 = some (.ref (17 * t + 16)) → zI lo' 3 (r : Int) → zI lo' 4 f → zI lo' 5 o → zI lo' 7 g → zX l Γ false (d + 1) (zhd 102) (zMQ' Γ false (zhd 102) Kp) 0 0 152 lo' [] h') : zX l Γ false (d + 1) (zhd 102) (zMQ' Γ false (zhd 102) Kp) 0 0 130 lo [] h := by
  refine sye_ok (mi := 102) (pc := 130) (fun i => [(r : Int), f, o, g, n, a].getD i 0) (zall_r (zall_r (zall_r kcP6_b h_r) h_t) h_u) (fun _ _ hc _ => nomatch hc) hd ⟨l0, l1, l2, zIm l3 (by show (r : Int) ≤ (r : Int); omega) (by show (r : Int) ≤ (r : Int); omega), zIm l4 (by show 0 ≤ f; omega) (by show f ≤ 7; omega), zIm l5 (by show 0 ≤ o; omega) (by show o ≤ 7; omega), zIm l7 (by show 0 ≤ g; omega) (by show g ≤ 99; omega), trivial⟩ rfl ⟨(fun _ hc => nomatch hc), (fun _ hc => nomatch hc), (fun _ hc => nomatch hc), Or.inl rfl⟩ ⟨⟨p_n, by show ((r : Int) + 1) ≤ n; omega, by show n ≤ 10; omega⟩, ⟨p_a, by show 0 ≤ a; omega, by show a ≤ 99; omega⟩, trivial⟩ trivial (fun _ hc => nomatch hc) hi ?_ ?_
  · intro e he lo' st' h' hp hi' hm
    rcases List.mem_cons.mp he with rfl | he
    · obtain ⟨p1, p2, -, hz⟩ := hp
      obtain ⟨⟨z1, z2, z3, z4⟩, z5, z6⟩ := hz
      have c0 : 0 ≤ g - a := by have q_ : (0 : Int) ≤ (1 * g + ((-1) * a + 0)) + 0 := z4 ([(3, 1), (5, (-1))], 0) (List.mem_of_getElem? (i := 0) rfl); omega
      have k0 : pI h' (12 * u + 48) r = 1 := (show pI h' (12 * u + 48) r = 0 + 1 from z1 ((12 * u + 48), (none, ((r : Nat) : Int)), ([], 1)) (List.mem_of_getElem? (i := 0) rfl)).trans (by omega)
      have o0 : zget lo' 0 = some (.ref 61) := locR (p2 (0, .inr (.inl 61)) (List.mem_of_getElem? (i := 0) rfl))
      have o1 : zget lo' 1 = some (.ref (12 * u + 43)) := locR (p2 (1, .inr (.inl (12 * u + 43))) (List.mem_of_getElem? (i := 1) rfl))
      have o2 : zget lo' 2 = some (.ref (17 * t + 16)) := locR (p2 (2, .inr (.inl (17 * t + 16))) (List.mem_of_getElem? (i := 2) rfl))
      have o3 : zI lo' 3 (r : Int) := zI_of (p2 (3, .inl sf32) (List.mem_of_getElem? (i := 3) rfl)) (z3 (3, ([], (r : Int))) (List.mem_of_getElem? (i := 0) rfl)) (show 0 + (r : Int) = (r : Int) from by omega)
      have o4 : zI lo' 4 f := zI_of (p2 (4, .inl sf32) (List.mem_of_getElem? (i := 4) rfl)) (z3 (4, ([(1, 1)], 0)) (List.mem_of_getElem? (i := 1) rfl)) (show (1 * f + 0) + 0 = f from by omega)
      have o5 : zI lo' 5 o := zI_of (p2 (5, .inl sf32) (List.mem_of_getElem? (i := 5) rfl)) (z3 (5, ([(2, 1)], 0)) (List.mem_of_getElem? (i := 2) rfl)) (show (1 * o + 0) + 0 = o from by omega)
      have o7 : zI lo' 7 g := zI_of (p2 (7, .inl sf32) (List.mem_of_getElem? (i := 6) rfl)) (z3 (7, ([(3, 1)], 0)) (List.mem_of_getElem? (i := 3) rfl)) (show (1 * g + 0) + 0 = g from by omega)
      have p1 : _ = [] := p1
      subst p1
      exact hE0 lo' h' hi' hm c0 k0 o0 o1 o2 o3 o4 o5 o7
    rcases List.mem_cons.mp he with rfl | he
    · obtain ⟨p1, p2, -, hz⟩ := hp
      obtain ⟨⟨z1, z2, z3, z4⟩, z5, z6⟩ := hz
      have c0 : 0 ≤ -g + a - 1 := by have q_ : (0 : Int) ≤ ((-1) * g + (1 * a + 0)) + (-1) := z4 ([(3, (-1)), (5, 1)], (-1)) (List.mem_of_getElem? (i := 0) rfl); omega
      have k0 : pI h' (12 * u + 48) r = 2 := (show pI h' (12 * u + 48) r = 0 + 2 from z1 ((12 * u + 48), (none, ((r : Nat) : Int)), ([], 2)) (List.mem_of_getElem? (i := 0) rfl)).trans (by omega)
      have o0 : zget lo' 0 = some (.ref 61) := locR (p2 (0, .inr (.inl 61)) (List.mem_of_getElem? (i := 0) rfl))
      have o1 : zget lo' 1 = some (.ref (12 * u + 43)) := locR (p2 (1, .inr (.inl (12 * u + 43))) (List.mem_of_getElem? (i := 1) rfl))
      have o2 : zget lo' 2 = some (.ref (17 * t + 16)) := locR (p2 (2, .inr (.inl (17 * t + 16))) (List.mem_of_getElem? (i := 2) rfl))
      have o3 : zI lo' 3 (r : Int) := zI_of (p2 (3, .inl sf32) (List.mem_of_getElem? (i := 3) rfl)) (z3 (3, ([], (r : Int))) (List.mem_of_getElem? (i := 0) rfl)) (show 0 + (r : Int) = (r : Int) from by omega)
      have o4 : zI lo' 4 f := zI_of (p2 (4, .inl sf32) (List.mem_of_getElem? (i := 4) rfl)) (z3 (4, ([(1, 1)], 0)) (List.mem_of_getElem? (i := 1) rfl)) (show (1 * f + 0) + 0 = f from by omega)
      have o5 : zI lo' 5 o := zI_of (p2 (5, .inl sf32) (List.mem_of_getElem? (i := 5) rfl)) (z3 (5, ([(2, 1)], 0)) (List.mem_of_getElem? (i := 2) rfl)) (show (1 * o + 0) + 0 = o from by omega)
      have o7 : zI lo' 7 g := zI_of (p2 (7, .inl sf32) (List.mem_of_getElem? (i := 6) rfl)) (z3 (7, ([(3, 1)], 0)) (List.mem_of_getElem? (i := 3) rfl)) (show (1 * g + 0) + 0 = g from by omega)
      have p1 : _ = [] := p1
      subst p1
      exact hE1 lo' h' hi' hm c0 k0 o0 o1 o2 o3 o4 o5 o7
    cases he
  · intro e he r' h' hp hi' hm
    cases he
def kcP7_L (f : Nat) (t : Nat) (u : Nat) : List (Nat × sT) := [(0, .inr (.inl 61)), (1, .inr (.inl (12 * u + 43))), (2, .inr (.inl (17 * t + 16))), (3, .inl (0, 9)), (4, .inl ((f : Int), (f : Int))), (5, .inl (0, 7)), (7, .inl (0, 99))]
def kcP7_S (f : Nat) (t : Nat) (u : Nat) : List sT := []
def kcP7_A (f : Nat) (t : Nat) (u : Nat) : sAs := ([], [], [], [])
def kcP7_P (f : Nat) (t : Nat) (u : Nat) : List sP0 := [((12 * u + 47), (none, ((f : Nat) : Int)), (0, 2000000000))]
def kcP7_G (f : Nat) (t : Nat) (u : Nat) : List sP0 := []
def kcP7_B (f : Nat) (t : Nat) (u : Nat) : List (Nat × Nat × Int) := []
def kcP7_m (f : Nat) (t : Nat) (u : Nat) : sM := [((12 * u + 47), f, (f + 1))]
def kcP7_e0 (f : Nat) (t : Nat) (u : Nat) : sXe := (170, [.inl sf32, .inr (.inl (12 * u + 43)), .inr (.inl 61), .inl sf32], [(0, .inr (.inl 61)), (1, .inr (.inl (12 * u + 43))), (2, .inr (.inl (17 * t + 16))), (3, .inl sf32), (4, .inl sf32), (5, .inl sf32), (7, .inl sf32)], sA0, [], ([((12 * u + 47), (none, ((f : Nat) : Int)), ([(3, 1), (4, 1)], 0))], [(0, ([], (f : Int))), (3, ([(3, 1)], 0))], [(3, ([(0, 1)], 0)), (4, ([], (f : Int))), (5, ([(2, 1)], 0)), (7, ([(3, 1)], 0))], []), [], [])
theorem kcP7_b : ((List.range 8).all fun f => ((List.range 2).all fun t => ((List.range 2).all fun u => syeB swC sT0 (kcP7_m f t u) 400 0 102 (kcP7_L f t u) (kcP7_S f t u) (kcP7_A f t u) (kcP7_P f t u) (kcP7_G f t u) (kcP7_B f t u) 152 [kcP7_e0 f t u] []))) = true := by decide +kernel
theorem kcP7 {l : Launch} {Γ : zG} {d : Nat} (hd : 0 ≤ d) {Kp : Option Value → zH → Prop} {lo : zL} {h : zH} {f : Nat} (h_f : f < 8) {t : Nat} (h_t : t < 2) {u : Nat} (h_u : u < 2) {ri o g pd : Int} (hi : sInv swC h) (b_ri : 0 ≤ ri ∧ ri ≤ 9) (b_o : 0 ≤ o ∧ o ≤ 7) (b_g : 0 ≤ g ∧ g ≤ 99) (b_pd : 0 ≤ pd ∧ pd ≤ 2000000000) (l0 : zget lo 0 = some (.ref 61)) (l1 : zget lo 1 = some (.ref (12 * u + 43))) (l2 : zget lo 2 = some (.ref (17 * t + 16))) (l3 : zI lo 3 ri) (l4 : zI lo 4 (f : Int)) (l5 : zI lo 5 o) (l7 : zI lo 7 g) (p_pd : pI h (12 * u + 47) f = pd)
    (hE0 : ∀ (lo' : zL) (h' : zH) (y0 : Int32) (y3 : Int32), sInv swC h' → sMd (kcP7_m f t u) h h' → pI h' (12 * u + 47) f = g + pd → zget lo' 0 = some (.ref 61) → zget lo' 1 = some (.ref (12 * u + 43)) → zget lo' 2 = some (.ref (17 * t + 16)) → zI lo' 3 ri → zI lo' 4 (f : Int) → zI lo' 5 o → zI lo' 7 g → y0.toInt = (f : Int) → y3.toInt = g → zX l Γ false (d + 1) (zhd 102) (zMQ' Γ false (zhd 102) Kp) 0 0 170 lo' [.int y0, .ref (12 * u + 43), .ref 61, .int y3] h') : zX l Γ false (d + 1) (zhd 102) (zMQ' Γ false (zhd 102) Kp) 0 0 152 lo [] h := by
  refine sye_ok (mi := 102) (pc := 152) (fun i => [ri, (f : Int), o, g, pd].getD i 0) (zall_r (zall_r (zall_r kcP7_b h_f) h_t) h_u) (fun _ _ hc _ => nomatch hc) hd ⟨l0, l1, l2, zIm l3 (by show 0 ≤ ri; omega) (by show ri ≤ 9; omega), zIm l4 (by show (f : Int) ≤ (f : Int); omega) (by show (f : Int) ≤ (f : Int); omega), zIm l5 (by show 0 ≤ o; omega) (by show o ≤ 7; omega), zIm l7 (by show 0 ≤ g; omega) (by show g ≤ 99; omega), trivial⟩ rfl ⟨(fun _ hc => nomatch hc), (fun _ hc => nomatch hc), (fun _ hc => nomatch hc), Or.inl rfl⟩ ⟨⟨p_pd, by show 0 ≤ pd; omega, by show pd ≤ 2000000000; omega⟩, trivial⟩ trivial (fun _ hc => nomatch hc) hi ?_ ?_
  · intro e he lo' st' h' hp hi' hm
    rcases List.mem_cons.mp he with rfl | he
    · obtain ⟨p1, p2, -, hz⟩ := hp
      obtain ⟨⟨z1, z2, z3, z4⟩, z5, z6⟩ := hz
      have k0 : pI h' (12 * u + 47) f = g + pd := (show pI h' (12 * u + 47) f = (1 * g + (1 * pd + 0)) + 0 from z1 ((12 * u + 47), (none, ((f : Nat) : Int)), ([(3, 1), (4, 1)], 0)) (List.mem_of_getElem? (i := 0) rfl)).trans (by omega)
      have o0 : zget lo' 0 = some (.ref 61) := locR (p2 (0, .inr (.inl 61)) (List.mem_of_getElem? (i := 0) rfl))
      have o1 : zget lo' 1 = some (.ref (12 * u + 43)) := locR (p2 (1, .inr (.inl (12 * u + 43))) (List.mem_of_getElem? (i := 1) rfl))
      have o2 : zget lo' 2 = some (.ref (17 * t + 16)) := locR (p2 (2, .inr (.inl (17 * t + 16))) (List.mem_of_getElem? (i := 2) rfl))
      have o3 : zI lo' 3 ri := zI_of (p2 (3, .inl sf32) (List.mem_of_getElem? (i := 3) rfl)) (z3 (3, ([(0, 1)], 0)) (List.mem_of_getElem? (i := 0) rfl)) (show (1 * ri + 0) + 0 = ri from by omega)
      have o4 : zI lo' 4 (f : Int) := zI_of (p2 (4, .inl sf32) (List.mem_of_getElem? (i := 4) rfl)) (z3 (4, ([], (f : Int))) (List.mem_of_getElem? (i := 1) rfl)) (show 0 + (f : Int) = (f : Int) from by omega)
      have o5 : zI lo' 5 o := zI_of (p2 (5, .inl sf32) (List.mem_of_getElem? (i := 5) rfl)) (z3 (5, ([(2, 1)], 0)) (List.mem_of_getElem? (i := 2) rfl)) (show (1 * o + 0) + 0 = o from by omega)
      have o7 : zI lo' 7 g := zI_of (p2 (7, .inl sf32) (List.mem_of_getElem? (i := 6) rfl)) (z3 (7, ([(3, 1)], 0)) (List.mem_of_getElem? (i := 3) rfl)) (show (1 * g + 0) + 0 = g from by omega)
      obtain ⟨_, _, rfl, ⟨y0, rfl, -⟩, p1⟩ := p1
      obtain ⟨_, _, rfl, hr, p1⟩ := p1
      have hr : _ = Value.ref (12 * u + 43) := hr
      subst hr
      obtain ⟨_, _, rfl, hr, p1⟩ := p1
      have hr : _ = Value.ref 61 := hr
      subst hr
      obtain ⟨_, _, rfl, ⟨y3, rfl, -⟩, p1⟩ := p1
      have p1 : _ = [] := p1
      subst p1
      obtain ⟨v_, ev, hv⟩ := z2 (0, ([], (f : Int))) (List.mem_of_getElem? (i := 0) rfl)
      cases ev
      have s0 : y0.toInt = (f : Int) := (show y0.toInt = 0 + (f : Int) from hv).trans (by omega)
      obtain ⟨v_, ev, hv⟩ := z2 (3, ([(3, 1)], 0)) (List.mem_of_getElem? (i := 1) rfl)
      cases ev
      have s3 : y3.toInt = g := (show y3.toInt = (1 * g + 0) + 0 from hv).trans (by omega)
      exact hE0 lo' h' y0 y3 hi' hm k0 o0 o1 o2 o3 o4 o5 o7 s0 s3
    cases he
  · intro e he r' h' hp hi' hm
    cases he
def kcP3_L (f : Nat) (t : Nat) (u : Nat) : List (Nat × sT) := [(0, .inr (.inl 61)), (1, .inr (.inl (12 * u + 43))), (2, .inr (.inl (17 * t + 16))), (3, .inl (0, 9)), (4, .inl ((f : Int), (f : Int))), (5, .inl (0, 7)), (7, .inl (0, 99))]
def kcP3_S (f : Nat) (t : Nat) (u : Nat) : List sT := [.inl (0, 99), .inl (0, 99)]
def kcP3_A (f : Nat) (t : Nat) (u : Nat) : sAs := ([], [], [], [])
def kcP3_P (f : Nat) (t : Nat) (u : Nat) : List sP0 := [((12 * u + 45), (none, ((f : Nat) : Int)), (0, 999)), ((12 * u + 43), (none, 2), (0, 2000000000))]
def kcP3_G (f : Nat) (t : Nat) (u : Nat) : List sP0 := []
def kcP3_B (f : Nat) (t : Nat) (u : Nat) : List (Nat × Nat × Int) := []
def kcP3_m (f : Nat) (t : Nat) (u : Nat) : sM := [((12 * u + 43), 2, 3), ((12 * u + 45), f, (f + 1))]
def kcP3_e0 (f : Nat) (t : Nat) (u : Nat) : sXe := (201, [], [(0, .inr (.inl 61)), (1, .inr (.inl (12 * u + 43))), (2, .inr (.inl (17 * t + 16))), (3, .inl sf32), (5, .inl sf32), (7, .inl sf32), (8, .inl sf32)], sA0, [], ([((12 * u + 43), (none, 2), ([(4, 1), (7, 1)], 0)), ((12 * u + 45), (none, ((f : Nat) : Int)), ([(3, (-1)), (6, 1)], 0))], [], [(3, ([(0, 1)], 0)), (5, ([(2, 1)], 0)), (7, ([(3, 1)], 0)), (8, ([(4, 1)], 0))], [([(4, (-1)), (5, 1)], (-1))]), [], [])
def kcP3_e1 (f : Nat) (t : Nat) (u : Nat) : sXe := (201, [], [(0, .inr (.inl 61)), (1, .inr (.inl (12 * u + 43))), (2, .inr (.inl (17 * t + 16))), (3, .inl sf32), (5, .inl sf32), (7, .inl sf32), (8, .inl sf32)], sA0, [], ([((12 * u + 43), (none, 2), ([(5, 1), (7, 1)], 0)), ((12 * u + 45), (none, ((f : Nat) : Int)), ([(3, (-1)), (6, 1)], 0))], [], [(3, ([(0, 1)], 0)), (5, ([(2, 1)], 0)), (7, ([(3, 1)], 0)), (8, ([(5, 1)], 0))], [([(4, 1), (5, (-1))], 0)]), [], [])
theorem kcP3_b : ((List.range 8).all fun f => ((List.range 2).all fun t => ((List.range 2).all fun u => syeB swC sT0 (kcP3_m f t u) 400 0 102 (kcP3_L f t u) (kcP3_S f t u) (kcP3_A f t u) (kcP3_P f t u) (kcP3_G f t u) (kcP3_B f t u) 173 [kcP3_e0 f t u, kcP3_e1 f t u] []))) = true := by decide +kernel
theorem kcP3 {l : Launch} {Γ : zG} {d : Nat} (hd : 0 ≤ d) {Kp : Option Value → zH → Prop} {lo : zL} {h : zH} {f : Nat} (h_f : f < 8) {t : Nat} (h_t : t < 2) {u : Nat} (h_u : u < 2) {ri o g x g2 bl tx : Int} (hi : sInv swC h) (b_ri : 0 ≤ ri ∧ ri ≤ 9) (b_o : 0 ≤ o ∧ o ≤ 7) (b_g : 0 ≤ g ∧ g ≤ 99) (b_x : 0 ≤ x ∧ x ≤ 99) (b_g2 : 0 ≤ g2 ∧ g2 ≤ 99) (b_bl : 0 ≤ bl ∧ bl ≤ 999) (b_tx : 0 ≤ tx ∧ tx ≤ 2000000000) (l0 : zget lo 0 = some (.ref 61)) (l1 : zget lo 1 = some (.ref (12 * u + 43))) (l2 : zget lo 2 = some (.ref (17 * t + 16))) (l3 : zI lo 3 ri) (l4 : zI lo 4 (f : Int)) (l5 : zI lo 5 o) (l7 : zI lo 7 g) {x_x : Int32} (e_x : x_x.toInt = x) {x_g2 : Int32} (e_g2 : x_g2.toInt = g2) (p_bl : pI h (12 * u + 45) f = bl) (p_tx : pI h (12 * u + 43) 2 = tx)
    (hE0 : ∀ (lo' : zL) (h' : zH), sInv swC h' → sMd (kcP3_m f t u) h h' → 0 ≤ -x + g2 - 1 → pI h' (12 * u + 43) 2 = x + tx → pI h' (12 * u + 45) f = -g + bl → zget lo' 0 = some (.ref 61) → zget lo' 1 = some (.ref (12 * u + 43)) → zget lo' 2 = some (.ref (17 * t + 16)) → zI lo' 3 ri → zI lo' 5 o → zI lo' 7 g → zI lo' 8 x → zX l Γ false (d + 1) (zhd 102) (zMQ' Γ false (zhd 102) Kp) 0 0 201 lo' [] h')
    (hE1 : ∀ (lo' : zL) (h' : zH), sInv swC h' → sMd (kcP3_m f t u) h h' → 0 ≤ x - g2 → pI h' (12 * u + 43) 2 = g2 + tx → pI h' (12 * u + 45) f = -g + bl → zget lo' 0 = some (.ref 61) → zget lo' 1 = some (.ref (12 * u + 43)) → zget lo' 2 = some (.ref (17 * t + 16)) → zI lo' 3 ri → zI lo' 5 o → zI lo' 7 g → zI lo' 8 g2 → zX l Γ false (d + 1) (zhd 102) (zMQ' Γ false (zhd 102) Kp) 0 0 201 lo' [] h') : zX l Γ false (d + 1) (zhd 102) (zMQ' Γ false (zhd 102) Kp) 0 0 173 lo [.int x_x, .int x_g2] h := by
  refine sye_ok (mi := 102) (pc := 173) (fun i => [ri, (f : Int), o, g, x, g2, bl, tx].getD i 0) (zall_r (zall_r (zall_r kcP3_b h_f) h_t) h_u) (fun _ _ hc _ => nomatch hc) hd ⟨l0, l1, l2, zIm l3 (by show 0 ≤ ri; omega) (by show ri ≤ 9; omega), zIm l4 (by show (f : Int) ≤ (f : Int); omega) (by show (f : Int) ≤ (f : Int); omega), zIm l5 (by show 0 ≤ o; omega) (by show o ≤ 7; omega), zIm l7 (by show 0 ≤ g; omega) (by show g ≤ 99; omega), trivial⟩ ⟨x_x, _, rfl, e_x, ⟨by show 0 ≤ x; omega, by show x ≤ 99; omega⟩, ⟨x_g2, _, rfl, e_g2, ⟨by show 0 ≤ g2; omega, by show g2 ≤ 99; omega⟩, rfl⟩⟩ ⟨(fun _ hc => nomatch hc), (fun _ hc => nomatch hc), (fun _ hc => nomatch hc), Or.inl rfl⟩ ⟨⟨p_bl, by show 0 ≤ bl; omega, by show bl ≤ 999; omega⟩, ⟨p_tx, by show 0 ≤ tx; omega, by show tx ≤ 2000000000; omega⟩, trivial⟩ trivial (fun _ hc => nomatch hc) hi ?_ ?_
  · intro e he lo' st' h' hp hi' hm
    rcases List.mem_cons.mp he with rfl | he
    · obtain ⟨p1, p2, -, hz⟩ := hp
      obtain ⟨⟨z1, z2, z3, z4⟩, z5, z6⟩ := hz
      have c0 : 0 ≤ -x + g2 - 1 := by have q_ : (0 : Int) ≤ ((-1) * x + (1 * g2 + 0)) + (-1) := z4 ([(4, (-1)), (5, 1)], (-1)) (List.mem_of_getElem? (i := 0) rfl); omega
      have k0 : pI h' (12 * u + 43) 2 = x + tx := (show pI h' (12 * u + 43) 2 = (1 * x + (1 * tx + 0)) + 0 from z1 ((12 * u + 43), (none, 2), ([(4, 1), (7, 1)], 0)) (List.mem_of_getElem? (i := 0) rfl)).trans (by omega)
      have k1 : pI h' (12 * u + 45) f = -g + bl := (show pI h' (12 * u + 45) f = ((-1) * g + (1 * bl + 0)) + 0 from z1 ((12 * u + 45), (none, ((f : Nat) : Int)), ([(3, (-1)), (6, 1)], 0)) (List.mem_of_getElem? (i := 1) rfl)).trans (by omega)
      have o0 : zget lo' 0 = some (.ref 61) := locR (p2 (0, .inr (.inl 61)) (List.mem_of_getElem? (i := 0) rfl))
      have o1 : zget lo' 1 = some (.ref (12 * u + 43)) := locR (p2 (1, .inr (.inl (12 * u + 43))) (List.mem_of_getElem? (i := 1) rfl))
      have o2 : zget lo' 2 = some (.ref (17 * t + 16)) := locR (p2 (2, .inr (.inl (17 * t + 16))) (List.mem_of_getElem? (i := 2) rfl))
      have o3 : zI lo' 3 ri := zI_of (p2 (3, .inl sf32) (List.mem_of_getElem? (i := 3) rfl)) (z3 (3, ([(0, 1)], 0)) (List.mem_of_getElem? (i := 0) rfl)) (show (1 * ri + 0) + 0 = ri from by omega)
      have o5 : zI lo' 5 o := zI_of (p2 (5, .inl sf32) (List.mem_of_getElem? (i := 4) rfl)) (z3 (5, ([(2, 1)], 0)) (List.mem_of_getElem? (i := 1) rfl)) (show (1 * o + 0) + 0 = o from by omega)
      have o7 : zI lo' 7 g := zI_of (p2 (7, .inl sf32) (List.mem_of_getElem? (i := 5) rfl)) (z3 (7, ([(3, 1)], 0)) (List.mem_of_getElem? (i := 2) rfl)) (show (1 * g + 0) + 0 = g from by omega)
      have o8 : zI lo' 8 x := zI_of (p2 (8, .inl sf32) (List.mem_of_getElem? (i := 6) rfl)) (z3 (8, ([(4, 1)], 0)) (List.mem_of_getElem? (i := 3) rfl)) (show (1 * x + 0) + 0 = x from by omega)
      have p1 : _ = [] := p1
      subst p1
      exact hE0 lo' h' hi' hm c0 k0 k1 o0 o1 o2 o3 o5 o7 o8
    rcases List.mem_cons.mp he with rfl | he
    · obtain ⟨p1, p2, -, hz⟩ := hp
      obtain ⟨⟨z1, z2, z3, z4⟩, z5, z6⟩ := hz
      have c0 : 0 ≤ x - g2 := by have q_ : (0 : Int) ≤ (1 * x + ((-1) * g2 + 0)) + 0 := z4 ([(4, 1), (5, (-1))], 0) (List.mem_of_getElem? (i := 0) rfl); omega
      have k0 : pI h' (12 * u + 43) 2 = g2 + tx := (show pI h' (12 * u + 43) 2 = (1 * g2 + (1 * tx + 0)) + 0 from z1 ((12 * u + 43), (none, 2), ([(5, 1), (7, 1)], 0)) (List.mem_of_getElem? (i := 0) rfl)).trans (by omega)
      have k1 : pI h' (12 * u + 45) f = -g + bl := (show pI h' (12 * u + 45) f = ((-1) * g + (1 * bl + 0)) + 0 from z1 ((12 * u + 45), (none, ((f : Nat) : Int)), ([(3, (-1)), (6, 1)], 0)) (List.mem_of_getElem? (i := 1) rfl)).trans (by omega)
      have o0 : zget lo' 0 = some (.ref 61) := locR (p2 (0, .inr (.inl 61)) (List.mem_of_getElem? (i := 0) rfl))
      have o1 : zget lo' 1 = some (.ref (12 * u + 43)) := locR (p2 (1, .inr (.inl (12 * u + 43))) (List.mem_of_getElem? (i := 1) rfl))
      have o2 : zget lo' 2 = some (.ref (17 * t + 16)) := locR (p2 (2, .inr (.inl (17 * t + 16))) (List.mem_of_getElem? (i := 2) rfl))
      have o3 : zI lo' 3 ri := zI_of (p2 (3, .inl sf32) (List.mem_of_getElem? (i := 3) rfl)) (z3 (3, ([(0, 1)], 0)) (List.mem_of_getElem? (i := 0) rfl)) (show (1 * ri + 0) + 0 = ri from by omega)
      have o5 : zI lo' 5 o := zI_of (p2 (5, .inl sf32) (List.mem_of_getElem? (i := 4) rfl)) (z3 (5, ([(2, 1)], 0)) (List.mem_of_getElem? (i := 1) rfl)) (show (1 * o + 0) + 0 = o from by omega)
      have o7 : zI lo' 7 g := zI_of (p2 (7, .inl sf32) (List.mem_of_getElem? (i := 5) rfl)) (z3 (7, ([(3, 1)], 0)) (List.mem_of_getElem? (i := 2) rfl)) (show (1 * g + 0) + 0 = g from by omega)
      have o8 : zI lo' 8 g2 := zI_of (p2 (8, .inl sf32) (List.mem_of_getElem? (i := 6) rfl)) (z3 (8, ([(5, 1)], 0)) (List.mem_of_getElem? (i := 3) rfl)) (show (1 * g2 + 0) + 0 = g2 from by omega)
      have p1 : _ = [] := p1
      subst p1
      exact hE1 lo' h' hi' hm c0 k0 k1 o0 o1 o2 o3 o5 o7 o8
    cases he
  · intro e he r' h' hp hi' hm
    cases he
def kcP4_L (q : Nat) (t : Nat) (u : Nat) : List (Nat × sT) := [(0, .inr (.inl 61)), (1, .inr (.inl (12 * u + 43))), (2, .inr (.inl (17 * t + 16))), (3, .inl (0, 9)), (5, .inl ((q : Int), (q : Int))), (7, .inl (0, 99)), (8, .inl (0, 99))]
def kcP4_S (q : Nat) (t : Nat) (u : Nat) : List sT := []
def kcP4_A (q : Nat) (t : Nat) (u : Nat) : sAs := ([], [], [], [])
def kcP4_P (q : Nat) (t : Nat) (u : Nat) : List sP0 := [((12 * u + 44), (none, ((q : Nat) : Int)), (0, 999))]
def kcP4_G (q : Nat) (t : Nat) (u : Nat) : List sP0 := []
def kcP4_B (q : Nat) (t : Nat) (u : Nat) : List (Nat × Nat × Int) := [(2, 3, 0)]
def kcP4_m (q : Nat) (t : Nat) (u : Nat) : sM := [((12 * u + 44), q, (q + 1))]
def kcP4_e0 (q : Nat) (t : Nat) (u : Nat) : sXe := (10, [], [(0, .inr (.inl 61)), (1, .inr (.inl (12 * u + 43))), (2, .inr (.inl (17 * t + 16))), (3, .inl sf32)], sA0, [], ([((12 * u + 44), (none, ((q : Nat) : Int)), ([(2, 1), (3, (-1)), (4, 1)], 0))], [], [(3, ([(0, 1)], 1))], [([(2, (-1)), (3, 1), (4, (-1))], 998)]), [], [])
def kcP4_e1 (q : Nat) (t : Nat) (u : Nat) : sXe := (10, [], [(0, .inr (.inl 61)), (1, .inr (.inl (12 * u + 43))), (2, .inr (.inl (17 * t + 16))), (3, .inl sf32)], sA0, [], ([((12 * u + 44), (none, ((q : Nat) : Int)), ([], 999))], [], [(3, ([(0, 1)], 1))], [([(2, 1), (3, (-1)), (4, 1)], (-999))]), [], [])
theorem kcP4_b : ((List.range 8).all fun q => ((List.range 2).all fun t => ((List.range 2).all fun u => syeB swC sT0 (kcP4_m q t u) 400 0 102 (kcP4_L q t u) (kcP4_S q t u) (kcP4_A q t u) (kcP4_P q t u) (kcP4_G q t u) (kcP4_B q t u) 201 [kcP4_e0 q t u, kcP4_e1 q t u] []))) = true := by decide +kernel
theorem kcP4 {l : Launch} {Γ : zG} {d : Nat} (hd : 0 ≤ d) {Kp : Option Value → zH → Prop} {lo : zL} {h : zH} {q : Nat} (h_q : q < 8) {t : Nat} (h_t : t < 2) {u : Nat} (h_u : u < 2) {ri g x ab : Int} (hi : sInv swC h) (b_ri : 0 ≤ ri ∧ ri ≤ 9) (b_g : 0 ≤ g ∧ g ≤ 99) (b_x : 0 ≤ x ∧ x ≤ 99) (b_ab : 0 ≤ ab ∧ ab ≤ 999) (l0 : zget lo 0 = some (.ref 61)) (l1 : zget lo 1 = some (.ref (12 * u + 43))) (l2 : zget lo 2 = some (.ref (17 * t + 16))) (l3 : zI lo 3 ri) (l5 : zI lo 5 (q : Int)) (l7 : zI lo 7 g) (l8 : zI lo 8 x) (p_ab : pI h (12 * u + 44) q = ab) (d0 : 0 ≤ g - x)
    (hE0 : ∀ (lo' : zL) (h' : zH), sInv swC h' → sMd (kcP4_m q t u) h h' → 0 ≤ -g + x - ab + 998 → pI h' (12 * u + 44) q = g - x + ab → zget lo' 0 = some (.ref 61) → zget lo' 1 = some (.ref (12 * u + 43)) → zget lo' 2 = some (.ref (17 * t + 16)) → zI lo' 3 (ri + 1) → zX l Γ false (d + 1) (zhd 102) (zMQ' Γ false (zhd 102) Kp) 0 0 10 lo' [] h')
    (hE1 : ∀ (lo' : zL) (h' : zH), sInv swC h' → sMd (kcP4_m q t u) h h' → 0 ≤ g - x + ab - 999 → pI h' (12 * u + 44) q = 999 → zget lo' 0 = some (.ref 61) → zget lo' 1 = some (.ref (12 * u + 43)) → zget lo' 2 = some (.ref (17 * t + 16)) → zI lo' 3 (ri + 1) → zX l Γ false (d + 1) (zhd 102) (zMQ' Γ false (zhd 102) Kp) 0 0 10 lo' [] h') : zX l Γ false (d + 1) (zhd 102) (zMQ' Γ false (zhd 102) Kp) 0 0 201 lo [] h := by
  refine sye_ok (mi := 102) (pc := 201) (fun i => [ri, (q : Int), g, x, ab].getD i 0) (zall_r (zall_r (zall_r kcP4_b h_q) h_t) h_u) (fun _ _ hc _ => nomatch hc) hd ⟨l0, l1, l2, zIm l3 (by show 0 ≤ ri; omega) (by show ri ≤ 9; omega), zIm l5 (by show (q : Int) ≤ (q : Int); omega) (by show (q : Int) ≤ (q : Int); omega), zIm l7 (by show 0 ≤ g; omega) (by show g ≤ 99; omega), zIm l8 (by show 0 ≤ x; omega) (by show x ≤ 99; omega), trivial⟩ rfl ⟨(fun _ hc => nomatch hc), (fun _ hc => nomatch hc), (fun _ hc => nomatch hc), Or.inl rfl⟩ ⟨⟨p_ab, by show 0 ≤ ab; omega, by show ab ≤ 999; omega⟩, trivial⟩ trivial (sfm d0 (fun _ hc => nomatch hc)) hi ?_ ?_
  · intro e he lo' st' h' hp hi' hm
    rcases List.mem_cons.mp he with rfl | he
    · obtain ⟨p1, p2, -, hz⟩ := hp
      obtain ⟨⟨z1, z2, z3, z4⟩, z5, z6⟩ := hz
      have c0 : 0 ≤ -g + x - ab + 998 := by have q_ : (0 : Int) ≤ ((-1) * g + (1 * x + ((-1) * ab + 0))) + 998 := z4 ([(2, (-1)), (3, 1), (4, (-1))], 998) (List.mem_of_getElem? (i := 0) rfl); omega
      have k0 : pI h' (12 * u + 44) q = g - x + ab := (show pI h' (12 * u + 44) q = (1 * g + ((-1) * x + (1 * ab + 0))) + 0 from z1 ((12 * u + 44), (none, ((q : Nat) : Int)), ([(2, 1), (3, (-1)), (4, 1)], 0)) (List.mem_of_getElem? (i := 0) rfl)).trans (by omega)
      have o0 : zget lo' 0 = some (.ref 61) := locR (p2 (0, .inr (.inl 61)) (List.mem_of_getElem? (i := 0) rfl))
      have o1 : zget lo' 1 = some (.ref (12 * u + 43)) := locR (p2 (1, .inr (.inl (12 * u + 43))) (List.mem_of_getElem? (i := 1) rfl))
      have o2 : zget lo' 2 = some (.ref (17 * t + 16)) := locR (p2 (2, .inr (.inl (17 * t + 16))) (List.mem_of_getElem? (i := 2) rfl))
      have o3 : zI lo' 3 (ri + 1) := zI_of (p2 (3, .inl sf32) (List.mem_of_getElem? (i := 3) rfl)) (z3 (3, ([(0, 1)], 1)) (List.mem_of_getElem? (i := 0) rfl)) (show (1 * ri + 0) + 1 = ri + 1 from by omega)
      have p1 : _ = [] := p1
      subst p1
      exact hE0 lo' h' hi' hm c0 k0 o0 o1 o2 o3
    rcases List.mem_cons.mp he with rfl | he
    · obtain ⟨p1, p2, -, hz⟩ := hp
      obtain ⟨⟨z1, z2, z3, z4⟩, z5, z6⟩ := hz
      have c0 : 0 ≤ g - x + ab - 999 := by have q_ : (0 : Int) ≤ (1 * g + ((-1) * x + (1 * ab + 0))) + (-999) := z4 ([(2, 1), (3, (-1)), (4, 1)], (-999)) (List.mem_of_getElem? (i := 0) rfl); omega
      have k0 : pI h' (12 * u + 44) q = 999 := (show pI h' (12 * u + 44) q = 0 + 999 from z1 ((12 * u + 44), (none, ((q : Nat) : Int)), ([], 999)) (List.mem_of_getElem? (i := 0) rfl)).trans (by omega)
      have o0 : zget lo' 0 = some (.ref 61) := locR (p2 (0, .inr (.inl 61)) (List.mem_of_getElem? (i := 0) rfl))
      have o1 : zget lo' 1 = some (.ref (12 * u + 43)) := locR (p2 (1, .inr (.inl (12 * u + 43))) (List.mem_of_getElem? (i := 1) rfl))
      have o2 : zget lo' 2 = some (.ref (17 * t + 16)) := locR (p2 (2, .inr (.inl (17 * t + 16))) (List.mem_of_getElem? (i := 2) rfl))
      have o3 : zI lo' 3 (ri + 1) := zI_of (p2 (3, .inl sf32) (List.mem_of_getElem? (i := 3) rfl)) (z3 (3, ([(0, 1)], 1)) (List.mem_of_getElem? (i := 0) rfl)) (show (1 * ri + 0) + 1 = ri + 1 from by omega)
      have p1 : _ = [] := p1
      subst p1
      exact hE1 lo' h' hi' hm c0 k0 o0 o1 o2 o3
    cases he
  · intro e he r' h' hp hi' hm
    cases he
def kcP5_L (t : Nat) (u : Nat) : List (Nat × sT) := [(0, .inr (.inl 61)), (1, .inr (.inl (12 * u + 43))), (2, .inr (.inl (17 * t + 16))), (3, .inl (0, 10))]
def kcP5_S (t : Nat) (u : Nat) : List sT := []
def kcP5_A (t : Nat) (u : Nat) : sAs := ([], [], [], [])
def kcP5_P (t : Nat) (u : Nat) : List sP0 := [((17 * t + 16), (none, 3), (0, 10))]
def kcP5_G (t : Nat) (u : Nat) : List sP0 := []
def kcP5_B (t : Nat) (u : Nat) : List (Nat × Nat × Int) := [(0, 1, 0)]
def kcP5_m (t : Nat) (u : Nat) : sM := []
def kcP5_r0 (t : Nat) (u : Nat) : sXr := (none, sA0, [], ([], [], [], []), [], [])
theorem kcP5_b : ((List.range 2).all fun t => ((List.range 2).all fun u => syeB swC sT0 (kcP5_m t u) 400 0 102 (kcP5_L t u) (kcP5_S t u) (kcP5_A t u) (kcP5_P t u) (kcP5_G t u) (kcP5_B t u) 10 [] [kcP5_r0 t u])) = true := by decide +kernel
theorem kcP5 {l : Launch} {Γ : zG} {d : Nat} (hd : 0 ≤ d) {Kp : Option Value → zH → Prop} {lo : zL} {h : zH} {t : Nat} (h_t : t < 2) {u : Nat} (h_u : u < 2) {ri n : Int} (hi : sInv swC h) (b_ri : 0 ≤ ri ∧ ri ≤ 10) (b_n : 0 ≤ n ∧ n ≤ 10) (l0 : zget lo 0 = some (.ref 61)) (l1 : zget lo 1 = some (.ref (12 * u + 43))) (l2 : zget lo 2 = some (.ref (17 * t + 16))) (l3 : zI lo 3 ri) (p_n : pI h (17 * t + 16) 3 = n) (d0 : 0 ≤ ri - n)
    (hR0 : ∀ (h' : zH), sInv swC h' → sMd (kcP5_m t u) h h' → Kp none h') : zX l Γ false (d + 1) (zhd 102) (zMQ' Γ false (zhd 102) Kp) 0 0 10 lo [] h := by
  refine sye_ok (mi := 102) (pc := 10) (fun i => [ri, n].getD i 0) (zall_r (zall_r kcP5_b h_t) h_u) (fun _ _ hc _ => nomatch hc) hd ⟨l0, l1, l2, zIm l3 (by show 0 ≤ ri; omega) (by show ri ≤ 10; omega), trivial⟩ rfl ⟨(fun _ hc => nomatch hc), (fun _ hc => nomatch hc), (fun _ hc => nomatch hc), Or.inl rfl⟩ ⟨⟨p_n, by show 0 ≤ n; omega, by show n ≤ 10; omega⟩, trivial⟩ trivial (sfm d0 (fun _ hc => nomatch hc)) hi ?_ ?_
  · intro e he lo' st' h' hp hi' hm
    cases he
  · intro e he r' h' hp hi' hm
    rcases List.mem_cons.mp he with rfl | he
    · obtain ⟨p1, -, hz⟩ := hp
      obtain ⟨⟨z1, z2, z3, z4⟩, z5, z6⟩ := hz
      have p1 : r' = none := p1
      subst p1
      exact hR0 h' hi' hm
    cases he
def kcX0_L (t : Nat) (u : Nat) : List sT := [.inr (.inl 61), .inr (.inl (12 * u + 43)), .inl (0, 7)]
def kcX0_A (t : Nat) (u : Nat) : sAs := ([], [(61, 0, (17 * t + 9))], [], [])
def kcX0_P (t : Nat) (u : Nat) : List sP0 := [(61, (none, 2), sf32), ((17 * t + 22), (none, 1), ((-1), 64))]
def kcX0_G (t : Nat) (u : Nat) : List sP0 := []
def kcX0_B (t : Nat) (u : Nat) : List (Nat × Nat × Int) := []
def kcX0_m (t : Nat) (u : Nat) : sM := []
def kcX0_e0 (t : Nat) (u : Nat) : sXe := (27, [.inl sf32, .inr (.inl (12 * u + 43)), .inr (.inl 61)], [(0, .inr (.inl 61)), (1, .inr (.inl (12 * u + 43))), (2, .inl sf32)], sA0, [], ([], [(0, ([(0, 1)], 0))], [(2, ([(0, 1)], 0))], []), [(([(1, 1)], 0), ([], 3)), (([(2, 1)], 0), ([], (-1)))], [])
def kcX0_r0 (t : Nat) (u : Nat) : sXr := (some (.inl sf32), sA0, [], ([], [(0, ([], 0))], [], [([(1, 1)], (-3)), ([(1, (-1))], 3)]), [], [])
def kcX0_r1 (t : Nat) (u : Nat) : sXr := (some (.inl sf32), sA0, [], ([], [(0, ([], 0))], [], [([(2, 1)], 1), ([(2, (-1))], (-1))]), [(([(1, 1)], 0), ([], 3))], [])
theorem kcX0_b : ((List.range 2).all fun t => ((List.range 2).all fun u => syfB swC sT0 (kcX0_m t u) 400 1 103 (kcX0_L t u) (kcX0_A t u) (kcX0_P t u) (kcX0_G t u) (kcX0_B t u) [kcX0_e0 t u] [kcX0_r0 t u, kcX0_r1 t u])) = true := by decide +kernel
theorem kcX0 {l : Launch} {Γ : zG} {d : Nat} (hd : 1 ≤ d) {Kp : Option Value → zH → Prop} {h : zH} {t : Nat} (h_t : t < 2) {u : Nat} (h_u : u < 2) {g lf fm : Int} (hi : sInv swC h) (b_g : 0 ≤ g ∧ g ≤ 7) (b_lf : (-2147483648) ≤ lf ∧ lf ≤ 2147483647) (b_fm : (-1) ≤ fm ∧ fm ≤ 64) {x_g : Int32} (e_g : x_g.toInt = g) (p_lf : pI h 61 2 = lf) (p_fm : pI h (17 * t + 22) 1 = fm) (q0 : h.2.2.2 61 0 = some (17 * t + 9))
    (hE0 : ∀ (lo' : zL) (h' : zH) (y0 : Int32), sInv swC h' → sMd (kcX0_m t u) h h' → lf ≠ 3 → fm ≠ (-1) → zget lo' 0 = some (.ref 61) → zget lo' 1 = some (.ref (12 * u + 43)) → zI lo' 2 g → y0.toInt = g → zX l Γ false (d + 1) (zhd 103) (zMQ' Γ false (zhd 103) Kp) 0 0 27 lo' [.int y0, .ref (12 * u + 43), .ref 61] h')
    (hR0 : ∀ (h' : zH) (r_ : Int32), sInv swC h' → sMd (kcX0_m t u) h h' → lf = 3 → r_.toInt = 0 → Kp (some (.int r_)) h')
    (hR1 : ∀ (h' : zH) (r_ : Int32), sInv swC h' → sMd (kcX0_m t u) h h' → fm = (-1) → lf ≠ 3 → r_.toInt = 0 → Kp (some (.int r_)) h') : zSem l Γ false (d + 1) (zhd 103) [.ref 61, .ref (12 * u + 43), .int x_g] h Kp := by
  refine syf_ok (mi := 103) (fun i => [g, lf, fm].getD i 0) (zall_r (zall_r kcX0_b h_t) h_u) (fun _ _ hc _ => nomatch hc) hd ⟨_, _, rfl, rfl, ⟨_, _, rfl, rfl, ⟨_, _, rfl, ⟨x_g, rfl, by show 0 ≤ x_g.toInt; omega, by show x_g.toInt ≤ 7; omega⟩, rfl⟩⟩⟩ ⟨rfl, rfl, ⟨x_g, rfl, e_g, by show 0 ≤ g; omega, by show g ≤ 7; omega⟩, trivial⟩ ⟨(fun _ hc => nomatch hc), (sfm q0 (fun _ hc => nomatch hc)), (fun _ hc => nomatch hc), Or.inl rfl⟩ ⟨⟨p_lf, by show (-2147483648) ≤ lf; omega, by show lf ≤ 2147483647; omega⟩, ⟨p_fm, by show (-1) ≤ fm; omega, by show fm ≤ 64; omega⟩, trivial⟩ trivial (fun _ hc => nomatch hc) hi ?_ ?_
  · intro e he lo' st' h' hp hi' hm
    rcases List.mem_cons.mp he with rfl | he
    · obtain ⟨p1, p2, -, hz⟩ := hp
      obtain ⟨⟨z1, z2, z3, z4⟩, z5, z6⟩ := hz
      have n0 : lf ≠ 3 := fun e_ => z5 (([(1, 1)], 0), ([], 3)) (List.mem_of_getElem? (i := 0) rfl) (by show (1 * lf + 0) + 0 = 0 + 3; omega)
      have n1 : fm ≠ (-1) := fun e_ => z5 (([(2, 1)], 0), ([], (-1))) (List.mem_of_getElem? (i := 1) rfl) (by show (1 * fm + 0) + 0 = 0 + (-1); omega)
      have o0 : zget lo' 0 = some (.ref 61) := locR (p2 (0, .inr (.inl 61)) (List.mem_of_getElem? (i := 0) rfl))
      have o1 : zget lo' 1 = some (.ref (12 * u + 43)) := locR (p2 (1, .inr (.inl (12 * u + 43))) (List.mem_of_getElem? (i := 1) rfl))
      have o2 : zI lo' 2 g := zI_of (p2 (2, .inl sf32) (List.mem_of_getElem? (i := 2) rfl)) (z3 (2, ([(0, 1)], 0)) (List.mem_of_getElem? (i := 0) rfl)) (show (1 * g + 0) + 0 = g from by omega)
      obtain ⟨_, _, rfl, ⟨y0, rfl, -⟩, p1⟩ := p1
      obtain ⟨_, _, rfl, hr, p1⟩ := p1
      have hr : _ = Value.ref (12 * u + 43) := hr
      subst hr
      obtain ⟨_, _, rfl, hr, p1⟩ := p1
      have hr : _ = Value.ref 61 := hr
      subst hr
      have p1 : _ = [] := p1
      subst p1
      obtain ⟨v_, ev, hv⟩ := z2 (0, ([(0, 1)], 0)) (List.mem_of_getElem? (i := 0) rfl)
      cases ev
      have s0 : y0.toInt = g := (show y0.toInt = (1 * g + 0) + 0 from hv).trans (by omega)
      exact hE0 lo' h' y0 hi' hm n0 n1 o0 o1 o2 s0
    cases he
  · intro e he r' h' hp hi' hm
    rcases List.mem_cons.mp he with rfl | he
    · obtain ⟨p1, -, hz⟩ := hp
      obtain ⟨⟨z1, z2, z3, z4⟩, z5, z6⟩ := hz
      have c0 : lf = 3 := by have q_ : (0 : Int) ≤ (1 * lf + 0) + (-3) := z4 ([(1, 1)], (-3)) (List.mem_of_getElem? (i := 0) rfl); have q2_ : (0 : Int) ≤ ((-1) * lf + 0) + 3 := z4 ([(1, (-1))], 3) (List.mem_of_getElem? (i := 1) rfl); omega
      obtain ⟨r_, rfl, hv⟩ := ansI p1 (z2 (0, ([], 0)) (List.mem_of_getElem? (i := 0) rfl))
      have s0 : r_.toInt = 0 := (show r_.toInt = 0 + 0 from hv).trans (by omega)
      exact hR0 h' r_ hi' hm c0 s0
    rcases List.mem_cons.mp he with rfl | he
    · obtain ⟨p1, -, hz⟩ := hp
      obtain ⟨⟨z1, z2, z3, z4⟩, z5, z6⟩ := hz
      have c0 : fm = (-1) := by have q_ : (0 : Int) ≤ (1 * fm + 0) + 1 := z4 ([(2, 1)], 1) (List.mem_of_getElem? (i := 0) rfl); have q2_ : (0 : Int) ≤ ((-1) * fm + 0) + (-1) := z4 ([(2, (-1))], (-1)) (List.mem_of_getElem? (i := 1) rfl); omega
      have n0 : lf ≠ 3 := fun e_ => z5 (([(1, 1)], 0), ([], 3)) (List.mem_of_getElem? (i := 0) rfl) (by show (1 * lf + 0) + 0 = 0 + 3; omega)
      obtain ⟨r_, rfl, hv⟩ := ansI p1 (z2 (0, ([], 0)) (List.mem_of_getElem? (i := 0) rfl))
      have s0 : r_.toInt = 0 := (show r_.toInt = 0 + 0 from hv).trans (by omega)
      exact hR1 h' r_ hi' hm c0 n0 s0
    cases he
def kcX1_L (t : Nat) (u : Nat) : List (Nat × sT) := [(0, .inr (.inl 61)), (1, .inr (.inl (12 * u + 43))), (2, .inl (0, 7))]
def kcX1_S (t : Nat) (u : Nat) : List sT := []
def kcX1_A (t : Nat) (u : Nat) : sAs := ([], [(61, 0, (17 * t + 9))], [], [])
def kcX1_P (t : Nat) (u : Nat) : List sP0 := []
def kcX1_G (t : Nat) (u : Nat) : List sP0 := []
def kcX1_B (t : Nat) (u : Nat) : List (Nat × Nat × Int) := []
def kcX1_m (t : Nat) (u : Nat) : sM := []
def kcX1_e0 (t : Nat) (u : Nat) : sXe := (38, [.inl sf32, .inr (.inl (17 * t + 20))], [(0, .inr (.inl 61)), (1, .inr (.inl (12 * u + 43))), (2, .inl sf32)], sA0, [], ([], [(0, ([], 1))], [(2, ([(0, 1)], 0))], []), [], [])
theorem kcX1_b : ((List.range 2).all fun t => ((List.range 2).all fun u => syeB swC sT0 (kcX1_m t u) 400 0 103 (kcX1_L t u) (kcX1_S t u) (kcX1_A t u) (kcX1_P t u) (kcX1_G t u) (kcX1_B t u) 30 [kcX1_e0 t u] [])) = true := by decide +kernel
theorem kcX1 {l : Launch} {Γ : zG} {d : Nat} (hd : 0 ≤ d) {Kp : Option Value → zH → Prop} {lo : zL} {h : zH} {t : Nat} (h_t : t < 2) {u : Nat} (h_u : u < 2) {g : Int} (hi : sInv swC h) (b_g : 0 ≤ g ∧ g ≤ 7) (l0 : zget lo 0 = some (.ref 61)) (l1 : zget lo 1 = some (.ref (12 * u + 43))) (l2 : zI lo 2 g) (q0 : h.2.2.2 61 0 = some (17 * t + 9))
    (hE0 : ∀ (lo' : zL) (h' : zH) (y0 : Int32), sInv swC h' → sMd (kcX1_m t u) h h' → zget lo' 0 = some (.ref 61) → zget lo' 1 = some (.ref (12 * u + 43)) → zI lo' 2 g → y0.toInt = 1 → zX l Γ false (d + 1) (zhd 103) (zMQ' Γ false (zhd 103) Kp) 0 0 38 lo' [.int y0, .ref (17 * t + 20)] h') : zX l Γ false (d + 1) (zhd 103) (zMQ' Γ false (zhd 103) Kp) 0 0 30 lo [] h := by
  refine sye_ok (mi := 103) (pc := 30) (fun i => [g].getD i 0) (zall_r (zall_r kcX1_b h_t) h_u) (fun _ _ hc _ => nomatch hc) hd ⟨l0, l1, zIm l2 (by show 0 ≤ g; omega) (by show g ≤ 7; omega), trivial⟩ rfl ⟨(fun _ hc => nomatch hc), (sfm q0 (fun _ hc => nomatch hc)), (fun _ hc => nomatch hc), Or.inl rfl⟩ trivial trivial (fun _ hc => nomatch hc) hi ?_ ?_
  · intro e he lo' st' h' hp hi' hm
    rcases List.mem_cons.mp he with rfl | he
    · obtain ⟨p1, p2, -, hz⟩ := hp
      obtain ⟨⟨z1, z2, z3, z4⟩, z5, z6⟩ := hz
      have o0 : zget lo' 0 = some (.ref 61) := locR (p2 (0, .inr (.inl 61)) (List.mem_of_getElem? (i := 0) rfl))
      have o1 : zget lo' 1 = some (.ref (12 * u + 43)) := locR (p2 (1, .inr (.inl (12 * u + 43))) (List.mem_of_getElem? (i := 1) rfl))
      have o2 : zI lo' 2 g := zI_of (p2 (2, .inl sf32) (List.mem_of_getElem? (i := 2) rfl)) (z3 (2, ([(0, 1)], 0)) (List.mem_of_getElem? (i := 0) rfl)) (show (1 * g + 0) + 0 = g from by omega)
      obtain ⟨_, _, rfl, ⟨y0, rfl, -⟩, p1⟩ := p1
      obtain ⟨_, _, rfl, hr, p1⟩ := p1
      have hr : _ = Value.ref (17 * t + 20) := hr
      subst hr
      have p1 : _ = [] := p1
      subst p1
      obtain ⟨v_, ev, hv⟩ := z2 (0, ([], 1)) (List.mem_of_getElem? (i := 0) rfl)
      cases ev
      have s0 : y0.toInt = 1 := (show y0.toInt = 0 + 1 from hv).trans (by omega)
      exact hE0 lo' h' y0 hi' hm o0 o1 o2 s0
    cases he
  · intro e he r' h' hp hi' hm
    cases he
def kcX2_L (u : Nat) : List (Nat × sT) := [(0, .inr (.inl 61)), (1, .inr (.inl (12 * u + 43))), (2, .inl (0, 7))]
def kcX2_S (u : Nat) : List sT := [.inr (.inr sf64)]
def kcX2_A (u : Nat) : sAs := ([], [], [], [])
def kcX2_P (u : Nat) : List sP0 := []
def kcX2_G (u : Nat) : List sP0 := []
def kcX2_B (u : Nat) : List (Nat × Nat × Int) := []
def kcX2_m (u : Nat) : sM := []
def kcX2_r0 (u : Nat) : sXr := (some (.inl sf32), sA0, [], ([], [(0, ([], 0))], [], [([(1, 1)], 9223372036854775808), ([(1, (-1))], (-9223372036854775808))]), [], [])
def kcX2_r1 (u : Nat) : sXr := (some (.inl sf32), sA0, [], ([], [(0, ([(1, 1)], 0))], [], [([(1, 1)], 9223372036854775807), ([(1, 1)], 0), ([(1, (-1))], 99)]), [], [])
def kcX2_r2 (u : Nat) : sXr := (some (.inl sf32), sA0, [], ([], [(0, ([], 99))], [], [([(1, 1)], 9223372036854775807), ([(1, 1)], 0), ([(1, 1)], (-100))]), [], [])
def kcX2_r3 (u : Nat) : sXr := (some (.inl sf32), sA0, [], ([], [(0, ([], 0))], [], [([(1, 1)], 9223372036854775807), ([(1, (-1))], (-1))]), [], [])
theorem kcX2_b : ((List.range 2).all fun u => syeB swC sT0 (kcX2_m u) 400 1 103 (kcX2_L u) (kcX2_S u) (kcX2_A u) (kcX2_P u) (kcX2_G u) (kcX2_B u) 41 [] [kcX2_r0 u, kcX2_r1 u, kcX2_r2 u, kcX2_r3 u]) = true := by decide +kernel
theorem kcX2 {l : Launch} {Γ : zG} {d : Nat} (hd : 1 ≤ d) {Kp : Option Value → zH → Prop} {lo : zL} {h : zH} {u : Nat} (h_u : u < 2) {g y : Int} (hi : sInv swC h) (b_g : 0 ≤ g ∧ g ≤ 7) (b_y : (-9223372036854775808) ≤ y ∧ y ≤ 9223372036854775807) (l0 : zget lo 0 = some (.ref 61)) (l1 : zget lo 1 = some (.ref (12 * u + 43))) (l2 : zI lo 2 g) {x_y : Int64} (e_y : x_y.toInt = y)
    (hR0 : ∀ (h' : zH) (r_ : Int32), sInv swC h' → sMd (kcX2_m u) h h' → y = (-9223372036854775808) → r_.toInt = 0 → Kp (some (.int r_)) h')
    (hR1 : ∀ (h' : zH) (r_ : Int32), sInv swC h' → sMd (kcX2_m u) h h' → 0 ≤ y + 9223372036854775807 → 0 ≤ y → 0 ≤ -y + 99 → r_.toInt = y → Kp (some (.int r_)) h')
    (hR2 : ∀ (h' : zH) (r_ : Int32), sInv swC h' → sMd (kcX2_m u) h h' → 0 ≤ y + 9223372036854775807 → 0 ≤ y → 0 ≤ y - 100 → r_.toInt = 99 → Kp (some (.int r_)) h')
    (hR3 : ∀ (h' : zH) (r_ : Int32), sInv swC h' → sMd (kcX2_m u) h h' → 0 ≤ y + 9223372036854775807 → 0 ≤ -y - 1 → r_.toInt = 0 → Kp (some (.int r_)) h') : zX l Γ false (d + 1) (zhd 103) (zMQ' Γ false (zhd 103) Kp) 0 0 41 lo [.long x_y] h := by
  refine sye_ok (mi := 103) (pc := 41) (fun i => [g, y].getD i 0) (zall_r kcX2_b h_u) (fun _ _ hc _ => nomatch hc) hd ⟨l0, l1, zIm l2 (by show 0 ≤ g; omega) (by show g ≤ 7; omega), trivial⟩ ⟨x_y, _, rfl, e_y, ⟨by show (-9223372036854775808) ≤ y; omega, by show y ≤ 9223372036854775807; omega⟩, rfl⟩ ⟨(fun _ hc => nomatch hc), (fun _ hc => nomatch hc), (fun _ hc => nomatch hc), Or.inl rfl⟩ trivial trivial (fun _ hc => nomatch hc) hi ?_ ?_
  · intro e he lo' st' h' hp hi' hm
    cases he
  · intro e he r' h' hp hi' hm
    rcases List.mem_cons.mp he with rfl | he
    · obtain ⟨p1, -, hz⟩ := hp
      obtain ⟨⟨z1, z2, z3, z4⟩, z5, z6⟩ := hz
      have c0 : y = (-9223372036854775808) := by have q_ : (0 : Int) ≤ (1 * y + 0) + 9223372036854775808 := z4 ([(1, 1)], 9223372036854775808) (List.mem_of_getElem? (i := 0) rfl); have q2_ : (0 : Int) ≤ ((-1) * y + 0) + (-9223372036854775808) := z4 ([(1, (-1))], (-9223372036854775808)) (List.mem_of_getElem? (i := 1) rfl); omega
      obtain ⟨r_, rfl, hv⟩ := ansI p1 (z2 (0, ([], 0)) (List.mem_of_getElem? (i := 0) rfl))
      have s0 : r_.toInt = 0 := (show r_.toInt = 0 + 0 from hv).trans (by omega)
      exact hR0 h' r_ hi' hm c0 s0
    rcases List.mem_cons.mp he with rfl | he
    · obtain ⟨p1, -, hz⟩ := hp
      obtain ⟨⟨z1, z2, z3, z4⟩, z5, z6⟩ := hz
      have c0 : 0 ≤ y + 9223372036854775807 := by have q_ : (0 : Int) ≤ (1 * y + 0) + 9223372036854775807 := z4 ([(1, 1)], 9223372036854775807) (List.mem_of_getElem? (i := 0) rfl); omega
      have c1 : 0 ≤ y := by have q_ : (0 : Int) ≤ (1 * y + 0) + 0 := z4 ([(1, 1)], 0) (List.mem_of_getElem? (i := 1) rfl); omega
      have c2 : 0 ≤ -y + 99 := by have q_ : (0 : Int) ≤ ((-1) * y + 0) + 99 := z4 ([(1, (-1))], 99) (List.mem_of_getElem? (i := 2) rfl); omega
      obtain ⟨r_, rfl, hv⟩ := ansI p1 (z2 (0, ([(1, 1)], 0)) (List.mem_of_getElem? (i := 0) rfl))
      have s0 : r_.toInt = y := (show r_.toInt = (1 * y + 0) + 0 from hv).trans (by omega)
      exact hR1 h' r_ hi' hm c0 c1 c2 s0
    rcases List.mem_cons.mp he with rfl | he
    · obtain ⟨p1, -, hz⟩ := hp
      obtain ⟨⟨z1, z2, z3, z4⟩, z5, z6⟩ := hz
      have c0 : 0 ≤ y + 9223372036854775807 := by have q_ : (0 : Int) ≤ (1 * y + 0) + 9223372036854775807 := z4 ([(1, 1)], 9223372036854775807) (List.mem_of_getElem? (i := 0) rfl); omega
      have c1 : 0 ≤ y := by have q_ : (0 : Int) ≤ (1 * y + 0) + 0 := z4 ([(1, 1)], 0) (List.mem_of_getElem? (i := 1) rfl); omega
      have c2 : 0 ≤ y - 100 := by have q_ : (0 : Int) ≤ (1 * y + 0) + (-100) := z4 ([(1, 1)], (-100)) (List.mem_of_getElem? (i := 2) rfl); omega
      obtain ⟨r_, rfl, hv⟩ := ansI p1 (z2 (0, ([], 99)) (List.mem_of_getElem? (i := 0) rfl))
      have s0 : r_.toInt = 99 := (show r_.toInt = 0 + 99 from hv).trans (by omega)
      exact hR2 h' r_ hi' hm c0 c1 c2 s0
    rcases List.mem_cons.mp he with rfl | he
    · obtain ⟨p1, -, hz⟩ := hp
      obtain ⟨⟨z1, z2, z3, z4⟩, z5, z6⟩ := hz
      have c0 : 0 ≤ y + 9223372036854775807 := by have q_ : (0 : Int) ≤ (1 * y + 0) + 9223372036854775807 := z4 ([(1, 1)], 9223372036854775807) (List.mem_of_getElem? (i := 0) rfl); omega
      have c1 : 0 ≤ -y - 1 := by have q_ : (0 : Int) ≤ ((-1) * y + 0) + (-1) := z4 ([(1, (-1))], (-1)) (List.mem_of_getElem? (i := 1) rfl); omega
      obtain ⟨r_, rfl, hv⟩ := ansI p1 (z2 (0, ([], 0)) (List.mem_of_getElem? (i := 0) rfl))
      have s0 : r_.toInt = 0 := (show r_.toInt = 0 + 0 from hv).trans (by omega)
      exact hR3 h' r_ hi' hm c0 c1 s0
    cases he
def kcL_L (g : Nat) (t : Nat) (u : Nat) : List sT := [.inr (.inl 61), .inr (.inl (12 * u + 43)), .inl ((g : Int), (g : Int))]
def kcL_A (g : Nat) (t : Nat) (u : Nat) : sAs := ([], [(61, 0, (17 * t + 9))], [], [])
def kcL_P (g : Nat) (t : Nat) (u : Nat) : List sP0 := [((12 * u + 44), (none, ((g : Nat) : Int)), sf32), ((12 * u + 45), (none, ((g : Nat) : Int)), sf32), ((12 * u + 47), (none, ((g : Nat) : Int)), sf32), ((12 * u + 43), (none, 3), sf32), ((12 * u + 43), (none, 0), sf32), (61, (none, 4), sf32), (61, (none, 5), sf32), ((17 * t + 12), (none, 3), (((g : Int) + 1), 8)), ((17 * t + 13), (none, (((6 * g + 4) : Nat) : Int)), sf32), ((17 * t + 13), (none, (((6 * g + 5) : Nat) : Int)), sf32)]
def kcL_G (g : Nat) (t : Nat) (u : Nat) : List sP0 := []
def kcL_B (g : Nat) (t : Nat) (u : Nat) : List (Nat × Nat × Int) := []
def kcL_m (g : Nat) (t : Nat) (u : Nat) : sM := [((17 * t + 24), 0, 7)]
def kcL_r0 (g : Nat) (t : Nat) (u : Nat) : sXr := (none, sA0, [(0, 4, ([(4, 1)], 0), ([], (g : Int))), (0, 2, ([(11, 1)], 0), ([], 1))], ([((17 * t + 24), (none, 6), ([(5, 1)], 0)), ((17 * t + 24), (none, 5), ([(3, 1)], 0)), ((17 * t + 24), (none, 4), ([(12, 1)], 0)), ((17 * t + 24), (none, 3), ([(10, 1)], 0)), ((17 * t + 24), (none, 2), ([(7, 1)], 0)), ((17 * t + 24), (none, 1), ([(2, 1)], 0)), ((17 * t + 24), (none, 0), ([(1, 1)], 0))], [], [], [([(6, (-1))], (g : Int)), ([(6, 1)], (-1 * (g : Int)))]), [], [])
def kcL_r1 (g : Nat) (t : Nat) (u : Nat) : sXr := (none, sA0, [(0, 4, ([(4, 1)], 0), ([], (g : Int))), (0, 2, ([(11, 1)], 0), ([], 1))], ([((17 * t + 24), (none, 6), ([(5, 1)], 0)), ((17 * t + 24), (none, 5), ([(3, 1)], 0)), ((17 * t + 24), (none, 4), ([(12, 1)], 0)), ((17 * t + 24), (none, 3), ([(10, 1)], 0)), ((17 * t + 24), (none, 2), ([(9, 1)], 0)), ((17 * t + 24), (none, 1), ([(2, 1)], 0)), ((17 * t + 24), (none, 0), ([(1, 1)], 0))], [], [], []), [(([], (g : Int)), ([(6, 1)], 0))], [])
theorem kcL_b : ((List.range 8).all fun g => ((List.range 2).all fun t => ((List.range 2).all fun u => syfB swC sT0 (kcL_m g t u) 400 1 87 (kcL_L g t u) (kcL_A g t u) (kcL_P g t u) (kcL_G g t u) (kcL_B g t u) [] [kcL_r0 g t u, kcL_r1 g t u]))) = true := by decide +kernel
theorem kcL {l : Launch} {Γ : zG} {d : Nat} (hd : 1 ≤ d) {Kp : Option Value → zH → Prop} {h : zH} {g : Nat} (h_g : g < 8) {t : Nat} (h_t : t < 2) {u : Nat} (h_u : u < 2) {a b pd w m og on n nk co : Int} (hi : sInv swC h) (b_a : (-2147483648) ≤ a ∧ a ≤ 2147483647) (b_b : (-2147483648) ≤ b ∧ b ≤ 2147483647) (b_pd : (-2147483648) ≤ pd ∧ pd ≤ 2147483647) (b_w : (-2147483648) ≤ w ∧ w ≤ 2147483647) (b_m : (-2147483648) ≤ m ∧ m ≤ 2147483647) (b_og : (-2147483648) ≤ og ∧ og ≤ 2147483647) (b_on : (-2147483648) ≤ on ∧ on ≤ 2147483647) (b_n : ((g : Int) + 1) ≤ n ∧ n ≤ 8) (b_nk : (-2147483648) ≤ nk ∧ nk ≤ 2147483647) (b_co : (-2147483648) ≤ co ∧ co ≤ 2147483647) {x_gg : Int32} (e_gg : x_gg.toInt = (g : Int)) (p_a : pI h (12 * u + 44) g = a) (p_b : pI h (12 * u + 45) g = b) (p_pd : pI h (12 * u + 47) g = pd) (p_w : pI h (12 * u + 43) 3 = w) (p_m : pI h (12 * u + 43) 0 = m) (p_og : pI h 61 4 = og) (p_on : pI h 61 5 = on) (p_n : pI h (17 * t + 12) 3 = n) (p_nk : pI h (17 * t + 13) (6 * g + 4) = nk) (p_co : pI h (17 * t + 13) (6 * g + 5) = co) (q0 : h.2.2.2 61 0 = some (17 * t + 9))
    (hR0 : ∀ (h' : zH) (w0 w1 : Int), sInv swC h' → sMd (kcL_m g t u) h h' → w0 = sgfn 4 w (g : Int) → w1 = sgfn 2 w0 1 → (g : Int) = og → pI h' (17 * t + 24) 6 = m → pI h' (17 * t + 24) 5 = pd → pI h' (17 * t + 24) 4 = w1 → pI h' (17 * t + 24) 3 = co → pI h' (17 * t + 24) 2 = on → pI h' (17 * t + 24) 1 = b → pI h' (17 * t + 24) 0 = a → Kp none h')
    (hR1 : ∀ (h' : zH) (w0 w1 : Int), sInv swC h' → sMd (kcL_m g t u) h h' → w0 = sgfn 4 w (g : Int) → w1 = sgfn 2 w0 1 → (g : Int) ≠ og → pI h' (17 * t + 24) 6 = m → pI h' (17 * t + 24) 5 = pd → pI h' (17 * t + 24) 4 = w1 → pI h' (17 * t + 24) 3 = co → pI h' (17 * t + 24) 2 = nk → pI h' (17 * t + 24) 1 = b → pI h' (17 * t + 24) 0 = a → Kp none h') : zSem l Γ false (d + 1) (zhd 87) [.ref 61, .ref (12 * u + 43), .int x_gg] h Kp := by
  refine syf_ok (mi := 87) (fun i => [(g : Int), a, b, pd, w, m, og, on, n, nk, co].getD i 0) (zall_r (zall_r (zall_r kcL_b h_g) h_t) h_u) (fun _ _ hc _ => nomatch hc) hd ⟨_, _, rfl, rfl, ⟨_, _, rfl, rfl, ⟨_, _, rfl, ⟨x_gg, rfl, by show (g : Int) ≤ x_gg.toInt; omega, by show x_gg.toInt ≤ (g : Int); omega⟩, rfl⟩⟩⟩ ⟨rfl, rfl, ⟨x_gg, rfl, e_gg, by show (g : Int) ≤ (g : Int); omega, by show (g : Int) ≤ (g : Int); omega⟩, trivial⟩ ⟨(fun _ hc => nomatch hc), (sfm q0 (fun _ hc => nomatch hc)), (fun _ hc => nomatch hc), Or.inl rfl⟩ ⟨⟨p_a, by show (-2147483648) ≤ a; omega, by show a ≤ 2147483647; omega⟩, ⟨p_b, by show (-2147483648) ≤ b; omega, by show b ≤ 2147483647; omega⟩, ⟨p_pd, by show (-2147483648) ≤ pd; omega, by show pd ≤ 2147483647; omega⟩, ⟨p_w, by show (-2147483648) ≤ w; omega, by show w ≤ 2147483647; omega⟩, ⟨p_m, by show (-2147483648) ≤ m; omega, by show m ≤ 2147483647; omega⟩, ⟨p_og, by show (-2147483648) ≤ og; omega, by show og ≤ 2147483647; omega⟩, ⟨p_on, by show (-2147483648) ≤ on; omega, by show on ≤ 2147483647; omega⟩, ⟨p_n, by show ((g : Int) + 1) ≤ n; omega, by show n ≤ 8; omega⟩, ⟨p_nk, by show (-2147483648) ≤ nk; omega, by show nk ≤ 2147483647; omega⟩, ⟨p_co, by show (-2147483648) ≤ co; omega, by show co ≤ 2147483647; omega⟩, trivial⟩ trivial (fun _ hc => nomatch hc) hi ?_ ?_
  · intro e he lo' st' h' hp hi' hm
    cases he
  · intro e he r' h' hp hi' hm
    rcases List.mem_cons.mp he with rfl | he
    · obtain ⟨p1, -, hz⟩ := hp
      obtain ⟨w0, f0, hz⟩ := hz
      obtain ⟨w1, f1, hz⟩ := hz
      obtain ⟨⟨z1, z2, z3, z4⟩, z5, z6⟩ := hz
      have g0 : w0 = sgfn 4 w (g : Int) := (show w0 = sgfn 4 ((1 * w + 0) + 0) (0 + (g : Int)) from f0).trans (sgfn_c (by omega) (by omega))
      have g1 : w1 = sgfn 2 w0 1 := (show w1 = sgfn 2 ((1 * w0 + 0) + 0) (0 + 1) from f1).trans (sgfn_c (by omega) (by omega))
      have c0 : (g : Int) = og := by have q_ : (0 : Int) ≤ ((-1) * og + 0) + (g : Int) := z4 ([(6, (-1))], (g : Int)) (List.mem_of_getElem? (i := 0) rfl); have q2_ : (0 : Int) ≤ (1 * og + 0) + (-1 * (g : Int)) := z4 ([(6, 1)], (-1 * (g : Int))) (List.mem_of_getElem? (i := 1) rfl); omega
      have k0 : pI h' (17 * t + 24) 6 = m := (show pI h' (17 * t + 24) 6 = (1 * m + 0) + 0 from z1 ((17 * t + 24), (none, 6), ([(5, 1)], 0)) (List.mem_of_getElem? (i := 0) rfl)).trans (by omega)
      have k1 : pI h' (17 * t + 24) 5 = pd := (show pI h' (17 * t + 24) 5 = (1 * pd + 0) + 0 from z1 ((17 * t + 24), (none, 5), ([(3, 1)], 0)) (List.mem_of_getElem? (i := 1) rfl)).trans (by omega)
      have k2 : pI h' (17 * t + 24) 4 = w1 := (show pI h' (17 * t + 24) 4 = (1 * w1 + 0) + 0 from z1 ((17 * t + 24), (none, 4), ([(12, 1)], 0)) (List.mem_of_getElem? (i := 2) rfl)).trans (by omega)
      have k3 : pI h' (17 * t + 24) 3 = co := (show pI h' (17 * t + 24) 3 = (1 * co + 0) + 0 from z1 ((17 * t + 24), (none, 3), ([(10, 1)], 0)) (List.mem_of_getElem? (i := 3) rfl)).trans (by omega)
      have k4 : pI h' (17 * t + 24) 2 = on := (show pI h' (17 * t + 24) 2 = (1 * on + 0) + 0 from z1 ((17 * t + 24), (none, 2), ([(7, 1)], 0)) (List.mem_of_getElem? (i := 4) rfl)).trans (by omega)
      have k5 : pI h' (17 * t + 24) 1 = b := (show pI h' (17 * t + 24) 1 = (1 * b + 0) + 0 from z1 ((17 * t + 24), (none, 1), ([(2, 1)], 0)) (List.mem_of_getElem? (i := 5) rfl)).trans (by omega)
      have k6 : pI h' (17 * t + 24) 0 = a := (show pI h' (17 * t + 24) 0 = (1 * a + 0) + 0 from z1 ((17 * t + 24), (none, 0), ([(1, 1)], 0)) (List.mem_of_getElem? (i := 6) rfl)).trans (by omega)
      have p1 : r' = none := p1
      subst p1
      exact hR0 h' w0 w1 hi' hm g0 g1 c0 k0 k1 k2 k3 k4 k5 k6
    rcases List.mem_cons.mp he with rfl | he
    · obtain ⟨p1, -, hz⟩ := hp
      obtain ⟨w0, f0, hz⟩ := hz
      obtain ⟨w1, f1, hz⟩ := hz
      obtain ⟨⟨z1, z2, z3, z4⟩, z5, z6⟩ := hz
      have g0 : w0 = sgfn 4 w (g : Int) := (show w0 = sgfn 4 ((1 * w + 0) + 0) (0 + (g : Int)) from f0).trans (sgfn_c (by omega) (by omega))
      have g1 : w1 = sgfn 2 w0 1 := (show w1 = sgfn 2 ((1 * w0 + 0) + 0) (0 + 1) from f1).trans (sgfn_c (by omega) (by omega))
      have n0 : (g : Int) ≠ og := fun e_ => z5 (([], (g : Int)), ([(6, 1)], 0)) (List.mem_of_getElem? (i := 0) rfl) (by show 0 + (g : Int) = (1 * og + 0) + 0; omega)
      have k0 : pI h' (17 * t + 24) 6 = m := (show pI h' (17 * t + 24) 6 = (1 * m + 0) + 0 from z1 ((17 * t + 24), (none, 6), ([(5, 1)], 0)) (List.mem_of_getElem? (i := 0) rfl)).trans (by omega)
      have k1 : pI h' (17 * t + 24) 5 = pd := (show pI h' (17 * t + 24) 5 = (1 * pd + 0) + 0 from z1 ((17 * t + 24), (none, 5), ([(3, 1)], 0)) (List.mem_of_getElem? (i := 1) rfl)).trans (by omega)
      have k2 : pI h' (17 * t + 24) 4 = w1 := (show pI h' (17 * t + 24) 4 = (1 * w1 + 0) + 0 from z1 ((17 * t + 24), (none, 4), ([(12, 1)], 0)) (List.mem_of_getElem? (i := 2) rfl)).trans (by omega)
      have k3 : pI h' (17 * t + 24) 3 = co := (show pI h' (17 * t + 24) 3 = (1 * co + 0) + 0 from z1 ((17 * t + 24), (none, 3), ([(10, 1)], 0)) (List.mem_of_getElem? (i := 3) rfl)).trans (by omega)
      have k4 : pI h' (17 * t + 24) 2 = nk := (show pI h' (17 * t + 24) 2 = (1 * nk + 0) + 0 from z1 ((17 * t + 24), (none, 2), ([(9, 1)], 0)) (List.mem_of_getElem? (i := 4) rfl)).trans (by omega)
      have k5 : pI h' (17 * t + 24) 1 = b := (show pI h' (17 * t + 24) 1 = (1 * b + 0) + 0 from z1 ((17 * t + 24), (none, 1), ([(2, 1)], 0)) (List.mem_of_getElem? (i := 5) rfl)).trans (by omega)
      have k6 : pI h' (17 * t + 24) 0 = a := (show pI h' (17 * t + 24) 0 = (1 * a + 0) + 0 from z1 ((17 * t + 24), (none, 0), ([(1, 1)], 0)) (List.mem_of_getElem? (i := 6) rfl)).trans (by omega)
      have p1 : r' = none := p1
      subst p1
      exact hR1 h' w0 w1 hi' hm g0 g1 n0 k0 k1 k2 k3 k4 k5 k6
    cases he
def kcF0_L (g : Nat) (t : Nat) (u : Nat) : List sT := [.inr (.inl 61), .inr (.inl (12 * u + 43)), .inl ((g : Int), (g : Int))]
def kcF0_A (g : Nat) (t : Nat) (u : Nat) : sAs := ([], [(61, 0, (17 * t + 9))], [], [])
def kcF0_P (g : Nat) (t : Nat) (u : Nat) : List sP0 := [((12 * u + 43), (none, 3), sf32), (61, (none, 4), sf32), (61, (none, 5), sf32), ((17 * t + 12), (none, 3), (((g : Int) + 1), 8)), ((17 * t + 13), (none, (((6 * g + 4) : Nat) : Int)), (0, 9)), ((17 * t + 22), (none, 0), ((-1), 64))]
def kcF0_G (g : Nat) (t : Nat) (u : Nat) : List sP0 := []
def kcF0_B (g : Nat) (t : Nat) (u : Nat) : List (Nat × Nat × Int) := []
def kcF0_m (g : Nat) (t : Nat) (u : Nat) : sM := []
def kcF0_e0 (g : Nat) (t : Nat) (u : Nat) : sXe := (66, [.inl sf32, .inr (.inl (12 * u + 43)), .inr (.inl 61)], [(0, .inr (.inl 61)), (1, .inr (.inl (12 * u + 43))), (2, .inl sf32), (4, .inl sf32)], sA0, [(0, 7, ([(3, 1)], 0), ([], 2)), (0, 4, ([(1, 1)], 0), ([], (g : Int))), (0, 2, ([(8, 1)], 0), ([], 1))], ([], [(0, ([], (g : Int)))], [(2, ([], (g : Int))), (4, ([(7, 1)], 0))], [([(2, (-1))], (g : Int)), ([(2, 1)], (-1 * (g : Int))), ([(9, 1)], (-1)), ([(9, (-1))], 1)]), [(([(6, 1)], 0), ([], (-1)))], [])
def kcF0_e1 (g : Nat) (t : Nat) (u : Nat) : sXe := (66, [.inl sf32, .inr (.inl (12 * u + 43)), .inr (.inl 61)], [(0, .inr (.inl 61)), (1, .inr (.inl (12 * u + 43))), (2, .inl sf32), (4, .inl sf32)], sA0, [(0, 4, ([(1, 1)], 0), ([], (g : Int))), (0, 2, ([(7, 1)], 0), ([], 1))], ([], [(0, ([], (g : Int)))], [(2, ([], (g : Int))), (4, ([(3, 1)], 0))], [([(2, (-1))], (g : Int)), ([(2, 1)], (-1 * (g : Int)))]), [(([(8, 1)], 0), ([], 1)), (([(6, 1)], 0), ([], (-1)))], [])
def kcF0_e2 (g : Nat) (t : Nat) (u : Nat) : sXe := (66, [.inl sf32, .inr (.inl (12 * u + 43)), .inr (.inl 61)], [(0, .inr (.inl 61)), (1, .inr (.inl (12 * u + 43))), (2, .inl sf32), (4, .inl sf32)], sA0, [(0, 7, ([(5, 1)], 0), ([], 2)), (0, 4, ([(1, 1)], 0), ([], (g : Int))), (0, 2, ([(8, 1)], 0), ([], 1))], ([], [(0, ([], (g : Int)))], [(2, ([], (g : Int))), (4, ([(7, 1)], 0))], [([(9, 1)], (-1)), ([(9, (-1))], 1)]), [(([], (g : Int)), ([(2, 1)], 0)), (([(6, 1)], 0), ([], (-1)))], [])
def kcF0_e3 (g : Nat) (t : Nat) (u : Nat) : sXe := (66, [.inl sf32, .inr (.inl (12 * u + 43)), .inr (.inl 61)], [(0, .inr (.inl 61)), (1, .inr (.inl (12 * u + 43))), (2, .inl sf32), (4, .inl sf32)], sA0, [(0, 4, ([(1, 1)], 0), ([], (g : Int))), (0, 2, ([(7, 1)], 0), ([], 1))], ([], [(0, ([], (g : Int)))], [(2, ([], (g : Int))), (4, ([(5, 1)], 0))], []), [(([], (g : Int)), ([(2, 1)], 0)), (([(8, 1)], 0), ([], 1)), (([(6, 1)], 0), ([], (-1)))], [])
def kcF0_r0 (g : Nat) (t : Nat) (u : Nat) : sXr := (some (.inl sf32), sA0, [(0, 7, ([(3, 1)], 0), ([], 2)), (0, 4, ([(1, 1)], 0), ([], (g : Int))), (0, 2, ([(8, 1)], 0), ([], 1))], ([], [(0, ([(7, 1)], 0))], [], [([(2, (-1))], (g : Int)), ([(2, 1)], (-1 * (g : Int))), ([(9, 1)], (-1)), ([(9, (-1))], 1), ([(6, 1)], 1), ([(6, (-1))], (-1))]), [], [])
def kcF0_r1 (g : Nat) (t : Nat) (u : Nat) : sXr := (some (.inl sf32), sA0, [(0, 4, ([(1, 1)], 0), ([], (g : Int))), (0, 2, ([(7, 1)], 0), ([], 1))], ([], [(0, ([(3, 1)], 0))], [], [([(2, (-1))], (g : Int)), ([(2, 1)], (-1 * (g : Int))), ([(6, 1)], 1), ([(6, (-1))], (-1))]), [(([(8, 1)], 0), ([], 1))], [])
def kcF0_r2 (g : Nat) (t : Nat) (u : Nat) : sXr := (some (.inl sf32), sA0, [(0, 7, ([(5, 1)], 0), ([], 2)), (0, 4, ([(1, 1)], 0), ([], (g : Int))), (0, 2, ([(8, 1)], 0), ([], 1))], ([], [(0, ([(7, 1)], 0))], [], [([(9, 1)], (-1)), ([(9, (-1))], 1), ([(6, 1)], 1), ([(6, (-1))], (-1))]), [(([], (g : Int)), ([(2, 1)], 0))], [])
def kcF0_r3 (g : Nat) (t : Nat) (u : Nat) : sXr := (some (.inl sf32), sA0, [(0, 4, ([(1, 1)], 0), ([], (g : Int))), (0, 2, ([(7, 1)], 0), ([], 1))], ([], [(0, ([(5, 1)], 0))], [], [([(6, 1)], 1), ([(6, (-1))], (-1))]), [(([], (g : Int)), ([(2, 1)], 0)), (([(8, 1)], 0), ([], 1))], [])
theorem kcF0_b : ((List.range 8).all fun g => ((List.range 2).all fun t => ((List.range 2).all fun u => syfB swC sT0 (kcF0_m g t u) 400 1 108 (kcF0_L g t u) (kcF0_A g t u) (kcF0_P g t u) (kcF0_G g t u) (kcF0_B g t u) [kcF0_e0 g t u, kcF0_e1 g t u, kcF0_e2 g t u, kcF0_e3 g t u] [kcF0_r0 g t u, kcF0_r1 g t u, kcF0_r2 g t u, kcF0_r3 g t u]))) = true := by decide +kernel
theorem kcF0 {l : Launch} {Γ : zG} {d : Nat} (hd : 1 ≤ d) {Kp : Option Value → zH → Prop} {h : zH} {g : Nat} (h_g : g < 8) {t : Nat} (h_t : t < 2) {u : Nat} (h_u : u < 2) {w og on n nk fm : Int} (hi : sInv swC h) (b_w : (-2147483648) ≤ w ∧ w ≤ 2147483647) (b_og : (-2147483648) ≤ og ∧ og ≤ 2147483647) (b_on : (-2147483648) ≤ on ∧ on ≤ 2147483647) (b_n : ((g : Int) + 1) ≤ n ∧ n ≤ 8) (b_nk : 0 ≤ nk ∧ nk ≤ 9) (b_fm : (-1) ≤ fm ∧ fm ≤ 64) {x_gg : Int32} (e_gg : x_gg.toInt = (g : Int)) (p_w : pI h (12 * u + 43) 3 = w) (p_og : pI h 61 4 = og) (p_on : pI h 61 5 = on) (p_n : pI h (17 * t + 12) 3 = n) (p_nk : pI h (17 * t + 13) (6 * g + 4) = nk) (p_fm : pI h (17 * t + 22) 0 = fm) (q0 : h.2.2.2 61 0 = some (17 * t + 9))
    (hE0 : ∀ (lo' : zL) (h' : zH) (w0 w1 w2 : Int) (y0 : Int32), sInv swC h' → sMd (kcF0_m g t u) h h' → w0 = sgfn 7 on 2 → w1 = sgfn 4 w (g : Int) → w2 = sgfn 2 w1 1 → (g : Int) = og → w2 = 1 → fm ≠ (-1) → zget lo' 0 = some (.ref 61) → zget lo' 1 = some (.ref (12 * u + 43)) → zI lo' 2 (g : Int) → zI lo' 4 w0 → y0.toInt = (g : Int) → zX l Γ false (d + 1) (zhd 108) (zMQ' Γ false (zhd 108) Kp) 0 0 66 lo' [.int y0, .ref (12 * u + 43), .ref 61] h')
    (hE1 : ∀ (lo' : zL) (h' : zH) (w0 w1 : Int) (y0 : Int32), sInv swC h' → sMd (kcF0_m g t u) h h' → w0 = sgfn 4 w (g : Int) → w1 = sgfn 2 w0 1 → (g : Int) = og → w1 ≠ 1 → fm ≠ (-1) → zget lo' 0 = some (.ref 61) → zget lo' 1 = some (.ref (12 * u + 43)) → zI lo' 2 (g : Int) → zI lo' 4 on → y0.toInt = (g : Int) → zX l Γ false (d + 1) (zhd 108) (zMQ' Γ false (zhd 108) Kp) 0 0 66 lo' [.int y0, .ref (12 * u + 43), .ref 61] h')
    (hE2 : ∀ (lo' : zL) (h' : zH) (w0 w1 w2 : Int) (y0 : Int32), sInv swC h' → sMd (kcF0_m g t u) h h' → w0 = sgfn 7 nk 2 → w1 = sgfn 4 w (g : Int) → w2 = sgfn 2 w1 1 → w2 = 1 → (g : Int) ≠ og → fm ≠ (-1) → zget lo' 0 = some (.ref 61) → zget lo' 1 = some (.ref (12 * u + 43)) → zI lo' 2 (g : Int) → zI lo' 4 w0 → y0.toInt = (g : Int) → zX l Γ false (d + 1) (zhd 108) (zMQ' Γ false (zhd 108) Kp) 0 0 66 lo' [.int y0, .ref (12 * u + 43), .ref 61] h')
    (hE3 : ∀ (lo' : zL) (h' : zH) (w0 w1 : Int) (y0 : Int32), sInv swC h' → sMd (kcF0_m g t u) h h' → w0 = sgfn 4 w (g : Int) → w1 = sgfn 2 w0 1 → (g : Int) ≠ og → w1 ≠ 1 → fm ≠ (-1) → zget lo' 0 = some (.ref 61) → zget lo' 1 = some (.ref (12 * u + 43)) → zI lo' 2 (g : Int) → zI lo' 4 nk → y0.toInt = (g : Int) → zX l Γ false (d + 1) (zhd 108) (zMQ' Γ false (zhd 108) Kp) 0 0 66 lo' [.int y0, .ref (12 * u + 43), .ref 61] h')
    (hR0 : ∀ (h' : zH) (w0 w1 w2 : Int) (r_ : Int32), sInv swC h' → sMd (kcF0_m g t u) h h' → w0 = sgfn 7 on 2 → w1 = sgfn 4 w (g : Int) → w2 = sgfn 2 w1 1 → (g : Int) = og → w2 = 1 → fm = (-1) → r_.toInt = w0 → Kp (some (.int r_)) h')
    (hR1 : ∀ (h' : zH) (w0 w1 : Int) (r_ : Int32), sInv swC h' → sMd (kcF0_m g t u) h h' → w0 = sgfn 4 w (g : Int) → w1 = sgfn 2 w0 1 → (g : Int) = og → fm = (-1) → w1 ≠ 1 → r_.toInt = on → Kp (some (.int r_)) h')
    (hR2 : ∀ (h' : zH) (w0 w1 w2 : Int) (r_ : Int32), sInv swC h' → sMd (kcF0_m g t u) h h' → w0 = sgfn 7 nk 2 → w1 = sgfn 4 w (g : Int) → w2 = sgfn 2 w1 1 → w2 = 1 → fm = (-1) → (g : Int) ≠ og → r_.toInt = w0 → Kp (some (.int r_)) h')
    (hR3 : ∀ (h' : zH) (w0 w1 : Int) (r_ : Int32), sInv swC h' → sMd (kcF0_m g t u) h h' → w0 = sgfn 4 w (g : Int) → w1 = sgfn 2 w0 1 → fm = (-1) → (g : Int) ≠ og → w1 ≠ 1 → r_.toInt = nk → Kp (some (.int r_)) h') : zSem l Γ false (d + 1) (zhd 108) [.ref 61, .ref (12 * u + 43), .int x_gg] h Kp := by
  refine syf_ok (mi := 108) (fun i => [(g : Int), w, og, on, n, nk, fm].getD i 0) (zall_r (zall_r (zall_r kcF0_b h_g) h_t) h_u) (fun _ _ hc _ => nomatch hc) hd ⟨_, _, rfl, rfl, ⟨_, _, rfl, rfl, ⟨_, _, rfl, ⟨x_gg, rfl, by show (g : Int) ≤ x_gg.toInt; omega, by show x_gg.toInt ≤ (g : Int); omega⟩, rfl⟩⟩⟩ ⟨rfl, rfl, ⟨x_gg, rfl, e_gg, by show (g : Int) ≤ (g : Int); omega, by show (g : Int) ≤ (g : Int); omega⟩, trivial⟩ ⟨(fun _ hc => nomatch hc), (sfm q0 (fun _ hc => nomatch hc)), (fun _ hc => nomatch hc), Or.inl rfl⟩ ⟨⟨p_w, by show (-2147483648) ≤ w; omega, by show w ≤ 2147483647; omega⟩, ⟨p_og, by show (-2147483648) ≤ og; omega, by show og ≤ 2147483647; omega⟩, ⟨p_on, by show (-2147483648) ≤ on; omega, by show on ≤ 2147483647; omega⟩, ⟨p_n, by show ((g : Int) + 1) ≤ n; omega, by show n ≤ 8; omega⟩, ⟨p_nk, by show 0 ≤ nk; omega, by show nk ≤ 9; omega⟩, ⟨p_fm, by show (-1) ≤ fm; omega, by show fm ≤ 64; omega⟩, trivial⟩ trivial (fun _ hc => nomatch hc) hi ?_ ?_
  · intro e he lo' st' h' hp hi' hm
    rcases List.mem_cons.mp he with rfl | he
    · obtain ⟨p1, p2, -, hz⟩ := hp
      obtain ⟨w0, f0, hz⟩ := hz
      obtain ⟨w1, f1, hz⟩ := hz
      obtain ⟨w2, f2, hz⟩ := hz
      obtain ⟨⟨z1, z2, z3, z4⟩, z5, z6⟩ := hz
      have g0 : w0 = sgfn 7 on 2 := (show w0 = sgfn 7 ((1 * on + 0) + 0) (0 + 2) from f0).trans (sgfn_c (by omega) (by omega))
      have g1 : w1 = sgfn 4 w (g : Int) := (show w1 = sgfn 4 ((1 * w + 0) + 0) (0 + (g : Int)) from f1).trans (sgfn_c (by omega) (by omega))
      have g2 : w2 = sgfn 2 w1 1 := (show w2 = sgfn 2 ((1 * w1 + 0) + 0) (0 + 1) from f2).trans (sgfn_c (by omega) (by omega))
      have c0 : (g : Int) = og := by have q_ : (0 : Int) ≤ ((-1) * og + 0) + (g : Int) := z4 ([(2, (-1))], (g : Int)) (List.mem_of_getElem? (i := 0) rfl); have q2_ : (0 : Int) ≤ (1 * og + 0) + (-1 * (g : Int)) := z4 ([(2, 1)], (-1 * (g : Int))) (List.mem_of_getElem? (i := 1) rfl); omega
      have c2 : w2 = 1 := by have q_ : (0 : Int) ≤ (1 * w2 + 0) + (-1) := z4 ([(9, 1)], (-1)) (List.mem_of_getElem? (i := 2) rfl); have q2_ : (0 : Int) ≤ ((-1) * w2 + 0) + 1 := z4 ([(9, (-1))], 1) (List.mem_of_getElem? (i := 3) rfl); omega
      have n0 : fm ≠ (-1) := fun e_ => z5 (([(6, 1)], 0), ([], (-1))) (List.mem_of_getElem? (i := 0) rfl) (by show (1 * fm + 0) + 0 = 0 + (-1); omega)
      have o0 : zget lo' 0 = some (.ref 61) := locR (p2 (0, .inr (.inl 61)) (List.mem_of_getElem? (i := 0) rfl))
      have o1 : zget lo' 1 = some (.ref (12 * u + 43)) := locR (p2 (1, .inr (.inl (12 * u + 43))) (List.mem_of_getElem? (i := 1) rfl))
      have o2 : zI lo' 2 (g : Int) := zI_of (p2 (2, .inl sf32) (List.mem_of_getElem? (i := 2) rfl)) (z3 (2, ([], (g : Int))) (List.mem_of_getElem? (i := 0) rfl)) (show 0 + (g : Int) = (g : Int) from by omega)
      have o4 : zI lo' 4 w0 := zI_of (p2 (4, .inl sf32) (List.mem_of_getElem? (i := 3) rfl)) (z3 (4, ([(7, 1)], 0)) (List.mem_of_getElem? (i := 1) rfl)) (show (1 * w0 + 0) + 0 = w0 from by omega)
      obtain ⟨_, _, rfl, ⟨y0, rfl, -⟩, p1⟩ := p1
      obtain ⟨_, _, rfl, hr, p1⟩ := p1
      have hr : _ = Value.ref (12 * u + 43) := hr
      subst hr
      obtain ⟨_, _, rfl, hr, p1⟩ := p1
      have hr : _ = Value.ref 61 := hr
      subst hr
      have p1 : _ = [] := p1
      subst p1
      obtain ⟨v_, ev, hv⟩ := z2 (0, ([], (g : Int))) (List.mem_of_getElem? (i := 0) rfl)
      cases ev
      have s0 : y0.toInt = (g : Int) := (show y0.toInt = 0 + (g : Int) from hv).trans (by omega)
      exact hE0 lo' h' w0 w1 w2 y0 hi' hm g0 g1 g2 c0 c2 n0 o0 o1 o2 o4 s0
    rcases List.mem_cons.mp he with rfl | he
    · obtain ⟨p1, p2, -, hz⟩ := hp
      obtain ⟨w0, f0, hz⟩ := hz
      obtain ⟨w1, f1, hz⟩ := hz
      obtain ⟨⟨z1, z2, z3, z4⟩, z5, z6⟩ := hz
      have g0 : w0 = sgfn 4 w (g : Int) := (show w0 = sgfn 4 ((1 * w + 0) + 0) (0 + (g : Int)) from f0).trans (sgfn_c (by omega) (by omega))
      have g1 : w1 = sgfn 2 w0 1 := (show w1 = sgfn 2 ((1 * w0 + 0) + 0) (0 + 1) from f1).trans (sgfn_c (by omega) (by omega))
      have c0 : (g : Int) = og := by have q_ : (0 : Int) ≤ ((-1) * og + 0) + (g : Int) := z4 ([(2, (-1))], (g : Int)) (List.mem_of_getElem? (i := 0) rfl); have q2_ : (0 : Int) ≤ (1 * og + 0) + (-1 * (g : Int)) := z4 ([(2, 1)], (-1 * (g : Int))) (List.mem_of_getElem? (i := 1) rfl); omega
      have n0 : w1 ≠ 1 := fun e_ => z5 (([(8, 1)], 0), ([], 1)) (List.mem_of_getElem? (i := 0) rfl) (by show (1 * w1 + 0) + 0 = 0 + 1; omega)
      have n1 : fm ≠ (-1) := fun e_ => z5 (([(6, 1)], 0), ([], (-1))) (List.mem_of_getElem? (i := 1) rfl) (by show (1 * fm + 0) + 0 = 0 + (-1); omega)
      have o0 : zget lo' 0 = some (.ref 61) := locR (p2 (0, .inr (.inl 61)) (List.mem_of_getElem? (i := 0) rfl))
      have o1 : zget lo' 1 = some (.ref (12 * u + 43)) := locR (p2 (1, .inr (.inl (12 * u + 43))) (List.mem_of_getElem? (i := 1) rfl))
      have o2 : zI lo' 2 (g : Int) := zI_of (p2 (2, .inl sf32) (List.mem_of_getElem? (i := 2) rfl)) (z3 (2, ([], (g : Int))) (List.mem_of_getElem? (i := 0) rfl)) (show 0 + (g : Int) = (g : Int) from by omega)
      have o4 : zI lo' 4 on := zI_of (p2 (4, .inl sf32) (List.mem_of_getElem? (i := 3) rfl)) (z3 (4, ([(3, 1)], 0)) (List.mem_of_getElem? (i := 1) rfl)) (show (1 * on + 0) + 0 = on from by omega)
      obtain ⟨_, _, rfl, ⟨y0, rfl, -⟩, p1⟩ := p1
      obtain ⟨_, _, rfl, hr, p1⟩ := p1
      have hr : _ = Value.ref (12 * u + 43) := hr
      subst hr
      obtain ⟨_, _, rfl, hr, p1⟩ := p1
      have hr : _ = Value.ref 61 := hr
      subst hr
      have p1 : _ = [] := p1
      subst p1
      obtain ⟨v_, ev, hv⟩ := z2 (0, ([], (g : Int))) (List.mem_of_getElem? (i := 0) rfl)
      cases ev
      have s0 : y0.toInt = (g : Int) := (show y0.toInt = 0 + (g : Int) from hv).trans (by omega)
      exact hE1 lo' h' w0 w1 y0 hi' hm g0 g1 c0 n0 n1 o0 o1 o2 o4 s0
    rcases List.mem_cons.mp he with rfl | he
    · obtain ⟨p1, p2, -, hz⟩ := hp
      obtain ⟨w0, f0, hz⟩ := hz
      obtain ⟨w1, f1, hz⟩ := hz
      obtain ⟨w2, f2, hz⟩ := hz
      obtain ⟨⟨z1, z2, z3, z4⟩, z5, z6⟩ := hz
      have g0 : w0 = sgfn 7 nk 2 := (show w0 = sgfn 7 ((1 * nk + 0) + 0) (0 + 2) from f0).trans (sgfn_c (by omega) (by omega))
      have g1 : w1 = sgfn 4 w (g : Int) := (show w1 = sgfn 4 ((1 * w + 0) + 0) (0 + (g : Int)) from f1).trans (sgfn_c (by omega) (by omega))
      have g2 : w2 = sgfn 2 w1 1 := (show w2 = sgfn 2 ((1 * w1 + 0) + 0) (0 + 1) from f2).trans (sgfn_c (by omega) (by omega))
      have c0 : w2 = 1 := by have q_ : (0 : Int) ≤ (1 * w2 + 0) + (-1) := z4 ([(9, 1)], (-1)) (List.mem_of_getElem? (i := 0) rfl); have q2_ : (0 : Int) ≤ ((-1) * w2 + 0) + 1 := z4 ([(9, (-1))], 1) (List.mem_of_getElem? (i := 1) rfl); omega
      have n0 : (g : Int) ≠ og := fun e_ => z5 (([], (g : Int)), ([(2, 1)], 0)) (List.mem_of_getElem? (i := 0) rfl) (by show 0 + (g : Int) = (1 * og + 0) + 0; omega)
      have n1 : fm ≠ (-1) := fun e_ => z5 (([(6, 1)], 0), ([], (-1))) (List.mem_of_getElem? (i := 1) rfl) (by show (1 * fm + 0) + 0 = 0 + (-1); omega)
      have o0 : zget lo' 0 = some (.ref 61) := locR (p2 (0, .inr (.inl 61)) (List.mem_of_getElem? (i := 0) rfl))
      have o1 : zget lo' 1 = some (.ref (12 * u + 43)) := locR (p2 (1, .inr (.inl (12 * u + 43))) (List.mem_of_getElem? (i := 1) rfl))
      have o2 : zI lo' 2 (g : Int) := zI_of (p2 (2, .inl sf32) (List.mem_of_getElem? (i := 2) rfl)) (z3 (2, ([], (g : Int))) (List.mem_of_getElem? (i := 0) rfl)) (show 0 + (g : Int) = (g : Int) from by omega)
      have o4 : zI lo' 4 w0 := zI_of (p2 (4, .inl sf32) (List.mem_of_getElem? (i := 3) rfl)) (z3 (4, ([(7, 1)], 0)) (List.mem_of_getElem? (i := 1) rfl)) (show (1 * w0 + 0) + 0 = w0 from by omega)
      obtain ⟨_, _, rfl, ⟨y0, rfl, -⟩, p1⟩ := p1
      obtain ⟨_, _, rfl, hr, p1⟩ := p1
      have hr : _ = Value.ref (12 * u + 43) := hr
      subst hr
      obtain ⟨_, _, rfl, hr, p1⟩ := p1
      have hr : _ = Value.ref 61 := hr
      subst hr
      have p1 : _ = [] := p1
      subst p1
      obtain ⟨v_, ev, hv⟩ := z2 (0, ([], (g : Int))) (List.mem_of_getElem? (i := 0) rfl)
      cases ev
      have s0 : y0.toInt = (g : Int) := (show y0.toInt = 0 + (g : Int) from hv).trans (by omega)
      exact hE2 lo' h' w0 w1 w2 y0 hi' hm g0 g1 g2 c0 n0 n1 o0 o1 o2 o4 s0
    rcases List.mem_cons.mp he with rfl | he
    · obtain ⟨p1, p2, -, hz⟩ := hp
      obtain ⟨w0, f0, hz⟩ := hz
      obtain ⟨w1, f1, hz⟩ := hz
      obtain ⟨⟨z1, z2, z3, z4⟩, z5, z6⟩ := hz
      have g0 : w0 = sgfn 4 w (g : Int) := (show w0 = sgfn 4 ((1 * w + 0) + 0) (0 + (g : Int)) from f0).trans (sgfn_c (by omega) (by omega))
      have g1 : w1 = sgfn 2 w0 1 := (show w1 = sgfn 2 ((1 * w0 + 0) + 0) (0 + 1) from f1).trans (sgfn_c (by omega) (by omega))
      have n0 : (g : Int) ≠ og := fun e_ => z5 (([], (g : Int)), ([(2, 1)], 0)) (List.mem_of_getElem? (i := 0) rfl) (by show 0 + (g : Int) = (1 * og + 0) + 0; omega)
      have n1 : w1 ≠ 1 := fun e_ => z5 (([(8, 1)], 0), ([], 1)) (List.mem_of_getElem? (i := 1) rfl) (by show (1 * w1 + 0) + 0 = 0 + 1; omega)
      have n2 : fm ≠ (-1) := fun e_ => z5 (([(6, 1)], 0), ([], (-1))) (List.mem_of_getElem? (i := 2) rfl) (by show (1 * fm + 0) + 0 = 0 + (-1); omega)
      have o0 : zget lo' 0 = some (.ref 61) := locR (p2 (0, .inr (.inl 61)) (List.mem_of_getElem? (i := 0) rfl))
      have o1 : zget lo' 1 = some (.ref (12 * u + 43)) := locR (p2 (1, .inr (.inl (12 * u + 43))) (List.mem_of_getElem? (i := 1) rfl))
      have o2 : zI lo' 2 (g : Int) := zI_of (p2 (2, .inl sf32) (List.mem_of_getElem? (i := 2) rfl)) (z3 (2, ([], (g : Int))) (List.mem_of_getElem? (i := 0) rfl)) (show 0 + (g : Int) = (g : Int) from by omega)
      have o4 : zI lo' 4 nk := zI_of (p2 (4, .inl sf32) (List.mem_of_getElem? (i := 3) rfl)) (z3 (4, ([(5, 1)], 0)) (List.mem_of_getElem? (i := 1) rfl)) (show (1 * nk + 0) + 0 = nk from by omega)
      obtain ⟨_, _, rfl, ⟨y0, rfl, -⟩, p1⟩ := p1
      obtain ⟨_, _, rfl, hr, p1⟩ := p1
      have hr : _ = Value.ref (12 * u + 43) := hr
      subst hr
      obtain ⟨_, _, rfl, hr, p1⟩ := p1
      have hr : _ = Value.ref 61 := hr
      subst hr
      have p1 : _ = [] := p1
      subst p1
      obtain ⟨v_, ev, hv⟩ := z2 (0, ([], (g : Int))) (List.mem_of_getElem? (i := 0) rfl)
      cases ev
      have s0 : y0.toInt = (g : Int) := (show y0.toInt = 0 + (g : Int) from hv).trans (by omega)
      exact hE3 lo' h' w0 w1 y0 hi' hm g0 g1 n0 n1 n2 o0 o1 o2 o4 s0
    cases he
  · intro e he r' h' hp hi' hm
    rcases List.mem_cons.mp he with rfl | he
    · obtain ⟨p1, -, hz⟩ := hp
      obtain ⟨w0, f0, hz⟩ := hz
      obtain ⟨w1, f1, hz⟩ := hz
      obtain ⟨w2, f2, hz⟩ := hz
      obtain ⟨⟨z1, z2, z3, z4⟩, z5, z6⟩ := hz
      have g0 : w0 = sgfn 7 on 2 := (show w0 = sgfn 7 ((1 * on + 0) + 0) (0 + 2) from f0).trans (sgfn_c (by omega) (by omega))
      have g1 : w1 = sgfn 4 w (g : Int) := (show w1 = sgfn 4 ((1 * w + 0) + 0) (0 + (g : Int)) from f1).trans (sgfn_c (by omega) (by omega))
      have g2 : w2 = sgfn 2 w1 1 := (show w2 = sgfn 2 ((1 * w1 + 0) + 0) (0 + 1) from f2).trans (sgfn_c (by omega) (by omega))
      have c0 : (g : Int) = og := by have q_ : (0 : Int) ≤ ((-1) * og + 0) + (g : Int) := z4 ([(2, (-1))], (g : Int)) (List.mem_of_getElem? (i := 0) rfl); have q2_ : (0 : Int) ≤ (1 * og + 0) + (-1 * (g : Int)) := z4 ([(2, 1)], (-1 * (g : Int))) (List.mem_of_getElem? (i := 1) rfl); omega
      have c2 : w2 = 1 := by have q_ : (0 : Int) ≤ (1 * w2 + 0) + (-1) := z4 ([(9, 1)], (-1)) (List.mem_of_getElem? (i := 2) rfl); have q2_ : (0 : Int) ≤ ((-1) * w2 + 0) + 1 := z4 ([(9, (-1))], 1) (List.mem_of_getElem? (i := 3) rfl); omega
      have c4 : fm = (-1) := by have q_ : (0 : Int) ≤ (1 * fm + 0) + 1 := z4 ([(6, 1)], 1) (List.mem_of_getElem? (i := 4) rfl); have q2_ : (0 : Int) ≤ ((-1) * fm + 0) + (-1) := z4 ([(6, (-1))], (-1)) (List.mem_of_getElem? (i := 5) rfl); omega
      obtain ⟨r_, rfl, hv⟩ := ansI p1 (z2 (0, ([(7, 1)], 0)) (List.mem_of_getElem? (i := 0) rfl))
      have s0 : r_.toInt = w0 := (show r_.toInt = (1 * w0 + 0) + 0 from hv).trans (by omega)
      exact hR0 h' w0 w1 w2 r_ hi' hm g0 g1 g2 c0 c2 c4 s0
    rcases List.mem_cons.mp he with rfl | he
    · obtain ⟨p1, -, hz⟩ := hp
      obtain ⟨w0, f0, hz⟩ := hz
      obtain ⟨w1, f1, hz⟩ := hz
      obtain ⟨⟨z1, z2, z3, z4⟩, z5, z6⟩ := hz
      have g0 : w0 = sgfn 4 w (g : Int) := (show w0 = sgfn 4 ((1 * w + 0) + 0) (0 + (g : Int)) from f0).trans (sgfn_c (by omega) (by omega))
      have g1 : w1 = sgfn 2 w0 1 := (show w1 = sgfn 2 ((1 * w0 + 0) + 0) (0 + 1) from f1).trans (sgfn_c (by omega) (by omega))
      have c0 : (g : Int) = og := by have q_ : (0 : Int) ≤ ((-1) * og + 0) + (g : Int) := z4 ([(2, (-1))], (g : Int)) (List.mem_of_getElem? (i := 0) rfl); have q2_ : (0 : Int) ≤ (1 * og + 0) + (-1 * (g : Int)) := z4 ([(2, 1)], (-1 * (g : Int))) (List.mem_of_getElem? (i := 1) rfl); omega
      have c2 : fm = (-1) := by have q_ : (0 : Int) ≤ (1 * fm + 0) + 1 := z4 ([(6, 1)], 1) (List.mem_of_getElem? (i := 2) rfl); have q2_ : (0 : Int) ≤ ((-1) * fm + 0) + (-1) := z4 ([(6, (-1))], (-1)) (List.mem_of_getElem? (i := 3) rfl); omega
      have n0 : w1 ≠ 1 := fun e_ => z5 (([(8, 1)], 0), ([], 1)) (List.mem_of_getElem? (i := 0) rfl) (by show (1 * w1 + 0) + 0 = 0 + 1; omega)
      obtain ⟨r_, rfl, hv⟩ := ansI p1 (z2 (0, ([(3, 1)], 0)) (List.mem_of_getElem? (i := 0) rfl))
      have s0 : r_.toInt = on := (show r_.toInt = (1 * on + 0) + 0 from hv).trans (by omega)
      exact hR1 h' w0 w1 r_ hi' hm g0 g1 c0 c2 n0 s0
    rcases List.mem_cons.mp he with rfl | he
    · obtain ⟨p1, -, hz⟩ := hp
      obtain ⟨w0, f0, hz⟩ := hz
      obtain ⟨w1, f1, hz⟩ := hz
      obtain ⟨w2, f2, hz⟩ := hz
      obtain ⟨⟨z1, z2, z3, z4⟩, z5, z6⟩ := hz
      have g0 : w0 = sgfn 7 nk 2 := (show w0 = sgfn 7 ((1 * nk + 0) + 0) (0 + 2) from f0).trans (sgfn_c (by omega) (by omega))
      have g1 : w1 = sgfn 4 w (g : Int) := (show w1 = sgfn 4 ((1 * w + 0) + 0) (0 + (g : Int)) from f1).trans (sgfn_c (by omega) (by omega))
      have g2 : w2 = sgfn 2 w1 1 := (show w2 = sgfn 2 ((1 * w1 + 0) + 0) (0 + 1) from f2).trans (sgfn_c (by omega) (by omega))
      have c0 : w2 = 1 := by have q_ : (0 : Int) ≤ (1 * w2 + 0) + (-1) := z4 ([(9, 1)], (-1)) (List.mem_of_getElem? (i := 0) rfl); have q2_ : (0 : Int) ≤ ((-1) * w2 + 0) + 1 := z4 ([(9, (-1))], 1) (List.mem_of_getElem? (i := 1) rfl); omega
      have c2 : fm = (-1) := by have q_ : (0 : Int) ≤ (1 * fm + 0) + 1 := z4 ([(6, 1)], 1) (List.mem_of_getElem? (i := 2) rfl); have q2_ : (0 : Int) ≤ ((-1) * fm + 0) + (-1) := z4 ([(6, (-1))], (-1)) (List.mem_of_getElem? (i := 3) rfl); omega
      have n0 : (g : Int) ≠ og := fun e_ => z5 (([], (g : Int)), ([(2, 1)], 0)) (List.mem_of_getElem? (i := 0) rfl) (by show 0 + (g : Int) = (1 * og + 0) + 0; omega)
      obtain ⟨r_, rfl, hv⟩ := ansI p1 (z2 (0, ([(7, 1)], 0)) (List.mem_of_getElem? (i := 0) rfl))
      have s0 : r_.toInt = w0 := (show r_.toInt = (1 * w0 + 0) + 0 from hv).trans (by omega)
      exact hR2 h' w0 w1 w2 r_ hi' hm g0 g1 g2 c0 c2 n0 s0
    rcases List.mem_cons.mp he with rfl | he
    · obtain ⟨p1, -, hz⟩ := hp
      obtain ⟨w0, f0, hz⟩ := hz
      obtain ⟨w1, f1, hz⟩ := hz
      obtain ⟨⟨z1, z2, z3, z4⟩, z5, z6⟩ := hz
      have g0 : w0 = sgfn 4 w (g : Int) := (show w0 = sgfn 4 ((1 * w + 0) + 0) (0 + (g : Int)) from f0).trans (sgfn_c (by omega) (by omega))
      have g1 : w1 = sgfn 2 w0 1 := (show w1 = sgfn 2 ((1 * w0 + 0) + 0) (0 + 1) from f1).trans (sgfn_c (by omega) (by omega))
      have c0 : fm = (-1) := by have q_ : (0 : Int) ≤ (1 * fm + 0) + 1 := z4 ([(6, 1)], 1) (List.mem_of_getElem? (i := 0) rfl); have q2_ : (0 : Int) ≤ ((-1) * fm + 0) + (-1) := z4 ([(6, (-1))], (-1)) (List.mem_of_getElem? (i := 1) rfl); omega
      have n0 : (g : Int) ≠ og := fun e_ => z5 (([], (g : Int)), ([(2, 1)], 0)) (List.mem_of_getElem? (i := 0) rfl) (by show 0 + (g : Int) = (1 * og + 0) + 0; omega)
      have n1 : w1 ≠ 1 := fun e_ => z5 (([(8, 1)], 0), ([], 1)) (List.mem_of_getElem? (i := 1) rfl) (by show (1 * w1 + 0) + 0 = 0 + 1; omega)
      obtain ⟨r_, rfl, hv⟩ := ansI p1 (z2 (0, ([(5, 1)], 0)) (List.mem_of_getElem? (i := 0) rfl))
      have s0 : r_.toInt = nk := (show r_.toInt = (1 * nk + 0) + 0 from hv).trans (by omega)
      exact hR3 h' w0 w1 r_ hi' hm g0 g1 c0 n0 n1 s0
    cases he
def kcF1_L (t : Nat) (u : Nat) : List (Nat × sT) := [(0, .inr (.inl 61)), (1, .inr (.inl (12 * u + 43))), (4, .inl (0, 9))]
def kcF1_S (t : Nat) (u : Nat) : List sT := []
def kcF1_A (t : Nat) (u : Nat) : sAs := ([], [(61, 0, (17 * t + 9))], [], [])
def kcF1_P (t : Nat) (u : Nat) : List sP0 := []
def kcF1_G (t : Nat) (u : Nat) : List sP0 := []
def kcF1_B (t : Nat) (u : Nat) : List (Nat × Nat × Int) := []
def kcF1_m (t : Nat) (u : Nat) : sM := []
def kcF1_e0 (t : Nat) (u : Nat) : sXe := (77, [.inl sf32, .inr (.inl (17 * t + 20))], [(0, .inr (.inl 61)), (1, .inr (.inl (12 * u + 43))), (4, .inl sf32)], sA0, [], ([], [(0, ([], 0))], [(4, ([(0, 1)], 0))], []), [], [])
theorem kcF1_b : ((List.range 2).all fun t => ((List.range 2).all fun u => syeB swC sT0 (kcF1_m t u) 400 0 108 (kcF1_L t u) (kcF1_S t u) (kcF1_A t u) (kcF1_P t u) (kcF1_G t u) (kcF1_B t u) 69 [kcF1_e0 t u] [])) = true := by decide +kernel
theorem kcF1 {l : Launch} {Γ : zG} {d : Nat} (hd : 0 ≤ d) {Kp : Option Value → zH → Prop} {lo : zL} {h : zH} {t : Nat} (h_t : t < 2) {u : Nat} (h_u : u < 2) {pn : Int} (hi : sInv swC h) (b_pn : 0 ≤ pn ∧ pn ≤ 9) (l0 : zget lo 0 = some (.ref 61)) (l1 : zget lo 1 = some (.ref (12 * u + 43))) (l4 : zI lo 4 pn) (q0 : h.2.2.2 61 0 = some (17 * t + 9))
    (hE0 : ∀ (lo' : zL) (h' : zH) (y0 : Int32), sInv swC h' → sMd (kcF1_m t u) h h' → zget lo' 0 = some (.ref 61) → zget lo' 1 = some (.ref (12 * u + 43)) → zI lo' 4 pn → y0.toInt = 0 → zX l Γ false (d + 1) (zhd 108) (zMQ' Γ false (zhd 108) Kp) 0 0 77 lo' [.int y0, .ref (17 * t + 20)] h') : zX l Γ false (d + 1) (zhd 108) (zMQ' Γ false (zhd 108) Kp) 0 0 69 lo [] h := by
  refine sye_ok (mi := 108) (pc := 69) (fun i => [pn].getD i 0) (zall_r (zall_r kcF1_b h_t) h_u) (fun _ _ hc _ => nomatch hc) hd ⟨l0, l1, zIm l4 (by show 0 ≤ pn; omega) (by show pn ≤ 9; omega), trivial⟩ rfl ⟨(fun _ hc => nomatch hc), (sfm q0 (fun _ hc => nomatch hc)), (fun _ hc => nomatch hc), Or.inl rfl⟩ trivial trivial (fun _ hc => nomatch hc) hi ?_ ?_
  · intro e he lo' st' h' hp hi' hm
    rcases List.mem_cons.mp he with rfl | he
    · obtain ⟨p1, p2, -, hz⟩ := hp
      obtain ⟨⟨z1, z2, z3, z4⟩, z5, z6⟩ := hz
      have o0 : zget lo' 0 = some (.ref 61) := locR (p2 (0, .inr (.inl 61)) (List.mem_of_getElem? (i := 0) rfl))
      have o1 : zget lo' 1 = some (.ref (12 * u + 43)) := locR (p2 (1, .inr (.inl (12 * u + 43))) (List.mem_of_getElem? (i := 1) rfl))
      have o4 : zI lo' 4 pn := zI_of (p2 (4, .inl sf32) (List.mem_of_getElem? (i := 2) rfl)) (z3 (4, ([(0, 1)], 0)) (List.mem_of_getElem? (i := 0) rfl)) (show (1 * pn + 0) + 0 = pn from by omega)
      obtain ⟨_, _, rfl, ⟨y0, rfl, -⟩, p1⟩ := p1
      obtain ⟨_, _, rfl, hr, p1⟩ := p1
      have hr : _ = Value.ref (17 * t + 20) := hr
      subst hr
      have p1 : _ = [] := p1
      subst p1
      obtain ⟨v_, ev, hv⟩ := z2 (0, ([], 0)) (List.mem_of_getElem? (i := 0) rfl)
      cases ev
      have s0 : y0.toInt = 0 := (show y0.toInt = 0 + 0 from hv).trans (by omega)
      exact hE0 lo' h' y0 hi' hm o0 o1 o4 s0
    cases he
  · intro e he r' h' hp hi' hm
    cases he
def kcF2_L (u : Nat) : List (Nat × sT) := [(0, .inr (.inl 61)), (1, .inr (.inl (12 * u + 43))), (4, .inl (0, 9))]
def kcF2_S (u : Nat) : List sT := [.inr (.inr sf64)]
def kcF2_A (u : Nat) : sAs := ([], [], [], [])
def kcF2_P (u : Nat) : List sP0 := []
def kcF2_G (u : Nat) : List sP0 := []
def kcF2_B (u : Nat) : List (Nat × Nat × Int) := []
def kcF2_m (u : Nat) : sM := []
def kcF2_r0 (u : Nat) : sXr := (some (.inl sf32), sA0, [], ([], [(0, ([(0, 1)], 0))], [], [([(1, 1)], 9223372036854775808), ([(1, (-1))], (-9223372036854775808))]), [], [])
def kcF2_r1 (u : Nat) : sXr := (some (.inl sf32), sA0, [], ([], [(0, ([(1, 1)], 0))], [], [([(1, 1)], 9223372036854775807), ([(1, 1)], 0), ([(1, (-1))], 99)]), [], [])
def kcF2_r2 (u : Nat) : sXr := (some (.inl sf32), sA0, [], ([], [(0, ([], 99))], [], [([(1, 1)], 9223372036854775807), ([(1, 1)], 0), ([(1, 1)], (-100))]), [], [])
def kcF2_r3 (u : Nat) : sXr := (some (.inl sf32), sA0, [], ([], [(0, ([], 0))], [], [([(1, 1)], 9223372036854775807), ([(1, (-1))], (-1))]), [], [])
theorem kcF2_b : ((List.range 2).all fun u => syeB swC sT0 (kcF2_m u) 400 1 108 (kcF2_L u) (kcF2_S u) (kcF2_A u) (kcF2_P u) (kcF2_G u) (kcF2_B u) 80 [] [kcF2_r0 u, kcF2_r1 u, kcF2_r2 u, kcF2_r3 u]) = true := by decide +kernel
theorem kcF2 {l : Launch} {Γ : zG} {d : Nat} (hd : 1 ≤ d) {Kp : Option Value → zH → Prop} {lo : zL} {h : zH} {u : Nat} (h_u : u < 2) {pn y : Int} (hi : sInv swC h) (b_pn : 0 ≤ pn ∧ pn ≤ 9) (b_y : (-9223372036854775808) ≤ y ∧ y ≤ 9223372036854775807) (l0 : zget lo 0 = some (.ref 61)) (l1 : zget lo 1 = some (.ref (12 * u + 43))) (l4 : zI lo 4 pn) {x_y : Int64} (e_y : x_y.toInt = y)
    (hR0 : ∀ (h' : zH) (r_ : Int32), sInv swC h' → sMd (kcF2_m u) h h' → y = (-9223372036854775808) → r_.toInt = pn → Kp (some (.int r_)) h')
    (hR1 : ∀ (h' : zH) (r_ : Int32), sInv swC h' → sMd (kcF2_m u) h h' → 0 ≤ y + 9223372036854775807 → 0 ≤ y → 0 ≤ -y + 99 → r_.toInt = y → Kp (some (.int r_)) h')
    (hR2 : ∀ (h' : zH) (r_ : Int32), sInv swC h' → sMd (kcF2_m u) h h' → 0 ≤ y + 9223372036854775807 → 0 ≤ y → 0 ≤ y - 100 → r_.toInt = 99 → Kp (some (.int r_)) h')
    (hR3 : ∀ (h' : zH) (r_ : Int32), sInv swC h' → sMd (kcF2_m u) h h' → 0 ≤ y + 9223372036854775807 → 0 ≤ -y - 1 → r_.toInt = 0 → Kp (some (.int r_)) h') : zX l Γ false (d + 1) (zhd 108) (zMQ' Γ false (zhd 108) Kp) 0 0 80 lo [.long x_y] h := by
  refine sye_ok (mi := 108) (pc := 80) (fun i => [pn, y].getD i 0) (zall_r kcF2_b h_u) (fun _ _ hc _ => nomatch hc) hd ⟨l0, l1, zIm l4 (by show 0 ≤ pn; omega) (by show pn ≤ 9; omega), trivial⟩ ⟨x_y, _, rfl, e_y, ⟨by show (-9223372036854775808) ≤ y; omega, by show y ≤ 9223372036854775807; omega⟩, rfl⟩ ⟨(fun _ hc => nomatch hc), (fun _ hc => nomatch hc), (fun _ hc => nomatch hc), Or.inl rfl⟩ trivial trivial (fun _ hc => nomatch hc) hi ?_ ?_
  · intro e he lo' st' h' hp hi' hm
    cases he
  · intro e he r' h' hp hi' hm
    rcases List.mem_cons.mp he with rfl | he
    · obtain ⟨p1, -, hz⟩ := hp
      obtain ⟨⟨z1, z2, z3, z4⟩, z5, z6⟩ := hz
      have c0 : y = (-9223372036854775808) := by have q_ : (0 : Int) ≤ (1 * y + 0) + 9223372036854775808 := z4 ([(1, 1)], 9223372036854775808) (List.mem_of_getElem? (i := 0) rfl); have q2_ : (0 : Int) ≤ ((-1) * y + 0) + (-9223372036854775808) := z4 ([(1, (-1))], (-9223372036854775808)) (List.mem_of_getElem? (i := 1) rfl); omega
      obtain ⟨r_, rfl, hv⟩ := ansI p1 (z2 (0, ([(0, 1)], 0)) (List.mem_of_getElem? (i := 0) rfl))
      have s0 : r_.toInt = pn := (show r_.toInt = (1 * pn + 0) + 0 from hv).trans (by omega)
      exact hR0 h' r_ hi' hm c0 s0
    rcases List.mem_cons.mp he with rfl | he
    · obtain ⟨p1, -, hz⟩ := hp
      obtain ⟨⟨z1, z2, z3, z4⟩, z5, z6⟩ := hz
      have c0 : 0 ≤ y + 9223372036854775807 := by have q_ : (0 : Int) ≤ (1 * y + 0) + 9223372036854775807 := z4 ([(1, 1)], 9223372036854775807) (List.mem_of_getElem? (i := 0) rfl); omega
      have c1 : 0 ≤ y := by have q_ : (0 : Int) ≤ (1 * y + 0) + 0 := z4 ([(1, 1)], 0) (List.mem_of_getElem? (i := 1) rfl); omega
      have c2 : 0 ≤ -y + 99 := by have q_ : (0 : Int) ≤ ((-1) * y + 0) + 99 := z4 ([(1, (-1))], 99) (List.mem_of_getElem? (i := 2) rfl); omega
      obtain ⟨r_, rfl, hv⟩ := ansI p1 (z2 (0, ([(1, 1)], 0)) (List.mem_of_getElem? (i := 0) rfl))
      have s0 : r_.toInt = y := (show r_.toInt = (1 * y + 0) + 0 from hv).trans (by omega)
      exact hR1 h' r_ hi' hm c0 c1 c2 s0
    rcases List.mem_cons.mp he with rfl | he
    · obtain ⟨p1, -, hz⟩ := hp
      obtain ⟨⟨z1, z2, z3, z4⟩, z5, z6⟩ := hz
      have c0 : 0 ≤ y + 9223372036854775807 := by have q_ : (0 : Int) ≤ (1 * y + 0) + 9223372036854775807 := z4 ([(1, 1)], 9223372036854775807) (List.mem_of_getElem? (i := 0) rfl); omega
      have c1 : 0 ≤ y := by have q_ : (0 : Int) ≤ (1 * y + 0) + 0 := z4 ([(1, 1)], 0) (List.mem_of_getElem? (i := 1) rfl); omega
      have c2 : 0 ≤ y - 100 := by have q_ : (0 : Int) ≤ (1 * y + 0) + (-100) := z4 ([(1, 1)], (-100)) (List.mem_of_getElem? (i := 2) rfl); omega
      obtain ⟨r_, rfl, hv⟩ := ansI p1 (z2 (0, ([], 99)) (List.mem_of_getElem? (i := 0) rfl))
      have s0 : r_.toInt = 99 := (show r_.toInt = 0 + 99 from hv).trans (by omega)
      exact hR2 h' r_ hi' hm c0 c1 c2 s0
    rcases List.mem_cons.mp he with rfl | he
    · obtain ⟨p1, -, hz⟩ := hp
      obtain ⟨⟨z1, z2, z3, z4⟩, z5, z6⟩ := hz
      have c0 : 0 ≤ y + 9223372036854775807 := by have q_ : (0 : Int) ≤ (1 * y + 0) + 9223372036854775807 := z4 ([(1, 1)], 9223372036854775807) (List.mem_of_getElem? (i := 0) rfl); omega
      have c1 : 0 ≤ -y - 1 := by have q_ : (0 : Int) ≤ ((-1) * y + 0) + (-1) := z4 ([(1, (-1))], (-1)) (List.mem_of_getElem? (i := 1) rfl); omega
      obtain ⟨r_, rfl, hv⟩ := ansI p1 (z2 (0, ([], 0)) (List.mem_of_getElem? (i := 0) rfl))
      have s0 : r_.toInt = 0 := (show r_.toInt = 0 + 0 from hv).trans (by omega)
      exact hR3 h' r_ hi' hm c0 c1 s0
    cases he
def kcR0_L (u : Nat) : List sT := [.inr (.inl 61), .inr (.inl (12 * u + 43))]
def kcR0_A (u : Nat) : sAs := ([], [], [], [])
def kcR0_P (u : Nat) : List sP0 := []
def kcR0_G (u : Nat) : List sP0 := []
def kcR0_B (u : Nat) : List (Nat × Nat × Int) := []
def kcR0_m (u : Nat) : sM := []
def kcR0_e0 (u : Nat) : sXe := (2, [], [(0, .inr (.inl 61)), (1, .inr (.inl (12 * u + 43))), (2, .inl sf32)], sA0, [], ([], [], [(2, ([], 0))], []), [], [])
theorem kcR0_b : ((List.range 2).all fun u => syfB swC sT0 (kcR0_m u) 400 0 107 (kcR0_L u) (kcR0_A u) (kcR0_P u) (kcR0_G u) (kcR0_B u) [kcR0_e0 u] []) = true := by decide +kernel
theorem kcR0 {l : Launch} {Γ : zG} {d : Nat} (hd : 0 ≤ d) {Kp : Option Value → zH → Prop} {h : zH} {u : Nat} (h_u : u < 2) (hi : sInv swC h) 
    (hE0 : ∀ (lo' : zL) (h' : zH), sInv swC h' → sMd (kcR0_m u) h h' → zget lo' 0 = some (.ref 61) → zget lo' 1 = some (.ref (12 * u + 43)) → zI lo' 2 0 → zX l Γ false (d + 1) (zhd 107) (zMQ' Γ false (zhd 107) Kp) 0 0 2 lo' [] h') : zSem l Γ false (d + 1) (zhd 107) [.ref 61, .ref (12 * u + 43)] h Kp := by
  refine syf_ok (mi := 107) (fun i => [].getD i 0) (zall_r kcR0_b h_u) (fun _ _ hc _ => nomatch hc) hd ⟨_, _, rfl, rfl, ⟨_, _, rfl, rfl, rfl⟩⟩ ⟨rfl, rfl, trivial⟩ ⟨(fun _ hc => nomatch hc), (fun _ hc => nomatch hc), (fun _ hc => nomatch hc), Or.inl rfl⟩ trivial trivial (fun _ hc => nomatch hc) hi ?_ ?_
  · intro e he lo' st' h' hp hi' hm
    rcases List.mem_cons.mp he with rfl | he
    · obtain ⟨p1, p2, -, hz⟩ := hp
      obtain ⟨⟨z1, z2, z3, z4⟩, z5, z6⟩ := hz
      have o0 : zget lo' 0 = some (.ref 61) := locR (p2 (0, .inr (.inl 61)) (List.mem_of_getElem? (i := 0) rfl))
      have o1 : zget lo' 1 = some (.ref (12 * u + 43)) := locR (p2 (1, .inr (.inl (12 * u + 43))) (List.mem_of_getElem? (i := 1) rfl))
      have o2 : zI lo' 2 0 := zI_of (p2 (2, .inl sf32) (List.mem_of_getElem? (i := 2) rfl)) (z3 (2, ([], 0)) (List.mem_of_getElem? (i := 0) rfl)) (show 0 + 0 = 0 from by omega)
      have p1 : _ = [] := p1
      subst p1
      exact hE0 lo' h' hi' hm o0 o1 o2
    cases he
  · intro e he r' h' hp hi' hm
    cases he
def kcR1_L (g : Nat) (t : Nat) (u : Nat) : List (Nat × sT) := [(0, .inr (.inl 61)), (1, .inr (.inl (12 * u + 43))), (2, .inl ((g : Int), (g : Int)))]
def kcR1_S (g : Nat) (t : Nat) (u : Nat) : List sT := []
def kcR1_A (g : Nat) (t : Nat) (u : Nat) : sAs := ([], [(61, 0, (17 * t + 9))], [], [])
def kcR1_P (g : Nat) (t : Nat) (u : Nat) : List sP0 := [((17 * t + 12), (none, 3), (((g : Int) + 1), 8)), ((12 * u + 44), (none, ((g : Nat) : Int)), (0, 999))]
def kcR1_G (g : Nat) (t : Nat) (u : Nat) : List sP0 := []
def kcR1_B (g : Nat) (t : Nat) (u : Nat) : List (Nat × Nat × Int) := []
def kcR1_m (g : Nat) (t : Nat) (u : Nat) : sM := []
def kcR1_e0 (g : Nat) (t : Nat) (u : Nat) : sXe := (2, [], [(0, .inr (.inl 61)), (1, .inr (.inl (12 * u + 43))), (2, .inl sf32)], sA0, [], ([], [], [(2, ([], ((g : Int) + 1)))], [([(2, 1)], 0), ([(2, (-1))], 0)]), [], [])
def kcR1_e1 (g : Nat) (t : Nat) (u : Nat) : sXe := (43, [.inl sf32, .inr (.inl (12 * u + 43)), .inr (.inl 61), .inl sf32], [(0, .inr (.inl 61)), (1, .inr (.inl (12 * u + 43))), (2, .inl sf32)], sA0, [], ([], [(0, ([], (g : Int))), (3, ([(2, 1)], 0))], [(2, ([], (g : Int)))], []), [(([(2, 1)], 0), ([], 0))], [])
theorem kcR1_b : ((List.range 8).all fun g => ((List.range 2).all fun t => ((List.range 2).all fun u => syeB swC sT0 (kcR1_m g t u) 400 0 107 (kcR1_L g t u) (kcR1_S g t u) (kcR1_A g t u) (kcR1_P g t u) (kcR1_G g t u) (kcR1_B g t u) 2 [kcR1_e0 g t u, kcR1_e1 g t u] []))) = true := by decide +kernel
theorem kcR1 {l : Launch} {Γ : zG} {d : Nat} (hd : 0 ≤ d) {Kp : Option Value → zH → Prop} {lo : zL} {h : zH} {g : Nat} (h_g : g < 8) {t : Nat} (h_t : t < 2) {u : Nat} (h_u : u < 2) {n a : Int} (hi : sInv swC h) (b_n : ((g : Int) + 1) ≤ n ∧ n ≤ 8) (b_a : 0 ≤ a ∧ a ≤ 999) (l0 : zget lo 0 = some (.ref 61)) (l1 : zget lo 1 = some (.ref (12 * u + 43))) (l2 : zI lo 2 (g : Int)) (p_n : pI h (17 * t + 12) 3 = n) (p_a : pI h (12 * u + 44) g = a) (q0 : h.2.2.2 61 0 = some (17 * t + 9))
    (hE0 : ∀ (lo' : zL) (h' : zH), sInv swC h' → sMd (kcR1_m g t u) h h' → a = 0 → zget lo' 0 = some (.ref 61) → zget lo' 1 = some (.ref (12 * u + 43)) → zI lo' 2 ((g : Int) + 1) → zX l Γ false (d + 1) (zhd 107) (zMQ' Γ false (zhd 107) Kp) 0 0 2 lo' [] h')
    (hE1 : ∀ (lo' : zL) (h' : zH) (y0 : Int32) (y3 : Int32), sInv swC h' → sMd (kcR1_m g t u) h h' → a ≠ 0 → zget lo' 0 = some (.ref 61) → zget lo' 1 = some (.ref (12 * u + 43)) → zI lo' 2 (g : Int) → y0.toInt = (g : Int) → y3.toInt = a → zX l Γ false (d + 1) (zhd 107) (zMQ' Γ false (zhd 107) Kp) 0 0 43 lo' [.int y0, .ref (12 * u + 43), .ref 61, .int y3] h') : zX l Γ false (d + 1) (zhd 107) (zMQ' Γ false (zhd 107) Kp) 0 0 2 lo [] h := by
  refine sye_ok (mi := 107) (pc := 2) (fun i => [(g : Int), n, a].getD i 0) (zall_r (zall_r (zall_r kcR1_b h_g) h_t) h_u) (fun _ _ hc _ => nomatch hc) hd ⟨l0, l1, zIm l2 (by show (g : Int) ≤ (g : Int); omega) (by show (g : Int) ≤ (g : Int); omega), trivial⟩ rfl ⟨(fun _ hc => nomatch hc), (sfm q0 (fun _ hc => nomatch hc)), (fun _ hc => nomatch hc), Or.inl rfl⟩ ⟨⟨p_n, by show ((g : Int) + 1) ≤ n; omega, by show n ≤ 8; omega⟩, ⟨p_a, by show 0 ≤ a; omega, by show a ≤ 999; omega⟩, trivial⟩ trivial (fun _ hc => nomatch hc) hi ?_ ?_
  · intro e he lo' st' h' hp hi' hm
    rcases List.mem_cons.mp he with rfl | he
    · obtain ⟨p1, p2, -, hz⟩ := hp
      obtain ⟨⟨z1, z2, z3, z4⟩, z5, z6⟩ := hz
      have c0 : a = 0 := by have q_ : (0 : Int) ≤ (1 * a + 0) + 0 := z4 ([(2, 1)], 0) (List.mem_of_getElem? (i := 0) rfl); have q2_ : (0 : Int) ≤ ((-1) * a + 0) + 0 := z4 ([(2, (-1))], 0) (List.mem_of_getElem? (i := 1) rfl); omega
      have o0 : zget lo' 0 = some (.ref 61) := locR (p2 (0, .inr (.inl 61)) (List.mem_of_getElem? (i := 0) rfl))
      have o1 : zget lo' 1 = some (.ref (12 * u + 43)) := locR (p2 (1, .inr (.inl (12 * u + 43))) (List.mem_of_getElem? (i := 1) rfl))
      have o2 : zI lo' 2 ((g : Int) + 1) := zI_of (p2 (2, .inl sf32) (List.mem_of_getElem? (i := 2) rfl)) (z3 (2, ([], ((g : Int) + 1))) (List.mem_of_getElem? (i := 0) rfl)) (show 0 + ((g : Int) + 1) = ((g : Int) + 1) from by omega)
      have p1 : _ = [] := p1
      subst p1
      exact hE0 lo' h' hi' hm c0 o0 o1 o2
    rcases List.mem_cons.mp he with rfl | he
    · obtain ⟨p1, p2, -, hz⟩ := hp
      obtain ⟨⟨z1, z2, z3, z4⟩, z5, z6⟩ := hz
      have n0 : a ≠ 0 := fun e_ => z5 (([(2, 1)], 0), ([], 0)) (List.mem_of_getElem? (i := 0) rfl) (by show (1 * a + 0) + 0 = 0 + 0; omega)
      have o0 : zget lo' 0 = some (.ref 61) := locR (p2 (0, .inr (.inl 61)) (List.mem_of_getElem? (i := 0) rfl))
      have o1 : zget lo' 1 = some (.ref (12 * u + 43)) := locR (p2 (1, .inr (.inl (12 * u + 43))) (List.mem_of_getElem? (i := 1) rfl))
      have o2 : zI lo' 2 (g : Int) := zI_of (p2 (2, .inl sf32) (List.mem_of_getElem? (i := 2) rfl)) (z3 (2, ([], (g : Int))) (List.mem_of_getElem? (i := 0) rfl)) (show 0 + (g : Int) = (g : Int) from by omega)
      obtain ⟨_, _, rfl, ⟨y0, rfl, -⟩, p1⟩ := p1
      obtain ⟨_, _, rfl, hr, p1⟩ := p1
      have hr : _ = Value.ref (12 * u + 43) := hr
      subst hr
      obtain ⟨_, _, rfl, hr, p1⟩ := p1
      have hr : _ = Value.ref 61 := hr
      subst hr
      obtain ⟨_, _, rfl, ⟨y3, rfl, -⟩, p1⟩ := p1
      have p1 : _ = [] := p1
      subst p1
      obtain ⟨v_, ev, hv⟩ := z2 (0, ([], (g : Int))) (List.mem_of_getElem? (i := 0) rfl)
      cases ev
      have s0 : y0.toInt = (g : Int) := (show y0.toInt = 0 + (g : Int) from hv).trans (by omega)
      obtain ⟨v_, ev, hv⟩ := z2 (3, ([(2, 1)], 0)) (List.mem_of_getElem? (i := 1) rfl)
      cases ev
      have s3 : y3.toInt = a := (show y3.toInt = (1 * a + 0) + 0 from hv).trans (by omega)
      exact hE1 lo' h' y0 y3 hi' hm n0 o0 o1 o2 s0 s3
    cases he
  · intro e he r' h' hp hi' hm
    cases he
def kcR2_L (g : Nat) (u : Nat) : List (Nat × sT) := [(0, .inr (.inl 61)), (1, .inr (.inl (12 * u + 43))), (2, .inl ((g : Int), (g : Int)))]
def kcR2_S (g : Nat) (u : Nat) : List sT := [.inl (0, 99), .inl (0, 999)]
def kcR2_A (g : Nat) (u : Nat) : sAs := ([], [], [], [])
def kcR2_P (g : Nat) (u : Nat) : List sP0 := [((12 * u + 44), (none, ((g : Nat) : Int)), (0, 999)), ((12 * u + 45), (none, ((g : Nat) : Int)), (0, 999)), ((12 * u + 46), (none, ((g : Nat) : Int)), (0, 2000000000))]
def kcR2_G (g : Nat) (u : Nat) : List sP0 := []
def kcR2_B (g : Nat) (u : Nat) : List (Nat × Nat × Int) := []
def kcR2_m (g : Nat) (u : Nat) : sM := [((12 * u + 44), g, (g + 1)), ((12 * u + 45), g, (g + 1)), ((12 * u + 46), g, (g + 1))]
def kcR2_e0 (g : Nat) (u : Nat) : sXe := (2, [], [(0, .inr (.inl 61)), (1, .inr (.inl (12 * u + 43))), (2, .inl sf32)], sA0, [], ([((12 * u + 46), (none, ((g : Nat) : Int)), ([(5, 1)], 1)), ((12 * u + 45), (none, ((g : Nat) : Int)), ([(1, 1), (4, 1)], 0)), ((12 * u + 44), (none, ((g : Nat) : Int)), ([(1, (-1)), (3, 1)], 0))], [], [(2, ([], ((g : Int) + 1)))], [([(1, (-1)), (2, 1)], (-1)), ([(1, (-1)), (4, (-1))], 998), ([(1, (-1)), (3, 1)], 0), ([(1, 1), (3, (-1))], 0)]), [], [])
def kcR2_e1 (g : Nat) (u : Nat) : sXe := (2, [], [(0, .inr (.inl 61)), (1, .inr (.inl (12 * u + 43))), (2, .inl sf32)], sA0, [], ([((12 * u + 45), (none, ((g : Nat) : Int)), ([(1, 1), (4, 1)], 0)), ((12 * u + 44), (none, ((g : Nat) : Int)), ([(1, (-1)), (3, 1)], 0)), ((12 * u + 46), (none, ((g : Nat) : Int)), ([(5, 1)], 0))], [], [(2, ([], ((g : Int) + 1)))], [([(1, (-1)), (2, 1)], (-1)), ([(1, (-1)), (4, (-1))], 998)]), [(([(1, (-1)), (3, 1)], 0), ([], 0))], [])
def kcR2_e2 (g : Nat) (u : Nat) : sXe := (2, [], [(0, .inr (.inl 61)), (1, .inr (.inl (12 * u + 43))), (2, .inl sf32)], sA0, [], ([((12 * u + 46), (none, ((g : Nat) : Int)), ([(5, 1)], 1)), ((12 * u + 45), (none, ((g : Nat) : Int)), ([], 999)), ((12 * u + 44), (none, ((g : Nat) : Int)), ([(1, (-1)), (3, 1)], 0))], [], [(2, ([], ((g : Int) + 1)))], [([(1, (-1)), (2, 1)], (-1)), ([(1, 1), (4, 1)], (-999)), ([(1, (-1)), (3, 1)], 0), ([(1, 1), (3, (-1))], 0)]), [], [])
def kcR2_e3 (g : Nat) (u : Nat) : sXe := (2, [], [(0, .inr (.inl 61)), (1, .inr (.inl (12 * u + 43))), (2, .inl sf32)], sA0, [], ([((12 * u + 45), (none, ((g : Nat) : Int)), ([], 999)), ((12 * u + 44), (none, ((g : Nat) : Int)), ([(1, (-1)), (3, 1)], 0)), ((12 * u + 46), (none, ((g : Nat) : Int)), ([(5, 1)], 0))], [], [(2, ([], ((g : Int) + 1)))], [([(1, (-1)), (2, 1)], (-1)), ([(1, 1), (4, 1)], (-999))]), [(([(1, (-1)), (3, 1)], 0), ([], 0))], [])
def kcR2_e4 (g : Nat) (u : Nat) : sXe := (2, [], [(0, .inr (.inl 61)), (1, .inr (.inl (12 * u + 43))), (2, .inl sf32)], sA0, [], ([((12 * u + 46), (none, ((g : Nat) : Int)), ([(5, 1)], 1)), ((12 * u + 45), (none, ((g : Nat) : Int)), ([(2, 1), (4, 1)], 0)), ((12 * u + 44), (none, ((g : Nat) : Int)), ([(2, (-1)), (3, 1)], 0))], [], [(2, ([], ((g : Int) + 1)))], [([(1, 1), (2, (-1))], 0), ([(2, (-1)), (4, (-1))], 998), ([(2, (-1)), (3, 1)], 0), ([(2, 1), (3, (-1))], 0)]), [], [])
def kcR2_e5 (g : Nat) (u : Nat) : sXe := (2, [], [(0, .inr (.inl 61)), (1, .inr (.inl (12 * u + 43))), (2, .inl sf32)], sA0, [], ([((12 * u + 45), (none, ((g : Nat) : Int)), ([(2, 1), (4, 1)], 0)), ((12 * u + 44), (none, ((g : Nat) : Int)), ([(2, (-1)), (3, 1)], 0)), ((12 * u + 46), (none, ((g : Nat) : Int)), ([(5, 1)], 0))], [], [(2, ([], ((g : Int) + 1)))], [([(1, 1), (2, (-1))], 0), ([(2, (-1)), (4, (-1))], 998)]), [(([(2, (-1)), (3, 1)], 0), ([], 0))], [])
def kcR2_e6 (g : Nat) (u : Nat) : sXe := (2, [], [(0, .inr (.inl 61)), (1, .inr (.inl (12 * u + 43))), (2, .inl sf32)], sA0, [], ([((12 * u + 46), (none, ((g : Nat) : Int)), ([(5, 1)], 1)), ((12 * u + 45), (none, ((g : Nat) : Int)), ([], 999)), ((12 * u + 44), (none, ((g : Nat) : Int)), ([(2, (-1)), (3, 1)], 0))], [], [(2, ([], ((g : Int) + 1)))], [([(1, 1), (2, (-1))], 0), ([(2, 1), (4, 1)], (-999)), ([(2, (-1)), (3, 1)], 0), ([(2, 1), (3, (-1))], 0)]), [], [])
def kcR2_e7 (g : Nat) (u : Nat) : sXe := (2, [], [(0, .inr (.inl 61)), (1, .inr (.inl (12 * u + 43))), (2, .inl sf32)], sA0, [], ([((12 * u + 45), (none, ((g : Nat) : Int)), ([], 999)), ((12 * u + 44), (none, ((g : Nat) : Int)), ([(2, (-1)), (3, 1)], 0)), ((12 * u + 46), (none, ((g : Nat) : Int)), ([(5, 1)], 0))], [], [(2, ([], ((g : Int) + 1)))], [([(1, 1), (2, (-1))], 0), ([(2, 1), (4, 1)], (-999))]), [(([(2, (-1)), (3, 1)], 0), ([], 0))], [])
theorem kcR2_b : ((List.range 8).all fun g => ((List.range 2).all fun u => syeB swC sT0 (kcR2_m g u) 400 0 107 (kcR2_L g u) (kcR2_S g u) (kcR2_A g u) (kcR2_P g u) (kcR2_G g u) (kcR2_B g u) 46 [kcR2_e0 g u, kcR2_e1 g u, kcR2_e2 g u, kcR2_e3 g u, kcR2_e4 g u, kcR2_e5 g u, kcR2_e6 g u, kcR2_e7 g u] [])) = true := by decide +kernel
theorem kcR2 {l : Launch} {Γ : zG} {d : Nat} (hd : 0 ≤ d) {Kp : Option Value → zH → Prop} {lo : zL} {h : zH} {g : Nat} (h_g : g < 8) {u : Nat} (h_u : u < 2) {x a2 a b em : Int} (hi : sInv swC h) (b_x : 0 ≤ x ∧ x ≤ 99) (b_a2 : 0 ≤ a2 ∧ a2 ≤ 999) (b_a : 0 ≤ a ∧ a ≤ 999) (b_b : 0 ≤ b ∧ b ≤ 999) (b_em : 0 ≤ em ∧ em ≤ 2000000000) (l0 : zget lo 0 = some (.ref 61)) (l1 : zget lo 1 = some (.ref (12 * u + 43))) (l2 : zI lo 2 (g : Int)) {x_x : Int32} (e_x : x_x.toInt = x) {x_a2 : Int32} (e_a2 : x_a2.toInt = a2) (p_a : pI h (12 * u + 44) g = a) (p_b : pI h (12 * u + 45) g = b) (p_em : pI h (12 * u + 46) g = em)
    (hE0 : ∀ (lo' : zL) (h' : zH), sInv swC h' → sMd (kcR2_m g u) h h' → 0 ≤ -x + a2 - 1 → 0 ≤ -x - b + 998 → -x + a = 0 → pI h' (12 * u + 46) g = em + 1 → pI h' (12 * u + 45) g = x + b → pI h' (12 * u + 44) g = -x + a → zget lo' 0 = some (.ref 61) → zget lo' 1 = some (.ref (12 * u + 43)) → zI lo' 2 ((g : Int) + 1) → zX l Γ false (d + 1) (zhd 107) (zMQ' Γ false (zhd 107) Kp) 0 0 2 lo' [] h')
    (hE1 : ∀ (lo' : zL) (h' : zH), sInv swC h' → sMd (kcR2_m g u) h h' → 0 ≤ -x + a2 - 1 → 0 ≤ -x - b + 998 → -x + a ≠ 0 → pI h' (12 * u + 45) g = x + b → pI h' (12 * u + 44) g = -x + a → pI h' (12 * u + 46) g = em → zget lo' 0 = some (.ref 61) → zget lo' 1 = some (.ref (12 * u + 43)) → zI lo' 2 ((g : Int) + 1) → zX l Γ false (d + 1) (zhd 107) (zMQ' Γ false (zhd 107) Kp) 0 0 2 lo' [] h')
    (hE2 : ∀ (lo' : zL) (h' : zH), sInv swC h' → sMd (kcR2_m g u) h h' → 0 ≤ -x + a2 - 1 → 0 ≤ x + b - 999 → -x + a = 0 → pI h' (12 * u + 46) g = em + 1 → pI h' (12 * u + 45) g = 999 → pI h' (12 * u + 44) g = -x + a → zget lo' 0 = some (.ref 61) → zget lo' 1 = some (.ref (12 * u + 43)) → zI lo' 2 ((g : Int) + 1) → zX l Γ false (d + 1) (zhd 107) (zMQ' Γ false (zhd 107) Kp) 0 0 2 lo' [] h')
    (hE3 : ∀ (lo' : zL) (h' : zH), sInv swC h' → sMd (kcR2_m g u) h h' → 0 ≤ -x + a2 - 1 → 0 ≤ x + b - 999 → -x + a ≠ 0 → pI h' (12 * u + 45) g = 999 → pI h' (12 * u + 44) g = -x + a → pI h' (12 * u + 46) g = em → zget lo' 0 = some (.ref 61) → zget lo' 1 = some (.ref (12 * u + 43)) → zI lo' 2 ((g : Int) + 1) → zX l Γ false (d + 1) (zhd 107) (zMQ' Γ false (zhd 107) Kp) 0 0 2 lo' [] h')
    (hE4 : ∀ (lo' : zL) (h' : zH), sInv swC h' → sMd (kcR2_m g u) h h' → 0 ≤ x - a2 → 0 ≤ -a2 - b + 998 → -a2 + a = 0 → pI h' (12 * u + 46) g = em + 1 → pI h' (12 * u + 45) g = a2 + b → pI h' (12 * u + 44) g = -a2 + a → zget lo' 0 = some (.ref 61) → zget lo' 1 = some (.ref (12 * u + 43)) → zI lo' 2 ((g : Int) + 1) → zX l Γ false (d + 1) (zhd 107) (zMQ' Γ false (zhd 107) Kp) 0 0 2 lo' [] h')
    (hE5 : ∀ (lo' : zL) (h' : zH), sInv swC h' → sMd (kcR2_m g u) h h' → 0 ≤ x - a2 → 0 ≤ -a2 - b + 998 → -a2 + a ≠ 0 → pI h' (12 * u + 45) g = a2 + b → pI h' (12 * u + 44) g = -a2 + a → pI h' (12 * u + 46) g = em → zget lo' 0 = some (.ref 61) → zget lo' 1 = some (.ref (12 * u + 43)) → zI lo' 2 ((g : Int) + 1) → zX l Γ false (d + 1) (zhd 107) (zMQ' Γ false (zhd 107) Kp) 0 0 2 lo' [] h')
    (hE6 : ∀ (lo' : zL) (h' : zH), sInv swC h' → sMd (kcR2_m g u) h h' → 0 ≤ x - a2 → 0 ≤ a2 + b - 999 → -a2 + a = 0 → pI h' (12 * u + 46) g = em + 1 → pI h' (12 * u + 45) g = 999 → pI h' (12 * u + 44) g = -a2 + a → zget lo' 0 = some (.ref 61) → zget lo' 1 = some (.ref (12 * u + 43)) → zI lo' 2 ((g : Int) + 1) → zX l Γ false (d + 1) (zhd 107) (zMQ' Γ false (zhd 107) Kp) 0 0 2 lo' [] h')
    (hE7 : ∀ (lo' : zL) (h' : zH), sInv swC h' → sMd (kcR2_m g u) h h' → 0 ≤ x - a2 → 0 ≤ a2 + b - 999 → -a2 + a ≠ 0 → pI h' (12 * u + 45) g = 999 → pI h' (12 * u + 44) g = -a2 + a → pI h' (12 * u + 46) g = em → zget lo' 0 = some (.ref 61) → zget lo' 1 = some (.ref (12 * u + 43)) → zI lo' 2 ((g : Int) + 1) → zX l Γ false (d + 1) (zhd 107) (zMQ' Γ false (zhd 107) Kp) 0 0 2 lo' [] h') : zX l Γ false (d + 1) (zhd 107) (zMQ' Γ false (zhd 107) Kp) 0 0 46 lo [.int x_x, .int x_a2] h := by
  refine sye_ok (mi := 107) (pc := 46) (fun i => [(g : Int), x, a2, a, b, em].getD i 0) (zall_r (zall_r kcR2_b h_g) h_u) (fun _ _ hc _ => nomatch hc) hd ⟨l0, l1, zIm l2 (by show (g : Int) ≤ (g : Int); omega) (by show (g : Int) ≤ (g : Int); omega), trivial⟩ ⟨x_x, _, rfl, e_x, ⟨by show 0 ≤ x; omega, by show x ≤ 99; omega⟩, ⟨x_a2, _, rfl, e_a2, ⟨by show 0 ≤ a2; omega, by show a2 ≤ 999; omega⟩, rfl⟩⟩ ⟨(fun _ hc => nomatch hc), (fun _ hc => nomatch hc), (fun _ hc => nomatch hc), Or.inl rfl⟩ ⟨⟨p_a, by show 0 ≤ a; omega, by show a ≤ 999; omega⟩, ⟨p_b, by show 0 ≤ b; omega, by show b ≤ 999; omega⟩, ⟨p_em, by show 0 ≤ em; omega, by show em ≤ 2000000000; omega⟩, trivial⟩ trivial (fun _ hc => nomatch hc) hi ?_ ?_
  · intro e he lo' st' h' hp hi' hm
    rcases List.mem_cons.mp he with rfl | he
    · obtain ⟨p1, p2, -, hz⟩ := hp
      obtain ⟨⟨z1, z2, z3, z4⟩, z5, z6⟩ := hz
      have c0 : 0 ≤ -x + a2 - 1 := by have q_ : (0 : Int) ≤ ((-1) * x + (1 * a2 + 0)) + (-1) := z4 ([(1, (-1)), (2, 1)], (-1)) (List.mem_of_getElem? (i := 0) rfl); omega
      have c1 : 0 ≤ -x - b + 998 := by have q_ : (0 : Int) ≤ ((-1) * x + ((-1) * b + 0)) + 998 := z4 ([(1, (-1)), (4, (-1))], 998) (List.mem_of_getElem? (i := 1) rfl); omega
      have c2 : -x + a = 0 := by have q_ : (0 : Int) ≤ ((-1) * x + (1 * a + 0)) + 0 := z4 ([(1, (-1)), (3, 1)], 0) (List.mem_of_getElem? (i := 2) rfl); have q2_ : (0 : Int) ≤ (1 * x + ((-1) * a + 0)) + 0 := z4 ([(1, 1), (3, (-1))], 0) (List.mem_of_getElem? (i := 3) rfl); omega
      have k0 : pI h' (12 * u + 46) g = em + 1 := (show pI h' (12 * u + 46) g = (1 * em + 0) + 1 from z1 ((12 * u + 46), (none, ((g : Nat) : Int)), ([(5, 1)], 1)) (List.mem_of_getElem? (i := 0) rfl)).trans (by omega)
      have k1 : pI h' (12 * u + 45) g = x + b := (show pI h' (12 * u + 45) g = (1 * x + (1 * b + 0)) + 0 from z1 ((12 * u + 45), (none, ((g : Nat) : Int)), ([(1, 1), (4, 1)], 0)) (List.mem_of_getElem? (i := 1) rfl)).trans (by omega)
      have k2 : pI h' (12 * u + 44) g = -x + a := (show pI h' (12 * u + 44) g = ((-1) * x + (1 * a + 0)) + 0 from z1 ((12 * u + 44), (none, ((g : Nat) : Int)), ([(1, (-1)), (3, 1)], 0)) (List.mem_of_getElem? (i := 2) rfl)).trans (by omega)
      have o0 : zget lo' 0 = some (.ref 61) := locR (p2 (0, .inr (.inl 61)) (List.mem_of_getElem? (i := 0) rfl))
      have o1 : zget lo' 1 = some (.ref (12 * u + 43)) := locR (p2 (1, .inr (.inl (12 * u + 43))) (List.mem_of_getElem? (i := 1) rfl))
      have o2 : zI lo' 2 ((g : Int) + 1) := zI_of (p2 (2, .inl sf32) (List.mem_of_getElem? (i := 2) rfl)) (z3 (2, ([], ((g : Int) + 1))) (List.mem_of_getElem? (i := 0) rfl)) (show 0 + ((g : Int) + 1) = ((g : Int) + 1) from by omega)
      have p1 : _ = [] := p1
      subst p1
      exact hE0 lo' h' hi' hm c0 c1 c2 k0 k1 k2 o0 o1 o2
    rcases List.mem_cons.mp he with rfl | he
    · obtain ⟨p1, p2, -, hz⟩ := hp
      obtain ⟨⟨z1, z2, z3, z4⟩, z5, z6⟩ := hz
      have c0 : 0 ≤ -x + a2 - 1 := by have q_ : (0 : Int) ≤ ((-1) * x + (1 * a2 + 0)) + (-1) := z4 ([(1, (-1)), (2, 1)], (-1)) (List.mem_of_getElem? (i := 0) rfl); omega
      have c1 : 0 ≤ -x - b + 998 := by have q_ : (0 : Int) ≤ ((-1) * x + ((-1) * b + 0)) + 998 := z4 ([(1, (-1)), (4, (-1))], 998) (List.mem_of_getElem? (i := 1) rfl); omega
      have n0 : -x + a ≠ 0 := fun e_ => z5 (([(1, (-1)), (3, 1)], 0), ([], 0)) (List.mem_of_getElem? (i := 0) rfl) (by show ((-1) * x + (1 * a + 0)) + 0 = 0 + 0; omega)
      have k0 : pI h' (12 * u + 45) g = x + b := (show pI h' (12 * u + 45) g = (1 * x + (1 * b + 0)) + 0 from z1 ((12 * u + 45), (none, ((g : Nat) : Int)), ([(1, 1), (4, 1)], 0)) (List.mem_of_getElem? (i := 0) rfl)).trans (by omega)
      have k1 : pI h' (12 * u + 44) g = -x + a := (show pI h' (12 * u + 44) g = ((-1) * x + (1 * a + 0)) + 0 from z1 ((12 * u + 44), (none, ((g : Nat) : Int)), ([(1, (-1)), (3, 1)], 0)) (List.mem_of_getElem? (i := 1) rfl)).trans (by omega)
      have k2 : pI h' (12 * u + 46) g = em := (show pI h' (12 * u + 46) g = (1 * em + 0) + 0 from z1 ((12 * u + 46), (none, ((g : Nat) : Int)), ([(5, 1)], 0)) (List.mem_of_getElem? (i := 2) rfl)).trans (by omega)
      have o0 : zget lo' 0 = some (.ref 61) := locR (p2 (0, .inr (.inl 61)) (List.mem_of_getElem? (i := 0) rfl))
      have o1 : zget lo' 1 = some (.ref (12 * u + 43)) := locR (p2 (1, .inr (.inl (12 * u + 43))) (List.mem_of_getElem? (i := 1) rfl))
      have o2 : zI lo' 2 ((g : Int) + 1) := zI_of (p2 (2, .inl sf32) (List.mem_of_getElem? (i := 2) rfl)) (z3 (2, ([], ((g : Int) + 1))) (List.mem_of_getElem? (i := 0) rfl)) (show 0 + ((g : Int) + 1) = ((g : Int) + 1) from by omega)
      have p1 : _ = [] := p1
      subst p1
      exact hE1 lo' h' hi' hm c0 c1 n0 k0 k1 k2 o0 o1 o2
    rcases List.mem_cons.mp he with rfl | he
    · obtain ⟨p1, p2, -, hz⟩ := hp
      obtain ⟨⟨z1, z2, z3, z4⟩, z5, z6⟩ := hz
      have c0 : 0 ≤ -x + a2 - 1 := by have q_ : (0 : Int) ≤ ((-1) * x + (1 * a2 + 0)) + (-1) := z4 ([(1, (-1)), (2, 1)], (-1)) (List.mem_of_getElem? (i := 0) rfl); omega
      have c1 : 0 ≤ x + b - 999 := by have q_ : (0 : Int) ≤ (1 * x + (1 * b + 0)) + (-999) := z4 ([(1, 1), (4, 1)], (-999)) (List.mem_of_getElem? (i := 1) rfl); omega
      have c2 : -x + a = 0 := by have q_ : (0 : Int) ≤ ((-1) * x + (1 * a + 0)) + 0 := z4 ([(1, (-1)), (3, 1)], 0) (List.mem_of_getElem? (i := 2) rfl); have q2_ : (0 : Int) ≤ (1 * x + ((-1) * a + 0)) + 0 := z4 ([(1, 1), (3, (-1))], 0) (List.mem_of_getElem? (i := 3) rfl); omega
      have k0 : pI h' (12 * u + 46) g = em + 1 := (show pI h' (12 * u + 46) g = (1 * em + 0) + 1 from z1 ((12 * u + 46), (none, ((g : Nat) : Int)), ([(5, 1)], 1)) (List.mem_of_getElem? (i := 0) rfl)).trans (by omega)
      have k1 : pI h' (12 * u + 45) g = 999 := (show pI h' (12 * u + 45) g = 0 + 999 from z1 ((12 * u + 45), (none, ((g : Nat) : Int)), ([], 999)) (List.mem_of_getElem? (i := 1) rfl)).trans (by omega)
      have k2 : pI h' (12 * u + 44) g = -x + a := (show pI h' (12 * u + 44) g = ((-1) * x + (1 * a + 0)) + 0 from z1 ((12 * u + 44), (none, ((g : Nat) : Int)), ([(1, (-1)), (3, 1)], 0)) (List.mem_of_getElem? (i := 2) rfl)).trans (by omega)
      have o0 : zget lo' 0 = some (.ref 61) := locR (p2 (0, .inr (.inl 61)) (List.mem_of_getElem? (i := 0) rfl))
      have o1 : zget lo' 1 = some (.ref (12 * u + 43)) := locR (p2 (1, .inr (.inl (12 * u + 43))) (List.mem_of_getElem? (i := 1) rfl))
      have o2 : zI lo' 2 ((g : Int) + 1) := zI_of (p2 (2, .inl sf32) (List.mem_of_getElem? (i := 2) rfl)) (z3 (2, ([], ((g : Int) + 1))) (List.mem_of_getElem? (i := 0) rfl)) (show 0 + ((g : Int) + 1) = ((g : Int) + 1) from by omega)
      have p1 : _ = [] := p1
      subst p1
      exact hE2 lo' h' hi' hm c0 c1 c2 k0 k1 k2 o0 o1 o2
    rcases List.mem_cons.mp he with rfl | he
    · obtain ⟨p1, p2, -, hz⟩ := hp
      obtain ⟨⟨z1, z2, z3, z4⟩, z5, z6⟩ := hz
      have c0 : 0 ≤ -x + a2 - 1 := by have q_ : (0 : Int) ≤ ((-1) * x + (1 * a2 + 0)) + (-1) := z4 ([(1, (-1)), (2, 1)], (-1)) (List.mem_of_getElem? (i := 0) rfl); omega
      have c1 : 0 ≤ x + b - 999 := by have q_ : (0 : Int) ≤ (1 * x + (1 * b + 0)) + (-999) := z4 ([(1, 1), (4, 1)], (-999)) (List.mem_of_getElem? (i := 1) rfl); omega
      have n0 : -x + a ≠ 0 := fun e_ => z5 (([(1, (-1)), (3, 1)], 0), ([], 0)) (List.mem_of_getElem? (i := 0) rfl) (by show ((-1) * x + (1 * a + 0)) + 0 = 0 + 0; omega)
      have k0 : pI h' (12 * u + 45) g = 999 := (show pI h' (12 * u + 45) g = 0 + 999 from z1 ((12 * u + 45), (none, ((g : Nat) : Int)), ([], 999)) (List.mem_of_getElem? (i := 0) rfl)).trans (by omega)
      have k1 : pI h' (12 * u + 44) g = -x + a := (show pI h' (12 * u + 44) g = ((-1) * x + (1 * a + 0)) + 0 from z1 ((12 * u + 44), (none, ((g : Nat) : Int)), ([(1, (-1)), (3, 1)], 0)) (List.mem_of_getElem? (i := 1) rfl)).trans (by omega)
      have k2 : pI h' (12 * u + 46) g = em := (show pI h' (12 * u + 46) g = (1 * em + 0) + 0 from z1 ((12 * u + 46), (none, ((g : Nat) : Int)), ([(5, 1)], 0)) (List.mem_of_getElem? (i := 2) rfl)).trans (by omega)
      have o0 : zget lo' 0 = some (.ref 61) := locR (p2 (0, .inr (.inl 61)) (List.mem_of_getElem? (i := 0) rfl))
      have o1 : zget lo' 1 = some (.ref (12 * u + 43)) := locR (p2 (1, .inr (.inl (12 * u + 43))) (List.mem_of_getElem? (i := 1) rfl))
      have o2 : zI lo' 2 ((g : Int) + 1) := zI_of (p2 (2, .inl sf32) (List.mem_of_getElem? (i := 2) rfl)) (z3 (2, ([], ((g : Int) + 1))) (List.mem_of_getElem? (i := 0) rfl)) (show 0 + ((g : Int) + 1) = ((g : Int) + 1) from by omega)
      have p1 : _ = [] := p1
      subst p1
      exact hE3 lo' h' hi' hm c0 c1 n0 k0 k1 k2 o0 o1 o2
    rcases List.mem_cons.mp he with rfl | he
    · obtain ⟨p1, p2, -, hz⟩ := hp
      obtain ⟨⟨z1, z2, z3, z4⟩, z5, z6⟩ := hz
      have c0 : 0 ≤ x - a2 := by have q_ : (0 : Int) ≤ (1 * x + ((-1) * a2 + 0)) + 0 := z4 ([(1, 1), (2, (-1))], 0) (List.mem_of_getElem? (i := 0) rfl); omega
      have c1 : 0 ≤ -a2 - b + 998 := by have q_ : (0 : Int) ≤ ((-1) * a2 + ((-1) * b + 0)) + 998 := z4 ([(2, (-1)), (4, (-1))], 998) (List.mem_of_getElem? (i := 1) rfl); omega
      have c2 : -a2 + a = 0 := by have q_ : (0 : Int) ≤ ((-1) * a2 + (1 * a + 0)) + 0 := z4 ([(2, (-1)), (3, 1)], 0) (List.mem_of_getElem? (i := 2) rfl); have q2_ : (0 : Int) ≤ (1 * a2 + ((-1) * a + 0)) + 0 := z4 ([(2, 1), (3, (-1))], 0) (List.mem_of_getElem? (i := 3) rfl); omega
      have k0 : pI h' (12 * u + 46) g = em + 1 := (show pI h' (12 * u + 46) g = (1 * em + 0) + 1 from z1 ((12 * u + 46), (none, ((g : Nat) : Int)), ([(5, 1)], 1)) (List.mem_of_getElem? (i := 0) rfl)).trans (by omega)
      have k1 : pI h' (12 * u + 45) g = a2 + b := (show pI h' (12 * u + 45) g = (1 * a2 + (1 * b + 0)) + 0 from z1 ((12 * u + 45), (none, ((g : Nat) : Int)), ([(2, 1), (4, 1)], 0)) (List.mem_of_getElem? (i := 1) rfl)).trans (by omega)
      have k2 : pI h' (12 * u + 44) g = -a2 + a := (show pI h' (12 * u + 44) g = ((-1) * a2 + (1 * a + 0)) + 0 from z1 ((12 * u + 44), (none, ((g : Nat) : Int)), ([(2, (-1)), (3, 1)], 0)) (List.mem_of_getElem? (i := 2) rfl)).trans (by omega)
      have o0 : zget lo' 0 = some (.ref 61) := locR (p2 (0, .inr (.inl 61)) (List.mem_of_getElem? (i := 0) rfl))
      have o1 : zget lo' 1 = some (.ref (12 * u + 43)) := locR (p2 (1, .inr (.inl (12 * u + 43))) (List.mem_of_getElem? (i := 1) rfl))
      have o2 : zI lo' 2 ((g : Int) + 1) := zI_of (p2 (2, .inl sf32) (List.mem_of_getElem? (i := 2) rfl)) (z3 (2, ([], ((g : Int) + 1))) (List.mem_of_getElem? (i := 0) rfl)) (show 0 + ((g : Int) + 1) = ((g : Int) + 1) from by omega)
      have p1 : _ = [] := p1
      subst p1
      exact hE4 lo' h' hi' hm c0 c1 c2 k0 k1 k2 o0 o1 o2
    rcases List.mem_cons.mp he with rfl | he
    · obtain ⟨p1, p2, -, hz⟩ := hp
      obtain ⟨⟨z1, z2, z3, z4⟩, z5, z6⟩ := hz
      have c0 : 0 ≤ x - a2 := by have q_ : (0 : Int) ≤ (1 * x + ((-1) * a2 + 0)) + 0 := z4 ([(1, 1), (2, (-1))], 0) (List.mem_of_getElem? (i := 0) rfl); omega
      have c1 : 0 ≤ -a2 - b + 998 := by have q_ : (0 : Int) ≤ ((-1) * a2 + ((-1) * b + 0)) + 998 := z4 ([(2, (-1)), (4, (-1))], 998) (List.mem_of_getElem? (i := 1) rfl); omega
      have n0 : -a2 + a ≠ 0 := fun e_ => z5 (([(2, (-1)), (3, 1)], 0), ([], 0)) (List.mem_of_getElem? (i := 0) rfl) (by show ((-1) * a2 + (1 * a + 0)) + 0 = 0 + 0; omega)
      have k0 : pI h' (12 * u + 45) g = a2 + b := (show pI h' (12 * u + 45) g = (1 * a2 + (1 * b + 0)) + 0 from z1 ((12 * u + 45), (none, ((g : Nat) : Int)), ([(2, 1), (4, 1)], 0)) (List.mem_of_getElem? (i := 0) rfl)).trans (by omega)
      have k1 : pI h' (12 * u + 44) g = -a2 + a := (show pI h' (12 * u + 44) g = ((-1) * a2 + (1 * a + 0)) + 0 from z1 ((12 * u + 44), (none, ((g : Nat) : Int)), ([(2, (-1)), (3, 1)], 0)) (List.mem_of_getElem? (i := 1) rfl)).trans (by omega)
      have k2 : pI h' (12 * u + 46) g = em := (show pI h' (12 * u + 46) g = (1 * em + 0) + 0 from z1 ((12 * u + 46), (none, ((g : Nat) : Int)), ([(5, 1)], 0)) (List.mem_of_getElem? (i := 2) rfl)).trans (by omega)
      have o0 : zget lo' 0 = some (.ref 61) := locR (p2 (0, .inr (.inl 61)) (List.mem_of_getElem? (i := 0) rfl))
      have o1 : zget lo' 1 = some (.ref (12 * u + 43)) := locR (p2 (1, .inr (.inl (12 * u + 43))) (List.mem_of_getElem? (i := 1) rfl))
      have o2 : zI lo' 2 ((g : Int) + 1) := zI_of (p2 (2, .inl sf32) (List.mem_of_getElem? (i := 2) rfl)) (z3 (2, ([], ((g : Int) + 1))) (List.mem_of_getElem? (i := 0) rfl)) (show 0 + ((g : Int) + 1) = ((g : Int) + 1) from by omega)
      have p1 : _ = [] := p1
      subst p1
      exact hE5 lo' h' hi' hm c0 c1 n0 k0 k1 k2 o0 o1 o2
    rcases List.mem_cons.mp he with rfl | he
    · obtain ⟨p1, p2, -, hz⟩ := hp
      obtain ⟨⟨z1, z2, z3, z4⟩, z5, z6⟩ := hz
      have c0 : 0 ≤ x - a2 := by have q_ : (0 : Int) ≤ (1 * x + ((-1) * a2 + 0)) + 0 := z4 ([(1, 1), (2, (-1))], 0) (List.mem_of_getElem? (i := 0) rfl); omega
      have c1 : 0 ≤ a2 + b - 999 := by have q_ : (0 : Int) ≤ (1 * a2 + (1 * b + 0)) + (-999) := z4 ([(2, 1), (4, 1)], (-999)) (List.mem_of_getElem? (i := 1) rfl); omega
      have c2 : -a2 + a = 0 := by have q_ : (0 : Int) ≤ ((-1) * a2 + (1 * a + 0)) + 0 := z4 ([(2, (-1)), (3, 1)], 0) (List.mem_of_getElem? (i := 2) rfl); have q2_ : (0 : Int) ≤ (1 * a2 + ((-1) * a + 0)) + 0 := z4 ([(2, 1), (3, (-1))], 0) (List.mem_of_getElem? (i := 3) rfl); omega
      have k0 : pI h' (12 * u + 46) g = em + 1 := (show pI h' (12 * u + 46) g = (1 * em + 0) + 1 from z1 ((12 * u + 46), (none, ((g : Nat) : Int)), ([(5, 1)], 1)) (List.mem_of_getElem? (i := 0) rfl)).trans (by omega)
      have k1 : pI h' (12 * u + 45) g = 999 := (show pI h' (12 * u + 45) g = 0 + 999 from z1 ((12 * u + 45), (none, ((g : Nat) : Int)), ([], 999)) (List.mem_of_getElem? (i := 1) rfl)).trans (by omega)
      have k2 : pI h' (12 * u + 44) g = -a2 + a := (show pI h' (12 * u + 44) g = ((-1) * a2 + (1 * a + 0)) + 0 from z1 ((12 * u + 44), (none, ((g : Nat) : Int)), ([(2, (-1)), (3, 1)], 0)) (List.mem_of_getElem? (i := 2) rfl)).trans (by omega)
      have o0 : zget lo' 0 = some (.ref 61) := locR (p2 (0, .inr (.inl 61)) (List.mem_of_getElem? (i := 0) rfl))
      have o1 : zget lo' 1 = some (.ref (12 * u + 43)) := locR (p2 (1, .inr (.inl (12 * u + 43))) (List.mem_of_getElem? (i := 1) rfl))
      have o2 : zI lo' 2 ((g : Int) + 1) := zI_of (p2 (2, .inl sf32) (List.mem_of_getElem? (i := 2) rfl)) (z3 (2, ([], ((g : Int) + 1))) (List.mem_of_getElem? (i := 0) rfl)) (show 0 + ((g : Int) + 1) = ((g : Int) + 1) from by omega)
      have p1 : _ = [] := p1
      subst p1
      exact hE6 lo' h' hi' hm c0 c1 c2 k0 k1 k2 o0 o1 o2
    rcases List.mem_cons.mp he with rfl | he
    · obtain ⟨p1, p2, -, hz⟩ := hp
      obtain ⟨⟨z1, z2, z3, z4⟩, z5, z6⟩ := hz
      have c0 : 0 ≤ x - a2 := by have q_ : (0 : Int) ≤ (1 * x + ((-1) * a2 + 0)) + 0 := z4 ([(1, 1), (2, (-1))], 0) (List.mem_of_getElem? (i := 0) rfl); omega
      have c1 : 0 ≤ a2 + b - 999 := by have q_ : (0 : Int) ≤ (1 * a2 + (1 * b + 0)) + (-999) := z4 ([(2, 1), (4, 1)], (-999)) (List.mem_of_getElem? (i := 1) rfl); omega
      have n0 : -a2 + a ≠ 0 := fun e_ => z5 (([(2, (-1)), (3, 1)], 0), ([], 0)) (List.mem_of_getElem? (i := 0) rfl) (by show ((-1) * a2 + (1 * a + 0)) + 0 = 0 + 0; omega)
      have k0 : pI h' (12 * u + 45) g = 999 := (show pI h' (12 * u + 45) g = 0 + 999 from z1 ((12 * u + 45), (none, ((g : Nat) : Int)), ([], 999)) (List.mem_of_getElem? (i := 0) rfl)).trans (by omega)
      have k1 : pI h' (12 * u + 44) g = -a2 + a := (show pI h' (12 * u + 44) g = ((-1) * a2 + (1 * a + 0)) + 0 from z1 ((12 * u + 44), (none, ((g : Nat) : Int)), ([(2, (-1)), (3, 1)], 0)) (List.mem_of_getElem? (i := 1) rfl)).trans (by omega)
      have k2 : pI h' (12 * u + 46) g = em := (show pI h' (12 * u + 46) g = (1 * em + 0) + 0 from z1 ((12 * u + 46), (none, ((g : Nat) : Int)), ([(5, 1)], 0)) (List.mem_of_getElem? (i := 2) rfl)).trans (by omega)
      have o0 : zget lo' 0 = some (.ref 61) := locR (p2 (0, .inr (.inl 61)) (List.mem_of_getElem? (i := 0) rfl))
      have o1 : zget lo' 1 = some (.ref (12 * u + 43)) := locR (p2 (1, .inr (.inl (12 * u + 43))) (List.mem_of_getElem? (i := 1) rfl))
      have o2 : zI lo' 2 ((g : Int) + 1) := zI_of (p2 (2, .inl sf32) (List.mem_of_getElem? (i := 2) rfl)) (z3 (2, ([], ((g : Int) + 1))) (List.mem_of_getElem? (i := 0) rfl)) (show 0 + ((g : Int) + 1) = ((g : Int) + 1) from by omega)
      have p1 : _ = [] := p1
      subst p1
      exact hE7 lo' h' hi' hm c0 c1 n0 k0 k1 k2 o0 o1 o2
    cases he
  · intro e he r' h' hp hi' hm
    cases he
def kcR3_L (t : Nat) (u : Nat) : List (Nat × sT) := [(0, .inr (.inl 61)), (1, .inr (.inl (12 * u + 43))), (2, .inl (0, 8))]
def kcR3_S (t : Nat) (u : Nat) : List sT := []
def kcR3_A (t : Nat) (u : Nat) : sAs := ([], [(61, 0, (17 * t + 9))], [], [])
def kcR3_P (t : Nat) (u : Nat) : List sP0 := [((17 * t + 12), (none, 3), (0, 8))]
def kcR3_G (t : Nat) (u : Nat) : List sP0 := []
def kcR3_B (t : Nat) (u : Nat) : List (Nat × Nat × Int) := [(0, 1, 0)]
def kcR3_m (t : Nat) (u : Nat) : sM := []
def kcR3_r0 (t : Nat) (u : Nat) : sXr := (none, sA0, [], ([], [], [], []), [], [])
theorem kcR3_b : ((List.range 2).all fun t => ((List.range 2).all fun u => syeB swC sT0 (kcR3_m t u) 400 0 107 (kcR3_L t u) (kcR3_S t u) (kcR3_A t u) (kcR3_P t u) (kcR3_G t u) (kcR3_B t u) 2 [] [kcR3_r0 t u])) = true := by decide +kernel
theorem kcR3 {l : Launch} {Γ : zG} {d : Nat} (hd : 0 ≤ d) {Kp : Option Value → zH → Prop} {lo : zL} {h : zH} {t : Nat} (h_t : t < 2) {u : Nat} (h_u : u < 2) {ri n : Int} (hi : sInv swC h) (b_ri : 0 ≤ ri ∧ ri ≤ 8) (b_n : 0 ≤ n ∧ n ≤ 8) (l0 : zget lo 0 = some (.ref 61)) (l1 : zget lo 1 = some (.ref (12 * u + 43))) (l2 : zI lo 2 ri) (p_n : pI h (17 * t + 12) 3 = n) (q0 : h.2.2.2 61 0 = some (17 * t + 9)) (d0 : 0 ≤ ri - n)
    (hR0 : ∀ (h' : zH), sInv swC h' → sMd (kcR3_m t u) h h' → Kp none h') : zX l Γ false (d + 1) (zhd 107) (zMQ' Γ false (zhd 107) Kp) 0 0 2 lo [] h := by
  refine sye_ok (mi := 107) (pc := 2) (fun i => [ri, n].getD i 0) (zall_r (zall_r kcR3_b h_t) h_u) (fun _ _ hc _ => nomatch hc) hd ⟨l0, l1, zIm l2 (by show 0 ≤ ri; omega) (by show ri ≤ 8; omega), trivial⟩ rfl ⟨(fun _ hc => nomatch hc), (sfm q0 (fun _ hc => nomatch hc)), (fun _ hc => nomatch hc), Or.inl rfl⟩ ⟨⟨p_n, by show 0 ≤ n; omega, by show n ≤ 8; omega⟩, trivial⟩ trivial (sfm d0 (fun _ hc => nomatch hc)) hi ?_ ?_
  · intro e he lo' st' h' hp hi' hm
    cases he
  · intro e he r' h' hp hi' hm
    rcases List.mem_cons.mp he with rfl | he
    · obtain ⟨p1, -, hz⟩ := hp
      obtain ⟨⟨z1, z2, z3, z4⟩, z5, z6⟩ := hz
      have p1 : r' = none := p1
      subst p1
      exact hR0 h' hi' hm
    cases he
def kcD0_L (t : Nat) (u : Nat) : List sT := [.inr (.inl 61), .inr (.inl (12 * u + 43))]
def kcD0_A (t : Nat) (u : Nat) : sAs := ([], [(61, 0, (17 * t + 9))], [], [])
def kcD0_P (t : Nat) (u : Nat) : List sP0 := [((17 * t + 9), (none, 6), (0, 100)), (61, (none, 1), (0, 1))]
def kcD0_G (t : Nat) (u : Nat) : List sP0 := []
def kcD0_B (t : Nat) (u : Nat) : List (Nat × Nat × Int) := []
def kcD0_m (t : Nat) (u : Nat) : sM := []
def kcD0_e0 (t : Nat) (u : Nat) : sXe := (68, [], [(0, .inr (.inl 61)), (1, .inr (.inl (12 * u + 43))), (2, .inl sf32), (3, .inl sf32), (4, .inl sf32), (5, .inl sf32)], sA0, [], ([], [], [(2, ([(0, 1)], 0)), (3, ([], 0)), (4, ([], 0)), (5, ([], 0))], [([(0, (-1))], 49), ([(1, 1)], 0), ([(1, (-1))], 0)]), [], [])
def kcD0_e1 (t : Nat) (u : Nat) : sXe := (68, [], [(0, .inr (.inl 61)), (1, .inr (.inl (12 * u + 43))), (2, .inl sf32), (3, .inl sf32), (4, .inl sf32), (5, .inl sf32)], sA0, [], ([], [], [(2, ([(0, 1)], 0)), (3, ([], 0)), (4, ([], 1)), (5, ([], 0))], [([(0, 1)], (-50)), ([(1, 1)], 0), ([(1, (-1))], 0)]), [], [])
def kcD0_e2 (t : Nat) (u : Nat) : sXe := (68, [], [(0, .inr (.inl 61)), (1, .inr (.inl (12 * u + 43))), (2, .inl sf32), (3, .inl sf32), (4, .inl sf32), (5, .inl sf32)], sA0, [], ([], [], [(2, ([(0, 1)], 0)), (3, ([], 0)), (4, ([], 0)), (5, ([], 0))], [([(0, (-1))], 0)]), [(([(1, 1)], 0), ([], 0))], [])
def kcD0_e3 (t : Nat) (u : Nat) : sXe := (68, [], [(0, .inr (.inl 61)), (1, .inr (.inl (12 * u + 43))), (2, .inl sf32), (3, .inl sf32), (4, .inl sf32), (5, .inl sf32)], sA0, [], ([], [], [(2, ([(0, 1)], 0)), (3, ([], 0)), (4, ([], 1)), (5, ([], 0))], [([(0, 1)], (-1)), ([(0, 1)], (-100))]), [(([(1, 1)], 0), ([], 0))], [])
def kcD0_e4 (t : Nat) (u : Nat) : sXe := (68, [], [(0, .inr (.inl 61)), (1, .inr (.inl (12 * u + 43))), (2, .inl sf32), (3, .inl sf32), (4, .inl sf32), (5, .inl sf32)], sA0, [], ([], [], [(2, ([(0, 1)], 0)), (3, ([], 1)), (4, ([], 0)), (5, ([], 0))], [([(0, 1)], (-1)), ([(0, (-1))], 99)]), [(([(1, 1)], 0), ([], 0))], [])
theorem kcD0_b : ((List.range 2).all fun t => ((List.range 2).all fun u => syfB swC sT0 (kcD0_m t u) 400 0 105 (kcD0_L t u) (kcD0_A t u) (kcD0_P t u) (kcD0_G t u) (kcD0_B t u) [kcD0_e0 t u, kcD0_e1 t u, kcD0_e2 t u, kcD0_e3 t u, kcD0_e4 t u] [])) = true := by decide +kernel
theorem kcD0 {l : Launch} {Γ : zG} {d : Nat} (hd : 0 ≤ d) {Kp : Option Value → zH → Prop} {h : zH} {t : Nat} (h_t : t < 2) {u : Nat} (h_u : u < 2) {dm dr : Int} (hi : sInv swC h) (b_dm : 0 ≤ dm ∧ dm ≤ 100) (b_dr : 0 ≤ dr ∧ dr ≤ 1) (p_dm : pI h (17 * t + 9) 6 = dm) (p_dr : pI h 61 1 = dr) (q0 : h.2.2.2 61 0 = some (17 * t + 9))
    (hE0 : ∀ (lo' : zL) (h' : zH), sInv swC h' → sMd (kcD0_m t u) h h' → 0 ≤ -dm + 49 → dr = 0 → zget lo' 0 = some (.ref 61) → zget lo' 1 = some (.ref (12 * u + 43)) → zI lo' 2 dm → zI lo' 3 0 → zI lo' 4 0 → zI lo' 5 0 → zX l Γ false (d + 1) (zhd 105) (zMQ' Γ false (zhd 105) Kp) 0 0 68 lo' [] h')
    (hE1 : ∀ (lo' : zL) (h' : zH), sInv swC h' → sMd (kcD0_m t u) h h' → 0 ≤ dm - 50 → dr = 0 → zget lo' 0 = some (.ref 61) → zget lo' 1 = some (.ref (12 * u + 43)) → zI lo' 2 dm → zI lo' 3 0 → zI lo' 4 1 → zI lo' 5 0 → zX l Γ false (d + 1) (zhd 105) (zMQ' Γ false (zhd 105) Kp) 0 0 68 lo' [] h')
    (hE2 : ∀ (lo' : zL) (h' : zH), sInv swC h' → sMd (kcD0_m t u) h h' → 0 ≤ -dm → dr ≠ 0 → zget lo' 0 = some (.ref 61) → zget lo' 1 = some (.ref (12 * u + 43)) → zI lo' 2 dm → zI lo' 3 0 → zI lo' 4 0 → zI lo' 5 0 → zX l Γ false (d + 1) (zhd 105) (zMQ' Γ false (zhd 105) Kp) 0 0 68 lo' [] h')
    (hE3 : ∀ (lo' : zL) (h' : zH), sInv swC h' → sMd (kcD0_m t u) h h' → 0 ≤ dm - 1 → 0 ≤ dm - 100 → dr ≠ 0 → zget lo' 0 = some (.ref 61) → zget lo' 1 = some (.ref (12 * u + 43)) → zI lo' 2 dm → zI lo' 3 0 → zI lo' 4 1 → zI lo' 5 0 → zX l Γ false (d + 1) (zhd 105) (zMQ' Γ false (zhd 105) Kp) 0 0 68 lo' [] h')
    (hE4 : ∀ (lo' : zL) (h' : zH), sInv swC h' → sMd (kcD0_m t u) h h' → 0 ≤ dm - 1 → 0 ≤ -dm + 99 → dr ≠ 0 → zget lo' 0 = some (.ref 61) → zget lo' 1 = some (.ref (12 * u + 43)) → zI lo' 2 dm → zI lo' 3 1 → zI lo' 4 0 → zI lo' 5 0 → zX l Γ false (d + 1) (zhd 105) (zMQ' Γ false (zhd 105) Kp) 0 0 68 lo' [] h') : zSem l Γ false (d + 1) (zhd 105) [.ref 61, .ref (12 * u + 43)] h Kp := by
  refine syf_ok (mi := 105) (fun i => [dm, dr].getD i 0) (zall_r (zall_r kcD0_b h_t) h_u) (fun _ _ hc _ => nomatch hc) hd ⟨_, _, rfl, rfl, ⟨_, _, rfl, rfl, rfl⟩⟩ ⟨rfl, rfl, trivial⟩ ⟨(fun _ hc => nomatch hc), (sfm q0 (fun _ hc => nomatch hc)), (fun _ hc => nomatch hc), Or.inl rfl⟩ ⟨⟨p_dm, by show 0 ≤ dm; omega, by show dm ≤ 100; omega⟩, ⟨p_dr, by show 0 ≤ dr; omega, by show dr ≤ 1; omega⟩, trivial⟩ trivial (fun _ hc => nomatch hc) hi ?_ ?_
  · intro e he lo' st' h' hp hi' hm
    rcases List.mem_cons.mp he with rfl | he
    · obtain ⟨p1, p2, -, hz⟩ := hp
      obtain ⟨⟨z1, z2, z3, z4⟩, z5, z6⟩ := hz
      have c0 : 0 ≤ -dm + 49 := by have q_ : (0 : Int) ≤ ((-1) * dm + 0) + 49 := z4 ([(0, (-1))], 49) (List.mem_of_getElem? (i := 0) rfl); omega
      have c1 : dr = 0 := by have q_ : (0 : Int) ≤ (1 * dr + 0) + 0 := z4 ([(1, 1)], 0) (List.mem_of_getElem? (i := 1) rfl); have q2_ : (0 : Int) ≤ ((-1) * dr + 0) + 0 := z4 ([(1, (-1))], 0) (List.mem_of_getElem? (i := 2) rfl); omega
      have o0 : zget lo' 0 = some (.ref 61) := locR (p2 (0, .inr (.inl 61)) (List.mem_of_getElem? (i := 0) rfl))
      have o1 : zget lo' 1 = some (.ref (12 * u + 43)) := locR (p2 (1, .inr (.inl (12 * u + 43))) (List.mem_of_getElem? (i := 1) rfl))
      have o2 : zI lo' 2 dm := zI_of (p2 (2, .inl sf32) (List.mem_of_getElem? (i := 2) rfl)) (z3 (2, ([(0, 1)], 0)) (List.mem_of_getElem? (i := 0) rfl)) (show (1 * dm + 0) + 0 = dm from by omega)
      have o3 : zI lo' 3 0 := zI_of (p2 (3, .inl sf32) (List.mem_of_getElem? (i := 3) rfl)) (z3 (3, ([], 0)) (List.mem_of_getElem? (i := 1) rfl)) (show 0 + 0 = 0 from by omega)
      have o4 : zI lo' 4 0 := zI_of (p2 (4, .inl sf32) (List.mem_of_getElem? (i := 4) rfl)) (z3 (4, ([], 0)) (List.mem_of_getElem? (i := 2) rfl)) (show 0 + 0 = 0 from by omega)
      have o5 : zI lo' 5 0 := zI_of (p2 (5, .inl sf32) (List.mem_of_getElem? (i := 5) rfl)) (z3 (5, ([], 0)) (List.mem_of_getElem? (i := 3) rfl)) (show 0 + 0 = 0 from by omega)
      have p1 : _ = [] := p1
      subst p1
      exact hE0 lo' h' hi' hm c0 c1 o0 o1 o2 o3 o4 o5
    rcases List.mem_cons.mp he with rfl | he
    · obtain ⟨p1, p2, -, hz⟩ := hp
      obtain ⟨⟨z1, z2, z3, z4⟩, z5, z6⟩ := hz
      have c0 : 0 ≤ dm - 50 := by have q_ : (0 : Int) ≤ (1 * dm + 0) + (-50) := z4 ([(0, 1)], (-50)) (List.mem_of_getElem? (i := 0) rfl); omega
      have c1 : dr = 0 := by have q_ : (0 : Int) ≤ (1 * dr + 0) + 0 := z4 ([(1, 1)], 0) (List.mem_of_getElem? (i := 1) rfl); have q2_ : (0 : Int) ≤ ((-1) * dr + 0) + 0 := z4 ([(1, (-1))], 0) (List.mem_of_getElem? (i := 2) rfl); omega
      have o0 : zget lo' 0 = some (.ref 61) := locR (p2 (0, .inr (.inl 61)) (List.mem_of_getElem? (i := 0) rfl))
      have o1 : zget lo' 1 = some (.ref (12 * u + 43)) := locR (p2 (1, .inr (.inl (12 * u + 43))) (List.mem_of_getElem? (i := 1) rfl))
      have o2 : zI lo' 2 dm := zI_of (p2 (2, .inl sf32) (List.mem_of_getElem? (i := 2) rfl)) (z3 (2, ([(0, 1)], 0)) (List.mem_of_getElem? (i := 0) rfl)) (show (1 * dm + 0) + 0 = dm from by omega)
      have o3 : zI lo' 3 0 := zI_of (p2 (3, .inl sf32) (List.mem_of_getElem? (i := 3) rfl)) (z3 (3, ([], 0)) (List.mem_of_getElem? (i := 1) rfl)) (show 0 + 0 = 0 from by omega)
      have o4 : zI lo' 4 1 := zI_of (p2 (4, .inl sf32) (List.mem_of_getElem? (i := 4) rfl)) (z3 (4, ([], 1)) (List.mem_of_getElem? (i := 2) rfl)) (show 0 + 1 = 1 from by omega)
      have o5 : zI lo' 5 0 := zI_of (p2 (5, .inl sf32) (List.mem_of_getElem? (i := 5) rfl)) (z3 (5, ([], 0)) (List.mem_of_getElem? (i := 3) rfl)) (show 0 + 0 = 0 from by omega)
      have p1 : _ = [] := p1
      subst p1
      exact hE1 lo' h' hi' hm c0 c1 o0 o1 o2 o3 o4 o5
    rcases List.mem_cons.mp he with rfl | he
    · obtain ⟨p1, p2, -, hz⟩ := hp
      obtain ⟨⟨z1, z2, z3, z4⟩, z5, z6⟩ := hz
      have c0 : 0 ≤ -dm := by have q_ : (0 : Int) ≤ ((-1) * dm + 0) + 0 := z4 ([(0, (-1))], 0) (List.mem_of_getElem? (i := 0) rfl); omega
      have n0 : dr ≠ 0 := fun e_ => z5 (([(1, 1)], 0), ([], 0)) (List.mem_of_getElem? (i := 0) rfl) (by show (1 * dr + 0) + 0 = 0 + 0; omega)
      have o0 : zget lo' 0 = some (.ref 61) := locR (p2 (0, .inr (.inl 61)) (List.mem_of_getElem? (i := 0) rfl))
      have o1 : zget lo' 1 = some (.ref (12 * u + 43)) := locR (p2 (1, .inr (.inl (12 * u + 43))) (List.mem_of_getElem? (i := 1) rfl))
      have o2 : zI lo' 2 dm := zI_of (p2 (2, .inl sf32) (List.mem_of_getElem? (i := 2) rfl)) (z3 (2, ([(0, 1)], 0)) (List.mem_of_getElem? (i := 0) rfl)) (show (1 * dm + 0) + 0 = dm from by omega)
      have o3 : zI lo' 3 0 := zI_of (p2 (3, .inl sf32) (List.mem_of_getElem? (i := 3) rfl)) (z3 (3, ([], 0)) (List.mem_of_getElem? (i := 1) rfl)) (show 0 + 0 = 0 from by omega)
      have o4 : zI lo' 4 0 := zI_of (p2 (4, .inl sf32) (List.mem_of_getElem? (i := 4) rfl)) (z3 (4, ([], 0)) (List.mem_of_getElem? (i := 2) rfl)) (show 0 + 0 = 0 from by omega)
      have o5 : zI lo' 5 0 := zI_of (p2 (5, .inl sf32) (List.mem_of_getElem? (i := 5) rfl)) (z3 (5, ([], 0)) (List.mem_of_getElem? (i := 3) rfl)) (show 0 + 0 = 0 from by omega)
      have p1 : _ = [] := p1
      subst p1
      exact hE2 lo' h' hi' hm c0 n0 o0 o1 o2 o3 o4 o5
    rcases List.mem_cons.mp he with rfl | he
    · obtain ⟨p1, p2, -, hz⟩ := hp
      obtain ⟨⟨z1, z2, z3, z4⟩, z5, z6⟩ := hz
      have c0 : 0 ≤ dm - 1 := by have q_ : (0 : Int) ≤ (1 * dm + 0) + (-1) := z4 ([(0, 1)], (-1)) (List.mem_of_getElem? (i := 0) rfl); omega
      have c1 : 0 ≤ dm - 100 := by have q_ : (0 : Int) ≤ (1 * dm + 0) + (-100) := z4 ([(0, 1)], (-100)) (List.mem_of_getElem? (i := 1) rfl); omega
      have n0 : dr ≠ 0 := fun e_ => z5 (([(1, 1)], 0), ([], 0)) (List.mem_of_getElem? (i := 0) rfl) (by show (1 * dr + 0) + 0 = 0 + 0; omega)
      have o0 : zget lo' 0 = some (.ref 61) := locR (p2 (0, .inr (.inl 61)) (List.mem_of_getElem? (i := 0) rfl))
      have o1 : zget lo' 1 = some (.ref (12 * u + 43)) := locR (p2 (1, .inr (.inl (12 * u + 43))) (List.mem_of_getElem? (i := 1) rfl))
      have o2 : zI lo' 2 dm := zI_of (p2 (2, .inl sf32) (List.mem_of_getElem? (i := 2) rfl)) (z3 (2, ([(0, 1)], 0)) (List.mem_of_getElem? (i := 0) rfl)) (show (1 * dm + 0) + 0 = dm from by omega)
      have o3 : zI lo' 3 0 := zI_of (p2 (3, .inl sf32) (List.mem_of_getElem? (i := 3) rfl)) (z3 (3, ([], 0)) (List.mem_of_getElem? (i := 1) rfl)) (show 0 + 0 = 0 from by omega)
      have o4 : zI lo' 4 1 := zI_of (p2 (4, .inl sf32) (List.mem_of_getElem? (i := 4) rfl)) (z3 (4, ([], 1)) (List.mem_of_getElem? (i := 2) rfl)) (show 0 + 1 = 1 from by omega)
      have o5 : zI lo' 5 0 := zI_of (p2 (5, .inl sf32) (List.mem_of_getElem? (i := 5) rfl)) (z3 (5, ([], 0)) (List.mem_of_getElem? (i := 3) rfl)) (show 0 + 0 = 0 from by omega)
      have p1 : _ = [] := p1
      subst p1
      exact hE3 lo' h' hi' hm c0 c1 n0 o0 o1 o2 o3 o4 o5
    rcases List.mem_cons.mp he with rfl | he
    · obtain ⟨p1, p2, -, hz⟩ := hp
      obtain ⟨⟨z1, z2, z3, z4⟩, z5, z6⟩ := hz
      have c0 : 0 ≤ dm - 1 := by have q_ : (0 : Int) ≤ (1 * dm + 0) + (-1) := z4 ([(0, 1)], (-1)) (List.mem_of_getElem? (i := 0) rfl); omega
      have c1 : 0 ≤ -dm + 99 := by have q_ : (0 : Int) ≤ ((-1) * dm + 0) + 99 := z4 ([(0, (-1))], 99) (List.mem_of_getElem? (i := 1) rfl); omega
      have n0 : dr ≠ 0 := fun e_ => z5 (([(1, 1)], 0), ([], 0)) (List.mem_of_getElem? (i := 0) rfl) (by show (1 * dr + 0) + 0 = 0 + 0; omega)
      have o0 : zget lo' 0 = some (.ref 61) := locR (p2 (0, .inr (.inl 61)) (List.mem_of_getElem? (i := 0) rfl))
      have o1 : zget lo' 1 = some (.ref (12 * u + 43)) := locR (p2 (1, .inr (.inl (12 * u + 43))) (List.mem_of_getElem? (i := 1) rfl))
      have o2 : zI lo' 2 dm := zI_of (p2 (2, .inl sf32) (List.mem_of_getElem? (i := 2) rfl)) (z3 (2, ([(0, 1)], 0)) (List.mem_of_getElem? (i := 0) rfl)) (show (1 * dm + 0) + 0 = dm from by omega)
      have o3 : zI lo' 3 1 := zI_of (p2 (3, .inl sf32) (List.mem_of_getElem? (i := 3) rfl)) (z3 (3, ([], 1)) (List.mem_of_getElem? (i := 1) rfl)) (show 0 + 1 = 1 from by omega)
      have o4 : zI lo' 4 0 := zI_of (p2 (4, .inl sf32) (List.mem_of_getElem? (i := 4) rfl)) (z3 (4, ([], 0)) (List.mem_of_getElem? (i := 2) rfl)) (show 0 + 0 = 0 from by omega)
      have o5 : zI lo' 5 0 := zI_of (p2 (5, .inl sf32) (List.mem_of_getElem? (i := 5) rfl)) (z3 (5, ([], 0)) (List.mem_of_getElem? (i := 3) rfl)) (show 0 + 0 = 0 from by omega)
      have p1 : _ = [] := p1
      subst p1
      exact hE4 lo' h' hi' hm c0 c1 n0 o0 o1 o2 o3 o4 o5
    cases he
  · intro e he r' h' hp hi' hm
    cases he
def kcD1_L (g : Nat) (t : Nat) (u : Nat) : List (Nat × sT) := [(0, .inr (.inl 61)), (1, .inr (.inl (12 * u + 43))), (2, .inl (0, 100)), (3, .inl (0, 1)), (4, .inl (0, 1)), (5, .inl ((g : Int), (g : Int)))]
def kcD1_S (g : Nat) (t : Nat) (u : Nat) : List sT := []
def kcD1_A (g : Nat) (t : Nat) (u : Nat) : sAs := ([], [(61, 0, (17 * t + 9))], [], [])
def kcD1_P (g : Nat) (t : Nat) (u : Nat) : List sP0 := [((17 * t + 12), (none, 3), (((g : Int) + 1), 8)), ((12 * u + 43), (none, 3), sf32)]
def kcD1_G (g : Nat) (t : Nat) (u : Nat) : List sP0 := [((12 * u + 43), (none, 1), sf64)]
def kcD1_B (g : Nat) (t : Nat) (u : Nat) : List (Nat × Nat × Int) := []
def kcD1_m (g : Nat) (t : Nat) (u : Nat) : sM := [((12 * u + 43), 1, 2), ((12 * u + 43), 3, 4)]
def kcD1_e0 (g : Nat) (t : Nat) (u : Nat) : sXe := (68, [], [(0, .inr (.inl 61)), (1, .inr (.inl (12 * u + 43))), (2, .inl sf32), (3, .inl sf32), (4, .inl sf32), (5, .inl sf32)], sA0, [(0, 4, ([(5, 1)], 0), ([], (g : Int))), (0, 2, ([(7, 1)], 0), ([], 1)), (2, (12 * u + 43), ([], 1), ([], 0))], ([((12 * u + 43), (none, 3), ([(5, 1)], 0))], [], [(2, ([(0, 1)], 0)), (3, ([(1, 1)], 0)), (4, ([(2, 1)], 0)), (5, ([], ((g : Int) + 1)))], [([(8, 1)], (-1)), ([(8, (-1))], 1)]), [], [(9, ([(6, 1)], 0))])
def kcD1_e1 (g : Nat) (t : Nat) (u : Nat) : sXe := (68, [], [(0, .inr (.inl 61)), (1, .inr (.inl (12 * u + 43))), (2, .inl sf32), (3, .inl sf32), (4, .inl sf32), (5, .inl sf32)], sA0, [(0, 4, ([(5, 1)], 0), ([], (g : Int))), (0, 2, ([(7, 1)], 0), ([], 1)), (2, (12 * u + 43), ([], 1), ([], 0))], ([((12 * u + 43), (none, 3), ([(5, 1)], 0))], [], [(2, ([(0, 1)], 0)), (3, ([(1, 1)], 0)), (4, ([(2, 1)], 0)), (5, ([], ((g : Int) + 1)))], [([(1, 1)], 0), ([(1, (-1))], 0), ([(2, 1)], 0), ([(2, (-1))], 0)]), [(([(8, 1)], 0), ([], 1))], [(9, ([(6, 1)], 0))])
def kcD1_e2 (g : Nat) (t : Nat) (u : Nat) : sXe := (68, [], [(0, .inr (.inl 61)), (1, .inr (.inl (12 * u + 43))), (2, .inl sf32), (3, .inl sf32), (4, .inl sf32), (5, .inl sf32)], sA0, [(0, 3, ([], 1), ([], (g : Int))), (0, 0, ([(5, 1)], 0), ([(7, 1)], 0)), (0, 4, ([(5, 1)], 0), ([], (g : Int))), (0, 2, ([(9, 1)], 0), ([], 1)), (2, (12 * u + 43), ([], 1), ([], 0))], ([((12 * u + 43), (none, 3), ([(8, 1)], 0))], [], [(2, ([(0, 1)], 0)), (3, ([(1, 1)], 0)), (4, ([(2, 1)], 0)), (5, ([], ((g : Int) + 1)))], [([(1, 1)], 0), ([(1, (-1))], 0)]), [(([(10, 1)], 0), ([], 1)), (([(2, 1)], 0), ([], 0))], [(11, ([(6, 1)], 0))])
def kcD1_e3 (g : Nat) (t : Nat) (u : Nat) : sXe := (68, [], [(0, .inr (.inl 61)), (1, .inr (.inl (12 * u + 43))), (2, .inl sf32), (3, .inl sf32), (4, .inl sf32), (5, .inl sf32)], sA0, [(0, 16, ([(6, 1)], 0), ([], 1103515245)), (0, 19, ([(7, 1)], 0), ([], 12345)), (0, 12, ([(8, 1)], 0), ([], 2147483647)), (0, 4, ([(5, 1)], 0), ([], (g : Int))), (0, 2, ([(10, 1)], 0), ([], 1)), (0, 17, ([(9, 1)], 0), ([], 65536)), (0, 11, ([(12, 1)], 0), ([], 0)), (0, 8, ([(13, 1)], 0), ([], 100)), (2, (12 * u + 43), ([], 1), ([], 0))], ([((12 * u + 43), (none, 3), ([(5, 1)], 0))], [], [(2, ([(0, 1)], 0)), (3, ([(1, 1)], 0)), (4, ([(2, 1)], 0)), (5, ([], ((g : Int) + 1)))], [([(0, (-1)), (14, 1)], 0)]), [(([(11, 1)], 0), ([], 1)), (([(1, 1)], 0), ([], 0))], [(15, ([(9, 1)], 0))])
def kcD1_e4 (g : Nat) (t : Nat) (u : Nat) : sXe := (68, [], [(0, .inr (.inl 61)), (1, .inr (.inl (12 * u + 43))), (2, .inl sf32), (3, .inl sf32), (4, .inl sf32), (5, .inl sf32)], sA0, [(0, 3, ([], 1), ([], (g : Int))), (0, 0, ([(5, 1)], 0), ([(7, 1)], 0)), (0, 16, ([(6, 1)], 0), ([], 1103515245)), (0, 19, ([(9, 1)], 0), ([], 12345)), (0, 12, ([(10, 1)], 0), ([], 2147483647)), (0, 4, ([(5, 1)], 0), ([], (g : Int))), (0, 2, ([(12, 1)], 0), ([], 1)), (0, 17, ([(11, 1)], 0), ([], 65536)), (0, 11, ([(14, 1)], 0), ([], 0)), (0, 8, ([(15, 1)], 0), ([], 100)), (2, (12 * u + 43), ([], 1), ([], 0))], ([((12 * u + 43), (none, 3), ([(8, 1)], 0))], [], [(2, ([(0, 1)], 0)), (3, ([(1, 1)], 0)), (4, ([(2, 1)], 0)), (5, ([], ((g : Int) + 1)))], [([(0, 1), (16, (-1))], (-1))]), [(([(13, 1)], 0), ([], 1)), (([(1, 1)], 0), ([], 0))], [(17, ([(11, 1)], 0))])
theorem kcD1_b : ((List.range 8).all fun g => ((List.range 2).all fun t => ((List.range 2).all fun u => syeB swC sT0 (kcD1_m g t u) 400 1 105 (kcD1_L g t u) (kcD1_S g t u) (kcD1_A g t u) (kcD1_P g t u) (kcD1_G g t u) (kcD1_B g t u) 68 [kcD1_e0 g t u, kcD1_e1 g t u, kcD1_e2 g t u, kcD1_e3 g t u, kcD1_e4 g t u] []))) = true := by decide +kernel
theorem kcD1 {l : Launch} {Γ : zG} {d : Nat} (hd : 1 ≤ d) {Kp : Option Value → zH → Prop} {lo : zL} {h : zH} {g : Nat} (h_g : g < 8) {t : Nat} (h_t : t < 2) {u : Nat} (h_u : u < 2) {dm bd al n w nu : Int} (hi : sInv swC h) (b_dm : 0 ≤ dm ∧ dm ≤ 100) (b_bd : 0 ≤ bd ∧ bd ≤ 1) (b_al : 0 ≤ al ∧ al ≤ 1) (b_n : ((g : Int) + 1) ≤ n ∧ n ≤ 8) (b_w : (-2147483648) ≤ w ∧ w ≤ 2147483647) (b_nu : (-9223372036854775808) ≤ nu ∧ nu ≤ 9223372036854775807) (l0 : zget lo 0 = some (.ref 61)) (l1 : zget lo 1 = some (.ref (12 * u + 43))) (l2 : zI lo 2 dm) (l3 : zI lo 3 bd) (l4 : zI lo 4 al) (l5 : zI lo 5 (g : Int)) (p_n : pI h (17 * t + 12) 3 = n) (p_w : pI h (12 * u + 43) 3 = w) (p_nu : pL h (12 * u + 43) 1 = nu) (q0 : h.2.2.2 61 0 = some (17 * t + 9))
    (hE0 : ∀ (lo' : zL) (h' : zH) (w0 w1 u0 : Int), sInv swC h' → sMd (kcD1_m g t u) h h' → w0 = sgfn 4 w (g : Int) → w1 = sgfn 2 w0 1 → pL h' (12 * u + 43) 1 = u0 → u0 = nu → w1 = 1 → pI h' (12 * u + 43) 3 = w → zget lo' 0 = some (.ref 61) → zget lo' 1 = some (.ref (12 * u + 43)) → zI lo' 2 dm → zI lo' 3 bd → zI lo' 4 al → zI lo' 5 ((g : Int) + 1) → zX l Γ false (d + 1) (zhd 105) (zMQ' Γ false (zhd 105) Kp) 0 0 68 lo' [] h')
    (hE1 : ∀ (lo' : zL) (h' : zH) (w0 w1 u0 : Int), sInv swC h' → sMd (kcD1_m g t u) h h' → w0 = sgfn 4 w (g : Int) → w1 = sgfn 2 w0 1 → pL h' (12 * u + 43) 1 = u0 → u0 = nu → bd = 0 → al = 0 → w1 ≠ 1 → pI h' (12 * u + 43) 3 = w → zget lo' 0 = some (.ref 61) → zget lo' 1 = some (.ref (12 * u + 43)) → zI lo' 2 dm → zI lo' 3 bd → zI lo' 4 al → zI lo' 5 ((g : Int) + 1) → zX l Γ false (d + 1) (zhd 105) (zMQ' Γ false (zhd 105) Kp) 0 0 68 lo' [] h')
    (hE2 : ∀ (lo' : zL) (h' : zH) (w0 w1 w2 w3 u0 : Int), sInv swC h' → sMd (kcD1_m g t u) h h' → w0 = sgfn 3 1 (g : Int) → w1 = sgfn 0 w w0 → w2 = sgfn 4 w (g : Int) → w3 = sgfn 2 w2 1 → pL h' (12 * u + 43) 1 = u0 → u0 = nu → bd = 0 → w3 ≠ 1 → al ≠ 0 → pI h' (12 * u + 43) 3 = w1 → zget lo' 0 = some (.ref 61) → zget lo' 1 = some (.ref (12 * u + 43)) → zI lo' 2 dm → zI lo' 3 bd → zI lo' 4 al → zI lo' 5 ((g : Int) + 1) → zX l Γ false (d + 1) (zhd 105) (zMQ' Γ false (zhd 105) Kp) 0 0 68 lo' [] h')
    (hE3 : ∀ (lo' : zL) (h' : zH) (w0 w1 w2 w3 w4 w5 w6 w7 u0 : Int), sInv swC h' → sMd (kcD1_m g t u) h h' → w0 = sgfn 16 nu 1103515245 → w1 = sgfn 19 w0 12345 → w2 = sgfn 12 w1 2147483647 → w3 = sgfn 4 w (g : Int) → w4 = sgfn 2 w3 1 → w5 = sgfn 17 w2 65536 → w6 = sgfn 11 w5 0 → w7 = sgfn 8 w6 100 → pL h' (12 * u + 43) 1 = u0 → u0 = w2 → 0 ≤ -dm + w7 → w4 ≠ 1 → bd ≠ 0 → pI h' (12 * u + 43) 3 = w → zget lo' 0 = some (.ref 61) → zget lo' 1 = some (.ref (12 * u + 43)) → zI lo' 2 dm → zI lo' 3 bd → zI lo' 4 al → zI lo' 5 ((g : Int) + 1) → zX l Γ false (d + 1) (zhd 105) (zMQ' Γ false (zhd 105) Kp) 0 0 68 lo' [] h')
    (hE4 : ∀ (lo' : zL) (h' : zH) (w0 w1 w2 w3 w4 w5 w6 w7 w8 w9 u0 : Int), sInv swC h' → sMd (kcD1_m g t u) h h' → w0 = sgfn 3 1 (g : Int) → w1 = sgfn 0 w w0 → w2 = sgfn 16 nu 1103515245 → w3 = sgfn 19 w2 12345 → w4 = sgfn 12 w3 2147483647 → w5 = sgfn 4 w (g : Int) → w6 = sgfn 2 w5 1 → w7 = sgfn 17 w4 65536 → w8 = sgfn 11 w7 0 → w9 = sgfn 8 w8 100 → pL h' (12 * u + 43) 1 = u0 → u0 = w4 → 0 ≤ dm - w9 - 1 → w6 ≠ 1 → bd ≠ 0 → pI h' (12 * u + 43) 3 = w1 → zget lo' 0 = some (.ref 61) → zget lo' 1 = some (.ref (12 * u + 43)) → zI lo' 2 dm → zI lo' 3 bd → zI lo' 4 al → zI lo' 5 ((g : Int) + 1) → zX l Γ false (d + 1) (zhd 105) (zMQ' Γ false (zhd 105) Kp) 0 0 68 lo' [] h') : zX l Γ false (d + 1) (zhd 105) (zMQ' Γ false (zhd 105) Kp) 0 0 68 lo [] h := by
  refine sye_ok (mi := 105) (pc := 68) (fun i => [dm, bd, al, (g : Int), n, w, nu].getD i 0) (zall_r (zall_r (zall_r kcD1_b h_g) h_t) h_u) (fun _ _ hc _ => nomatch hc) hd ⟨l0, l1, zIm l2 (by show 0 ≤ dm; omega) (by show dm ≤ 100; omega), zIm l3 (by show 0 ≤ bd; omega) (by show bd ≤ 1; omega), zIm l4 (by show 0 ≤ al; omega) (by show al ≤ 1; omega), zIm l5 (by show (g : Int) ≤ (g : Int); omega) (by show (g : Int) ≤ (g : Int); omega), trivial⟩ rfl ⟨(fun _ hc => nomatch hc), (sfm q0 (fun _ hc => nomatch hc)), (fun _ hc => nomatch hc), Or.inl rfl⟩ ⟨⟨p_n, by show ((g : Int) + 1) ≤ n; omega, by show n ≤ 8; omega⟩, ⟨p_w, by show (-2147483648) ≤ w; omega, by show w ≤ 2147483647; omega⟩, trivial⟩ ⟨⟨p_nu, by show (-9223372036854775808) ≤ nu; omega, by show nu ≤ 9223372036854775807; omega⟩, trivial⟩ (fun _ hc => nomatch hc) hi ?_ ?_
  · intro e he lo' st' h' hp hi' hm
    rcases List.mem_cons.mp he with rfl | he
    · obtain ⟨p1, p2, -, hz⟩ := hp
      obtain ⟨w0, f0, hz⟩ := hz
      obtain ⟨w1, f1, hz⟩ := hz
      obtain ⟨u0, f2, hz⟩ := hz
      obtain ⟨⟨z1, z2, z3, z4⟩, z5, z6⟩ := hz
      have g0 : w0 = sgfn 4 w (g : Int) := (show w0 = sgfn 4 ((1 * w + 0) + 0) (0 + (g : Int)) from f0).trans (sgfn_c (by omega) (by omega))
      have g1 : w1 = sgfn 2 w0 1 := (show w1 = sgfn 2 ((1 * w0 + 0) + 0) (0 + 1) from f1).trans (sgfn_c (by omega) (by omega))
      have g2 : pL h' (12 * u + 43) 1 = u0 := by
        rw [← (show ((0 + 1 : Int)).toNat = 1 from by omega)]
        exact f2
      have j0 : u0 = nu := (show u0 = (1 * nu + 0) + 0 from z6 (9, ([(6, 1)], 0)) (List.mem_of_getElem? (i := 0) rfl)).trans (by omega)
      have c0 : w1 = 1 := by have q_ : (0 : Int) ≤ (1 * w1 + 0) + (-1) := z4 ([(8, 1)], (-1)) (List.mem_of_getElem? (i := 0) rfl); have q2_ : (0 : Int) ≤ ((-1) * w1 + 0) + 1 := z4 ([(8, (-1))], 1) (List.mem_of_getElem? (i := 1) rfl); omega
      have k0 : pI h' (12 * u + 43) 3 = w := (show pI h' (12 * u + 43) 3 = (1 * w + 0) + 0 from z1 ((12 * u + 43), (none, 3), ([(5, 1)], 0)) (List.mem_of_getElem? (i := 0) rfl)).trans (by omega)
      have o0 : zget lo' 0 = some (.ref 61) := locR (p2 (0, .inr (.inl 61)) (List.mem_of_getElem? (i := 0) rfl))
      have o1 : zget lo' 1 = some (.ref (12 * u + 43)) := locR (p2 (1, .inr (.inl (12 * u + 43))) (List.mem_of_getElem? (i := 1) rfl))
      have o2 : zI lo' 2 dm := zI_of (p2 (2, .inl sf32) (List.mem_of_getElem? (i := 2) rfl)) (z3 (2, ([(0, 1)], 0)) (List.mem_of_getElem? (i := 0) rfl)) (show (1 * dm + 0) + 0 = dm from by omega)
      have o3 : zI lo' 3 bd := zI_of (p2 (3, .inl sf32) (List.mem_of_getElem? (i := 3) rfl)) (z3 (3, ([(1, 1)], 0)) (List.mem_of_getElem? (i := 1) rfl)) (show (1 * bd + 0) + 0 = bd from by omega)
      have o4 : zI lo' 4 al := zI_of (p2 (4, .inl sf32) (List.mem_of_getElem? (i := 4) rfl)) (z3 (4, ([(2, 1)], 0)) (List.mem_of_getElem? (i := 2) rfl)) (show (1 * al + 0) + 0 = al from by omega)
      have o5 : zI lo' 5 ((g : Int) + 1) := zI_of (p2 (5, .inl sf32) (List.mem_of_getElem? (i := 5) rfl)) (z3 (5, ([], ((g : Int) + 1))) (List.mem_of_getElem? (i := 3) rfl)) (show 0 + ((g : Int) + 1) = ((g : Int) + 1) from by omega)
      have p1 : _ = [] := p1
      subst p1
      exact hE0 lo' h' w0 w1 u0 hi' hm g0 g1 g2 j0 c0 k0 o0 o1 o2 o3 o4 o5
    rcases List.mem_cons.mp he with rfl | he
    · obtain ⟨p1, p2, -, hz⟩ := hp
      obtain ⟨w0, f0, hz⟩ := hz
      obtain ⟨w1, f1, hz⟩ := hz
      obtain ⟨u0, f2, hz⟩ := hz
      obtain ⟨⟨z1, z2, z3, z4⟩, z5, z6⟩ := hz
      have g0 : w0 = sgfn 4 w (g : Int) := (show w0 = sgfn 4 ((1 * w + 0) + 0) (0 + (g : Int)) from f0).trans (sgfn_c (by omega) (by omega))
      have g1 : w1 = sgfn 2 w0 1 := (show w1 = sgfn 2 ((1 * w0 + 0) + 0) (0 + 1) from f1).trans (sgfn_c (by omega) (by omega))
      have g2 : pL h' (12 * u + 43) 1 = u0 := by
        rw [← (show ((0 + 1 : Int)).toNat = 1 from by omega)]
        exact f2
      have j0 : u0 = nu := (show u0 = (1 * nu + 0) + 0 from z6 (9, ([(6, 1)], 0)) (List.mem_of_getElem? (i := 0) rfl)).trans (by omega)
      have c0 : bd = 0 := by have q_ : (0 : Int) ≤ (1 * bd + 0) + 0 := z4 ([(1, 1)], 0) (List.mem_of_getElem? (i := 0) rfl); have q2_ : (0 : Int) ≤ ((-1) * bd + 0) + 0 := z4 ([(1, (-1))], 0) (List.mem_of_getElem? (i := 1) rfl); omega
      have c2 : al = 0 := by have q_ : (0 : Int) ≤ (1 * al + 0) + 0 := z4 ([(2, 1)], 0) (List.mem_of_getElem? (i := 2) rfl); have q2_ : (0 : Int) ≤ ((-1) * al + 0) + 0 := z4 ([(2, (-1))], 0) (List.mem_of_getElem? (i := 3) rfl); omega
      have n0 : w1 ≠ 1 := fun e_ => z5 (([(8, 1)], 0), ([], 1)) (List.mem_of_getElem? (i := 0) rfl) (by show (1 * w1 + 0) + 0 = 0 + 1; omega)
      have k0 : pI h' (12 * u + 43) 3 = w := (show pI h' (12 * u + 43) 3 = (1 * w + 0) + 0 from z1 ((12 * u + 43), (none, 3), ([(5, 1)], 0)) (List.mem_of_getElem? (i := 0) rfl)).trans (by omega)
      have o0 : zget lo' 0 = some (.ref 61) := locR (p2 (0, .inr (.inl 61)) (List.mem_of_getElem? (i := 0) rfl))
      have o1 : zget lo' 1 = some (.ref (12 * u + 43)) := locR (p2 (1, .inr (.inl (12 * u + 43))) (List.mem_of_getElem? (i := 1) rfl))
      have o2 : zI lo' 2 dm := zI_of (p2 (2, .inl sf32) (List.mem_of_getElem? (i := 2) rfl)) (z3 (2, ([(0, 1)], 0)) (List.mem_of_getElem? (i := 0) rfl)) (show (1 * dm + 0) + 0 = dm from by omega)
      have o3 : zI lo' 3 bd := zI_of (p2 (3, .inl sf32) (List.mem_of_getElem? (i := 3) rfl)) (z3 (3, ([(1, 1)], 0)) (List.mem_of_getElem? (i := 1) rfl)) (show (1 * bd + 0) + 0 = bd from by omega)
      have o4 : zI lo' 4 al := zI_of (p2 (4, .inl sf32) (List.mem_of_getElem? (i := 4) rfl)) (z3 (4, ([(2, 1)], 0)) (List.mem_of_getElem? (i := 2) rfl)) (show (1 * al + 0) + 0 = al from by omega)
      have o5 : zI lo' 5 ((g : Int) + 1) := zI_of (p2 (5, .inl sf32) (List.mem_of_getElem? (i := 5) rfl)) (z3 (5, ([], ((g : Int) + 1))) (List.mem_of_getElem? (i := 3) rfl)) (show 0 + ((g : Int) + 1) = ((g : Int) + 1) from by omega)
      have p1 : _ = [] := p1
      subst p1
      exact hE1 lo' h' w0 w1 u0 hi' hm g0 g1 g2 j0 c0 c2 n0 k0 o0 o1 o2 o3 o4 o5
    rcases List.mem_cons.mp he with rfl | he
    · obtain ⟨p1, p2, -, hz⟩ := hp
      obtain ⟨w0, f0, hz⟩ := hz
      obtain ⟨w1, f1, hz⟩ := hz
      obtain ⟨w2, f2, hz⟩ := hz
      obtain ⟨w3, f3, hz⟩ := hz
      obtain ⟨u0, f4, hz⟩ := hz
      obtain ⟨⟨z1, z2, z3, z4⟩, z5, z6⟩ := hz
      have g0 : w0 = sgfn 3 1 (g : Int) := (show w0 = sgfn 3 (0 + 1) (0 + (g : Int)) from f0).trans (sgfn_c (by omega) (by omega))
      have g1 : w1 = sgfn 0 w w0 := (show w1 = sgfn 0 ((1 * w + 0) + 0) ((1 * w0 + 0) + 0) from f1).trans (sgfn_c (by omega) (by omega))
      have g2 : w2 = sgfn 4 w (g : Int) := (show w2 = sgfn 4 ((1 * w + 0) + 0) (0 + (g : Int)) from f2).trans (sgfn_c (by omega) (by omega))
      have g3 : w3 = sgfn 2 w2 1 := (show w3 = sgfn 2 ((1 * w2 + 0) + 0) (0 + 1) from f3).trans (sgfn_c (by omega) (by omega))
      have g4 : pL h' (12 * u + 43) 1 = u0 := by
        rw [← (show ((0 + 1 : Int)).toNat = 1 from by omega)]
        exact f4
      have j0 : u0 = nu := (show u0 = (1 * nu + 0) + 0 from z6 (11, ([(6, 1)], 0)) (List.mem_of_getElem? (i := 0) rfl)).trans (by omega)
      have c0 : bd = 0 := by have q_ : (0 : Int) ≤ (1 * bd + 0) + 0 := z4 ([(1, 1)], 0) (List.mem_of_getElem? (i := 0) rfl); have q2_ : (0 : Int) ≤ ((-1) * bd + 0) + 0 := z4 ([(1, (-1))], 0) (List.mem_of_getElem? (i := 1) rfl); omega
      have n0 : w3 ≠ 1 := fun e_ => z5 (([(10, 1)], 0), ([], 1)) (List.mem_of_getElem? (i := 0) rfl) (by show (1 * w3 + 0) + 0 = 0 + 1; omega)
      have n1 : al ≠ 0 := fun e_ => z5 (([(2, 1)], 0), ([], 0)) (List.mem_of_getElem? (i := 1) rfl) (by show (1 * al + 0) + 0 = 0 + 0; omega)
      have k0 : pI h' (12 * u + 43) 3 = w1 := (show pI h' (12 * u + 43) 3 = (1 * w1 + 0) + 0 from z1 ((12 * u + 43), (none, 3), ([(8, 1)], 0)) (List.mem_of_getElem? (i := 0) rfl)).trans (by omega)
      have o0 : zget lo' 0 = some (.ref 61) := locR (p2 (0, .inr (.inl 61)) (List.mem_of_getElem? (i := 0) rfl))
      have o1 : zget lo' 1 = some (.ref (12 * u + 43)) := locR (p2 (1, .inr (.inl (12 * u + 43))) (List.mem_of_getElem? (i := 1) rfl))
      have o2 : zI lo' 2 dm := zI_of (p2 (2, .inl sf32) (List.mem_of_getElem? (i := 2) rfl)) (z3 (2, ([(0, 1)], 0)) (List.mem_of_getElem? (i := 0) rfl)) (show (1 * dm + 0) + 0 = dm from by omega)
      have o3 : zI lo' 3 bd := zI_of (p2 (3, .inl sf32) (List.mem_of_getElem? (i := 3) rfl)) (z3 (3, ([(1, 1)], 0)) (List.mem_of_getElem? (i := 1) rfl)) (show (1 * bd + 0) + 0 = bd from by omega)
      have o4 : zI lo' 4 al := zI_of (p2 (4, .inl sf32) (List.mem_of_getElem? (i := 4) rfl)) (z3 (4, ([(2, 1)], 0)) (List.mem_of_getElem? (i := 2) rfl)) (show (1 * al + 0) + 0 = al from by omega)
      have o5 : zI lo' 5 ((g : Int) + 1) := zI_of (p2 (5, .inl sf32) (List.mem_of_getElem? (i := 5) rfl)) (z3 (5, ([], ((g : Int) + 1))) (List.mem_of_getElem? (i := 3) rfl)) (show 0 + ((g : Int) + 1) = ((g : Int) + 1) from by omega)
      have p1 : _ = [] := p1
      subst p1
      exact hE2 lo' h' w0 w1 w2 w3 u0 hi' hm g0 g1 g2 g3 g4 j0 c0 n0 n1 k0 o0 o1 o2 o3 o4 o5
    rcases List.mem_cons.mp he with rfl | he
    · obtain ⟨p1, p2, -, hz⟩ := hp
      obtain ⟨w0, f0, hz⟩ := hz
      obtain ⟨w1, f1, hz⟩ := hz
      obtain ⟨w2, f2, hz⟩ := hz
      obtain ⟨w3, f3, hz⟩ := hz
      obtain ⟨w4, f4, hz⟩ := hz
      obtain ⟨w5, f5, hz⟩ := hz
      obtain ⟨w6, f6, hz⟩ := hz
      obtain ⟨w7, f7, hz⟩ := hz
      obtain ⟨u0, f8, hz⟩ := hz
      obtain ⟨⟨z1, z2, z3, z4⟩, z5, z6⟩ := hz
      have g0 : w0 = sgfn 16 nu 1103515245 := (show w0 = sgfn 16 ((1 * nu + 0) + 0) (0 + 1103515245) from f0).trans (sgfn_c (by omega) (by omega))
      have g1 : w1 = sgfn 19 w0 12345 := (show w1 = sgfn 19 ((1 * w0 + 0) + 0) (0 + 12345) from f1).trans (sgfn_c (by omega) (by omega))
      have g2 : w2 = sgfn 12 w1 2147483647 := (show w2 = sgfn 12 ((1 * w1 + 0) + 0) (0 + 2147483647) from f2).trans (sgfn_c (by omega) (by omega))
      have g3 : w3 = sgfn 4 w (g : Int) := (show w3 = sgfn 4 ((1 * w + 0) + 0) (0 + (g : Int)) from f3).trans (sgfn_c (by omega) (by omega))
      have g4 : w4 = sgfn 2 w3 1 := (show w4 = sgfn 2 ((1 * w3 + 0) + 0) (0 + 1) from f4).trans (sgfn_c (by omega) (by omega))
      have g5 : w5 = sgfn 17 w2 65536 := (show w5 = sgfn 17 ((1 * w2 + 0) + 0) (0 + 65536) from f5).trans (sgfn_c (by omega) (by omega))
      have g6 : w6 = sgfn 11 w5 0 := (show w6 = sgfn 11 ((1 * w5 + 0) + 0) (0 + 0) from f6).trans (sgfn_c (by omega) (by omega))
      have g7 : w7 = sgfn 8 w6 100 := (show w7 = sgfn 8 ((1 * w6 + 0) + 0) (0 + 100) from f7).trans (sgfn_c (by omega) (by omega))
      have g8 : pL h' (12 * u + 43) 1 = u0 := by
        rw [← (show ((0 + 1 : Int)).toNat = 1 from by omega)]
        exact f8
      have j0 : u0 = w2 := (show u0 = (1 * w2 + 0) + 0 from z6 (15, ([(9, 1)], 0)) (List.mem_of_getElem? (i := 0) rfl)).trans (by omega)
      have c0 : 0 ≤ -dm + w7 := by have q_ : (0 : Int) ≤ ((-1) * dm + (1 * w7 + 0)) + 0 := z4 ([(0, (-1)), (14, 1)], 0) (List.mem_of_getElem? (i := 0) rfl); omega
      have n0 : w4 ≠ 1 := fun e_ => z5 (([(11, 1)], 0), ([], 1)) (List.mem_of_getElem? (i := 0) rfl) (by show (1 * w4 + 0) + 0 = 0 + 1; omega)
      have n1 : bd ≠ 0 := fun e_ => z5 (([(1, 1)], 0), ([], 0)) (List.mem_of_getElem? (i := 1) rfl) (by show (1 * bd + 0) + 0 = 0 + 0; omega)
      have k0 : pI h' (12 * u + 43) 3 = w := (show pI h' (12 * u + 43) 3 = (1 * w + 0) + 0 from z1 ((12 * u + 43), (none, 3), ([(5, 1)], 0)) (List.mem_of_getElem? (i := 0) rfl)).trans (by omega)
      have o0 : zget lo' 0 = some (.ref 61) := locR (p2 (0, .inr (.inl 61)) (List.mem_of_getElem? (i := 0) rfl))
      have o1 : zget lo' 1 = some (.ref (12 * u + 43)) := locR (p2 (1, .inr (.inl (12 * u + 43))) (List.mem_of_getElem? (i := 1) rfl))
      have o2 : zI lo' 2 dm := zI_of (p2 (2, .inl sf32) (List.mem_of_getElem? (i := 2) rfl)) (z3 (2, ([(0, 1)], 0)) (List.mem_of_getElem? (i := 0) rfl)) (show (1 * dm + 0) + 0 = dm from by omega)
      have o3 : zI lo' 3 bd := zI_of (p2 (3, .inl sf32) (List.mem_of_getElem? (i := 3) rfl)) (z3 (3, ([(1, 1)], 0)) (List.mem_of_getElem? (i := 1) rfl)) (show (1 * bd + 0) + 0 = bd from by omega)
      have o4 : zI lo' 4 al := zI_of (p2 (4, .inl sf32) (List.mem_of_getElem? (i := 4) rfl)) (z3 (4, ([(2, 1)], 0)) (List.mem_of_getElem? (i := 2) rfl)) (show (1 * al + 0) + 0 = al from by omega)
      have o5 : zI lo' 5 ((g : Int) + 1) := zI_of (p2 (5, .inl sf32) (List.mem_of_getElem? (i := 5) rfl)) (z3 (5, ([], ((g : Int) + 1))) (List.mem_of_getElem? (i := 3) rfl)) (show 0 + ((g : Int) + 1) = ((g : Int) + 1) from by omega)
      have p1 : _ = [] := p1
      subst p1
      exact hE3 lo' h' w0 w1 w2 w3 w4 w5 w6 w7 u0 hi' hm g0 g1 g2 g3 g4 g5 g6 g7 g8 j0 c0 n0 n1 k0 o0 o1 o2 o3 o4 o5
    rcases List.mem_cons.mp he with rfl | he
    · obtain ⟨p1, p2, -, hz⟩ := hp
      obtain ⟨w0, f0, hz⟩ := hz
      obtain ⟨w1, f1, hz⟩ := hz
      obtain ⟨w2, f2, hz⟩ := hz
      obtain ⟨w3, f3, hz⟩ := hz
      obtain ⟨w4, f4, hz⟩ := hz
      obtain ⟨w5, f5, hz⟩ := hz
      obtain ⟨w6, f6, hz⟩ := hz
      obtain ⟨w7, f7, hz⟩ := hz
      obtain ⟨w8, f8, hz⟩ := hz
      obtain ⟨w9, f9, hz⟩ := hz
      obtain ⟨u0, f10, hz⟩ := hz
      obtain ⟨⟨z1, z2, z3, z4⟩, z5, z6⟩ := hz
      have g0 : w0 = sgfn 3 1 (g : Int) := (show w0 = sgfn 3 (0 + 1) (0 + (g : Int)) from f0).trans (sgfn_c (by omega) (by omega))
      have g1 : w1 = sgfn 0 w w0 := (show w1 = sgfn 0 ((1 * w + 0) + 0) ((1 * w0 + 0) + 0) from f1).trans (sgfn_c (by omega) (by omega))
      have g2 : w2 = sgfn 16 nu 1103515245 := (show w2 = sgfn 16 ((1 * nu + 0) + 0) (0 + 1103515245) from f2).trans (sgfn_c (by omega) (by omega))
      have g3 : w3 = sgfn 19 w2 12345 := (show w3 = sgfn 19 ((1 * w2 + 0) + 0) (0 + 12345) from f3).trans (sgfn_c (by omega) (by omega))
      have g4 : w4 = sgfn 12 w3 2147483647 := (show w4 = sgfn 12 ((1 * w3 + 0) + 0) (0 + 2147483647) from f4).trans (sgfn_c (by omega) (by omega))
      have g5 : w5 = sgfn 4 w (g : Int) := (show w5 = sgfn 4 ((1 * w + 0) + 0) (0 + (g : Int)) from f5).trans (sgfn_c (by omega) (by omega))
      have g6 : w6 = sgfn 2 w5 1 := (show w6 = sgfn 2 ((1 * w5 + 0) + 0) (0 + 1) from f6).trans (sgfn_c (by omega) (by omega))
      have g7 : w7 = sgfn 17 w4 65536 := (show w7 = sgfn 17 ((1 * w4 + 0) + 0) (0 + 65536) from f7).trans (sgfn_c (by omega) (by omega))
      have g8 : w8 = sgfn 11 w7 0 := (show w8 = sgfn 11 ((1 * w7 + 0) + 0) (0 + 0) from f8).trans (sgfn_c (by omega) (by omega))
      have g9 : w9 = sgfn 8 w8 100 := (show w9 = sgfn 8 ((1 * w8 + 0) + 0) (0 + 100) from f9).trans (sgfn_c (by omega) (by omega))
      have g10 : pL h' (12 * u + 43) 1 = u0 := by
        rw [← (show ((0 + 1 : Int)).toNat = 1 from by omega)]
        exact f10
      have j0 : u0 = w4 := (show u0 = (1 * w4 + 0) + 0 from z6 (17, ([(11, 1)], 0)) (List.mem_of_getElem? (i := 0) rfl)).trans (by omega)
      have c0 : 0 ≤ dm - w9 - 1 := by have q_ : (0 : Int) ≤ (1 * dm + ((-1) * w9 + 0)) + (-1) := z4 ([(0, 1), (16, (-1))], (-1)) (List.mem_of_getElem? (i := 0) rfl); omega
      have n0 : w6 ≠ 1 := fun e_ => z5 (([(13, 1)], 0), ([], 1)) (List.mem_of_getElem? (i := 0) rfl) (by show (1 * w6 + 0) + 0 = 0 + 1; omega)
      have n1 : bd ≠ 0 := fun e_ => z5 (([(1, 1)], 0), ([], 0)) (List.mem_of_getElem? (i := 1) rfl) (by show (1 * bd + 0) + 0 = 0 + 0; omega)
      have k0 : pI h' (12 * u + 43) 3 = w1 := (show pI h' (12 * u + 43) 3 = (1 * w1 + 0) + 0 from z1 ((12 * u + 43), (none, 3), ([(8, 1)], 0)) (List.mem_of_getElem? (i := 0) rfl)).trans (by omega)
      have o0 : zget lo' 0 = some (.ref 61) := locR (p2 (0, .inr (.inl 61)) (List.mem_of_getElem? (i := 0) rfl))
      have o1 : zget lo' 1 = some (.ref (12 * u + 43)) := locR (p2 (1, .inr (.inl (12 * u + 43))) (List.mem_of_getElem? (i := 1) rfl))
      have o2 : zI lo' 2 dm := zI_of (p2 (2, .inl sf32) (List.mem_of_getElem? (i := 2) rfl)) (z3 (2, ([(0, 1)], 0)) (List.mem_of_getElem? (i := 0) rfl)) (show (1 * dm + 0) + 0 = dm from by omega)
      have o3 : zI lo' 3 bd := zI_of (p2 (3, .inl sf32) (List.mem_of_getElem? (i := 3) rfl)) (z3 (3, ([(1, 1)], 0)) (List.mem_of_getElem? (i := 1) rfl)) (show (1 * bd + 0) + 0 = bd from by omega)
      have o4 : zI lo' 4 al := zI_of (p2 (4, .inl sf32) (List.mem_of_getElem? (i := 4) rfl)) (z3 (4, ([(2, 1)], 0)) (List.mem_of_getElem? (i := 2) rfl)) (show (1 * al + 0) + 0 = al from by omega)
      have o5 : zI lo' 5 ((g : Int) + 1) := zI_of (p2 (5, .inl sf32) (List.mem_of_getElem? (i := 5) rfl)) (z3 (5, ([], ((g : Int) + 1))) (List.mem_of_getElem? (i := 3) rfl)) (show 0 + ((g : Int) + 1) = ((g : Int) + 1) from by omega)
      have p1 : _ = [] := p1
      subst p1
      exact hE4 lo' h' w0 w1 w2 w3 w4 w5 w6 w7 w8 w9 u0 hi' hm g0 g1 g2 g3 g4 g5 g6 g7 g8 g9 g10 j0 c0 n0 n1 k0 o0 o1 o2 o3 o4 o5
    cases he
  · intro e he r' h' hp hi' hm
    cases he
def kcD2_L (t : Nat) (u : Nat) : List (Nat × sT) := [(0, .inr (.inl 61)), (1, .inr (.inl (12 * u + 43))), (5, .inl (0, 8))]
def kcD2_S (t : Nat) (u : Nat) : List sT := []
def kcD2_A (t : Nat) (u : Nat) : sAs := ([], [(61, 0, (17 * t + 9))], [], [])
def kcD2_P (t : Nat) (u : Nat) : List sP0 := [((17 * t + 12), (none, 3), (0, 8))]
def kcD2_G (t : Nat) (u : Nat) : List sP0 := []
def kcD2_B (t : Nat) (u : Nat) : List (Nat × Nat × Int) := [(0, 1, 0)]
def kcD2_m (t : Nat) (u : Nat) : sM := []
def kcD2_r0 (t : Nat) (u : Nat) : sXr := (none, sA0, [], ([], [], [], []), [], [])
theorem kcD2_b : ((List.range 2).all fun t => ((List.range 2).all fun u => syeB swC sT0 (kcD2_m t u) 400 0 105 (kcD2_L t u) (kcD2_S t u) (kcD2_A t u) (kcD2_P t u) (kcD2_G t u) (kcD2_B t u) 68 [] [kcD2_r0 t u])) = true := by decide +kernel
theorem kcD2 {l : Launch} {Γ : zG} {d : Nat} (hd : 0 ≤ d) {Kp : Option Value → zH → Prop} {lo : zL} {h : zH} {t : Nat} (h_t : t < 2) {u : Nat} (h_u : u < 2) {ri n : Int} (hi : sInv swC h) (b_ri : 0 ≤ ri ∧ ri ≤ 8) (b_n : 0 ≤ n ∧ n ≤ 8) (l0 : zget lo 0 = some (.ref 61)) (l1 : zget lo 1 = some (.ref (12 * u + 43))) (l5 : zI lo 5 ri) (p_n : pI h (17 * t + 12) 3 = n) (q0 : h.2.2.2 61 0 = some (17 * t + 9)) (d0 : 0 ≤ ri - n)
    (hR0 : ∀ (h' : zH), sInv swC h' → sMd (kcD2_m t u) h h' → Kp none h') : zX l Γ false (d + 1) (zhd 105) (zMQ' Γ false (zhd 105) Kp) 0 0 68 lo [] h := by
  refine sye_ok (mi := 105) (pc := 68) (fun i => [ri, n].getD i 0) (zall_r (zall_r kcD2_b h_t) h_u) (fun _ _ hc _ => nomatch hc) hd ⟨l0, l1, zIm l5 (by show 0 ≤ ri; omega) (by show ri ≤ 8; omega), trivial⟩ rfl ⟨(fun _ hc => nomatch hc), (sfm q0 (fun _ hc => nomatch hc)), (fun _ hc => nomatch hc), Or.inl rfl⟩ ⟨⟨p_n, by show 0 ≤ n; omega, by show n ≤ 8; omega⟩, trivial⟩ trivial (sfm d0 (fun _ hc => nomatch hc)) hi ?_ ?_
  · intro e he lo' st' h' hp hi' hm
    cases he
  · intro e he r' h' hp hi' hm
    rcases List.mem_cons.mp he with rfl | he
    · obtain ⟨p1, -, hz⟩ := hp
      obtain ⟨⟨z1, z2, z3, z4⟩, z5, z6⟩ := hz
      have p1 : r' = none := p1
      subst p1
      exact hR0 h' hi' hm
    cases he
def kcW0_L (t : Nat) (u : Nat) : List sT := [.inr (.inl 61), .inr (.inl (12 * u + 43))]
def kcW0_A (t : Nat) (u : Nat) : sAs := ([], [(61, 0, (17 * t + 9))], [], [])
def kcW0_P (t : Nat) (u : Nat) : List sP0 := [((17 * t + 22), (none, 2), ((-1), 64))]
def kcW0_G (t : Nat) (u : Nat) : List sP0 := []
def kcW0_B (t : Nat) (u : Nat) : List (Nat × Nat × Int) := []
def kcW0_m (t : Nat) (u : Nat) : sM := []
def kcW0_e0 (t : Nat) (u : Nat) : sXe := (17, [], [(0, .inr (.inl 61)), (1, .inr (.inl (12 * u + 43))), (2, .inl sf32)], sA0, [], ([], [], [(2, ([], 0))], []), [(([(0, 1)], 0), ([], (-1)))], [])
def kcW0_r0 (t : Nat) (u : Nat) : sXr := (none, sA0, [], ([], [], [], [([(0, 1)], 1), ([(0, (-1))], (-1))]), [], [])
theorem kcW0_b : ((List.range 2).all fun t => ((List.range 2).all fun u => syfB swC sT0 (kcW0_m t u) 400 1 109 (kcW0_L t u) (kcW0_A t u) (kcW0_P t u) (kcW0_G t u) (kcW0_B t u) [kcW0_e0 t u] [kcW0_r0 t u])) = true := by decide +kernel
theorem kcW0 {l : Launch} {Γ : zG} {d : Nat} (hd : 1 ≤ d) {Kp : Option Value → zH → Prop} {h : zH} {t : Nat} (h_t : t < 2) {u : Nat} (h_u : u < 2) {fm : Int} (hi : sInv swC h) (b_fm : (-1) ≤ fm ∧ fm ≤ 64) (p_fm : pI h (17 * t + 22) 2 = fm) (q0 : h.2.2.2 61 0 = some (17 * t + 9))
    (hE0 : ∀ (lo' : zL) (h' : zH), sInv swC h' → sMd (kcW0_m t u) h h' → fm ≠ (-1) → zget lo' 0 = some (.ref 61) → zget lo' 1 = some (.ref (12 * u + 43)) → zI lo' 2 0 → zX l Γ false (d + 1) (zhd 109) (zMQ' Γ false (zhd 109) Kp) 0 0 17 lo' [] h')
    (hR0 : ∀ (h' : zH), sInv swC h' → sMd (kcW0_m t u) h h' → fm = (-1) → Kp none h') : zSem l Γ false (d + 1) (zhd 109) [.ref 61, .ref (12 * u + 43)] h Kp := by
  refine syf_ok (mi := 109) (fun i => [fm].getD i 0) (zall_r (zall_r kcW0_b h_t) h_u) (fun _ _ hc _ => nomatch hc) hd ⟨_, _, rfl, rfl, ⟨_, _, rfl, rfl, rfl⟩⟩ ⟨rfl, rfl, trivial⟩ ⟨(fun _ hc => nomatch hc), (sfm q0 (fun _ hc => nomatch hc)), (fun _ hc => nomatch hc), Or.inl rfl⟩ ⟨⟨p_fm, by show (-1) ≤ fm; omega, by show fm ≤ 64; omega⟩, trivial⟩ trivial (fun _ hc => nomatch hc) hi ?_ ?_
  · intro e he lo' st' h' hp hi' hm
    rcases List.mem_cons.mp he with rfl | he
    · obtain ⟨p1, p2, -, hz⟩ := hp
      obtain ⟨⟨z1, z2, z3, z4⟩, z5, z6⟩ := hz
      have n0 : fm ≠ (-1) := fun e_ => z5 (([(0, 1)], 0), ([], (-1))) (List.mem_of_getElem? (i := 0) rfl) (by show (1 * fm + 0) + 0 = 0 + (-1); omega)
      have o0 : zget lo' 0 = some (.ref 61) := locR (p2 (0, .inr (.inl 61)) (List.mem_of_getElem? (i := 0) rfl))
      have o1 : zget lo' 1 = some (.ref (12 * u + 43)) := locR (p2 (1, .inr (.inl (12 * u + 43))) (List.mem_of_getElem? (i := 1) rfl))
      have o2 : zI lo' 2 0 := zI_of (p2 (2, .inl sf32) (List.mem_of_getElem? (i := 2) rfl)) (z3 (2, ([], 0)) (List.mem_of_getElem? (i := 0) rfl)) (show 0 + 0 = 0 from by omega)
      have p1 : _ = [] := p1
      subst p1
      exact hE0 lo' h' hi' hm n0 o0 o1 o2
    cases he
  · intro e he r' h' hp hi' hm
    rcases List.mem_cons.mp he with rfl | he
    · obtain ⟨p1, -, hz⟩ := hp
      obtain ⟨⟨z1, z2, z3, z4⟩, z5, z6⟩ := hz
      have c0 : fm = (-1) := by have q_ : (0 : Int) ≤ (1 * fm + 0) + 1 := z4 ([(0, 1)], 1) (List.mem_of_getElem? (i := 0) rfl); have q2_ : (0 : Int) ≤ ((-1) * fm + 0) + (-1) := z4 ([(0, (-1))], (-1)) (List.mem_of_getElem? (i := 1) rfl); omega
      have p1 : r' = none := p1
      subst p1
      exact hR0 h' hi' hm c0
    cases he
def kcW1_L (t : Nat) (u : Nat) : List (Nat × sT) := [(0, .inr (.inl 61)), (1, .inr (.inl (12 * u + 43))), (2, .inl (0, 7))]
def kcW1_S (t : Nat) (u : Nat) : List sT := []
def kcW1_A (t : Nat) (u : Nat) : sAs := ([], [(61, 0, (17 * t + 9))], [], [])
def kcW1_P (t : Nat) (u : Nat) : List sP0 := [((17 * t + 12), (none, 3), (0, 8))]
def kcW1_G (t : Nat) (u : Nat) : List sP0 := []
def kcW1_B (t : Nat) (u : Nat) : List (Nat × Nat × Int) := [(1, 0, 1)]
def kcW1_m (t : Nat) (u : Nat) : sM := []
def kcW1_e0 (t : Nat) (u : Nat) : sXe := (40, [.inl sf32, .inr (.inl (12 * u + 43)), .inr (.inl 61)], [(0, .inr (.inl 61)), (1, .inr (.inl (12 * u + 43))), (2, .inl sf32)], sA0, [], ([], [(0, ([(0, 1)], 0))], [(2, ([(0, 1)], 0))], []), [], [])
theorem kcW1_b : ((List.range 2).all fun t => ((List.range 2).all fun u => syeB swC sT0 (kcW1_m t u) 400 0 109 (kcW1_L t u) (kcW1_S t u) (kcW1_A t u) (kcW1_P t u) (kcW1_G t u) (kcW1_B t u) 17 [kcW1_e0 t u] [])) = true := by decide +kernel
theorem kcW1 {l : Launch} {Γ : zG} {d : Nat} (hd : 0 ≤ d) {Kp : Option Value → zH → Prop} {lo : zL} {h : zH} {t : Nat} (h_t : t < 2) {u : Nat} (h_u : u < 2) {ri n : Int} (hi : sInv swC h) (b_ri : 0 ≤ ri ∧ ri ≤ 7) (b_n : 0 ≤ n ∧ n ≤ 8) (l0 : zget lo 0 = some (.ref 61)) (l1 : zget lo 1 = some (.ref (12 * u + 43))) (l2 : zI lo 2 ri) (p_n : pI h (17 * t + 12) 3 = n) (q0 : h.2.2.2 61 0 = some (17 * t + 9)) (d0 : 1 ≤ n - ri)
    (hE0 : ∀ (lo' : zL) (h' : zH) (y0 : Int32), sInv swC h' → sMd (kcW1_m t u) h h' → zget lo' 0 = some (.ref 61) → zget lo' 1 = some (.ref (12 * u + 43)) → zI lo' 2 ri → y0.toInt = ri → zX l Γ false (d + 1) (zhd 109) (zMQ' Γ false (zhd 109) Kp) 0 0 40 lo' [.int y0, .ref (12 * u + 43), .ref 61] h') : zX l Γ false (d + 1) (zhd 109) (zMQ' Γ false (zhd 109) Kp) 0 0 17 lo [] h := by
  refine sye_ok (mi := 109) (pc := 17) (fun i => [ri, n].getD i 0) (zall_r (zall_r kcW1_b h_t) h_u) (fun _ _ hc _ => nomatch hc) hd ⟨l0, l1, zIm l2 (by show 0 ≤ ri; omega) (by show ri ≤ 7; omega), trivial⟩ rfl ⟨(fun _ hc => nomatch hc), (sfm q0 (fun _ hc => nomatch hc)), (fun _ hc => nomatch hc), Or.inl rfl⟩ ⟨⟨p_n, by show 0 ≤ n; omega, by show n ≤ 8; omega⟩, trivial⟩ trivial (sfm d0 (fun _ hc => nomatch hc)) hi ?_ ?_
  · intro e he lo' st' h' hp hi' hm
    rcases List.mem_cons.mp he with rfl | he
    · obtain ⟨p1, p2, -, hz⟩ := hp
      obtain ⟨⟨z1, z2, z3, z4⟩, z5, z6⟩ := hz
      have o0 : zget lo' 0 = some (.ref 61) := locR (p2 (0, .inr (.inl 61)) (List.mem_of_getElem? (i := 0) rfl))
      have o1 : zget lo' 1 = some (.ref (12 * u + 43)) := locR (p2 (1, .inr (.inl (12 * u + 43))) (List.mem_of_getElem? (i := 1) rfl))
      have o2 : zI lo' 2 ri := zI_of (p2 (2, .inl sf32) (List.mem_of_getElem? (i := 2) rfl)) (z3 (2, ([(0, 1)], 0)) (List.mem_of_getElem? (i := 0) rfl)) (show (1 * ri + 0) + 0 = ri from by omega)
      obtain ⟨_, _, rfl, ⟨y0, rfl, -⟩, p1⟩ := p1
      obtain ⟨_, _, rfl, hr, p1⟩ := p1
      have hr : _ = Value.ref (12 * u + 43) := hr
      subst hr
      obtain ⟨_, _, rfl, hr, p1⟩ := p1
      have hr : _ = Value.ref 61 := hr
      subst hr
      have p1 : _ = [] := p1
      subst p1
      obtain ⟨v_, ev, hv⟩ := z2 (0, ([(0, 1)], 0)) (List.mem_of_getElem? (i := 0) rfl)
      cases ev
      have s0 : y0.toInt = ri := (show y0.toInt = (1 * ri + 0) + 0 from hv).trans (by omega)
      exact hE0 lo' h' y0 hi' hm o0 o1 o2 s0
    cases he
  · intro e he r' h' hp hi' hm
    cases he
def kcW2_L (g : Nat) (t : Nat) (u : Nat) : List (Nat × sT) := [(0, .inr (.inl 61)), (1, .inr (.inl (12 * u + 43))), (2, .inl ((g : Int), (g : Int)))]
def kcW2_S (g : Nat) (t : Nat) (u : Nat) : List sT := []
def kcW2_A (g : Nat) (t : Nat) (u : Nat) : sAs := ([], [(61, 0, (17 * t + 9))], [], [])
def kcW2_P (g : Nat) (t : Nat) (u : Nat) : List sP0 := [((12 * u + 45), (none, ((g : Nat) : Int)), (0, 999))]
def kcW2_G (g : Nat) (t : Nat) (u : Nat) : List sP0 := []
def kcW2_B (g : Nat) (t : Nat) (u : Nat) : List (Nat × Nat × Int) := []
def kcW2_m (g : Nat) (t : Nat) (u : Nat) : sM := []
def kcW2_e0 (g : Nat) (t : Nat) (u : Nat) : sXe := (63, [.inl sf32, .inr (.inl (17 * t + 20)), .inl sf32, .inl sf32, .inl sf32, .inr (.inl (12 * u + 45))], [(0, .inr (.inl 61)), (1, .inr (.inl (12 * u + 43))), (2, .inl sf32)], sA0, [], ([], [(0, ([], 2)), (2, ([(1, 1)], 0)), (3, ([], 0)), (4, ([], (g : Int)))], [(2, ([], (g : Int)))], []), [], [])
theorem kcW2_b : ((List.range 8).all fun g => ((List.range 2).all fun t => ((List.range 2).all fun u => syeB swC sT0 (kcW2_m g t u) 400 0 109 (kcW2_L g t u) (kcW2_S g t u) (kcW2_A g t u) (kcW2_P g t u) (kcW2_G g t u) (kcW2_B g t u) 43 [kcW2_e0 g t u] []))) = true := by decide +kernel
theorem kcW2 {l : Launch} {Γ : zG} {d : Nat} (hd : 0 ≤ d) {Kp : Option Value → zH → Prop} {lo : zL} {h : zH} {g : Nat} (h_g : g < 8) {t : Nat} (h_t : t < 2) {u : Nat} (h_u : u < 2) {b : Int} (hi : sInv swC h) (b_b : 0 ≤ b ∧ b ≤ 999) (l0 : zget lo 0 = some (.ref 61)) (l1 : zget lo 1 = some (.ref (12 * u + 43))) (l2 : zI lo 2 (g : Int)) (p_b : pI h (12 * u + 45) g = b) (q0 : h.2.2.2 61 0 = some (17 * t + 9))
    (hE0 : ∀ (lo' : zL) (h' : zH) (y0 : Int32) (y2 : Int32) (y3 : Int32) (y4 : Int32), sInv swC h' → sMd (kcW2_m g t u) h h' → zget lo' 0 = some (.ref 61) → zget lo' 1 = some (.ref (12 * u + 43)) → zI lo' 2 (g : Int) → y0.toInt = 2 → y2.toInt = b → y3.toInt = 0 → y4.toInt = (g : Int) → zX l Γ false (d + 1) (zhd 109) (zMQ' Γ false (zhd 109) Kp) 0 0 63 lo' [.int y0, .ref (17 * t + 20), .int y2, .int y3, .int y4, .ref (12 * u + 45)] h') : zX l Γ false (d + 1) (zhd 109) (zMQ' Γ false (zhd 109) Kp) 0 0 43 lo [] h := by
  refine sye_ok (mi := 109) (pc := 43) (fun i => [(g : Int), b].getD i 0) (zall_r (zall_r (zall_r kcW2_b h_g) h_t) h_u) (fun _ _ hc _ => nomatch hc) hd ⟨l0, l1, zIm l2 (by show (g : Int) ≤ (g : Int); omega) (by show (g : Int) ≤ (g : Int); omega), trivial⟩ rfl ⟨(fun _ hc => nomatch hc), (sfm q0 (fun _ hc => nomatch hc)), (fun _ hc => nomatch hc), Or.inl rfl⟩ ⟨⟨p_b, by show 0 ≤ b; omega, by show b ≤ 999; omega⟩, trivial⟩ trivial (fun _ hc => nomatch hc) hi ?_ ?_
  · intro e he lo' st' h' hp hi' hm
    rcases List.mem_cons.mp he with rfl | he
    · obtain ⟨p1, p2, -, hz⟩ := hp
      obtain ⟨⟨z1, z2, z3, z4⟩, z5, z6⟩ := hz
      have o0 : zget lo' 0 = some (.ref 61) := locR (p2 (0, .inr (.inl 61)) (List.mem_of_getElem? (i := 0) rfl))
      have o1 : zget lo' 1 = some (.ref (12 * u + 43)) := locR (p2 (1, .inr (.inl (12 * u + 43))) (List.mem_of_getElem? (i := 1) rfl))
      have o2 : zI lo' 2 (g : Int) := zI_of (p2 (2, .inl sf32) (List.mem_of_getElem? (i := 2) rfl)) (z3 (2, ([], (g : Int))) (List.mem_of_getElem? (i := 0) rfl)) (show 0 + (g : Int) = (g : Int) from by omega)
      obtain ⟨_, _, rfl, ⟨y0, rfl, -⟩, p1⟩ := p1
      obtain ⟨_, _, rfl, hr, p1⟩ := p1
      have hr : _ = Value.ref (17 * t + 20) := hr
      subst hr
      obtain ⟨_, _, rfl, ⟨y2, rfl, -⟩, p1⟩ := p1
      obtain ⟨_, _, rfl, ⟨y3, rfl, -⟩, p1⟩ := p1
      obtain ⟨_, _, rfl, ⟨y4, rfl, -⟩, p1⟩ := p1
      obtain ⟨_, _, rfl, hr, p1⟩ := p1
      have hr : _ = Value.ref (12 * u + 45) := hr
      subst hr
      have p1 : _ = [] := p1
      subst p1
      obtain ⟨v_, ev, hv⟩ := z2 (0, ([], 2)) (List.mem_of_getElem? (i := 0) rfl)
      cases ev
      have s0 : y0.toInt = 2 := (show y0.toInt = 0 + 2 from hv).trans (by omega)
      obtain ⟨v_, ev, hv⟩ := z2 (2, ([(1, 1)], 0)) (List.mem_of_getElem? (i := 1) rfl)
      cases ev
      have s2 : y2.toInt = b := (show y2.toInt = (1 * b + 0) + 0 from hv).trans (by omega)
      obtain ⟨v_, ev, hv⟩ := z2 (3, ([], 0)) (List.mem_of_getElem? (i := 2) rfl)
      cases ev
      have s3 : y3.toInt = 0 := (show y3.toInt = 0 + 0 from hv).trans (by omega)
      obtain ⟨v_, ev, hv⟩ := z2 (4, ([], (g : Int))) (List.mem_of_getElem? (i := 3) rfl)
      cases ev
      have s4 : y4.toInt = (g : Int) := (show y4.toInt = 0 + (g : Int) from hv).trans (by omega)
      exact hE0 lo' h' y0 y2 y3 y4 hi' hm o0 o1 o2 s0 s2 s3 s4
    cases he
  · intro e he r' h' hp hi' hm
    cases he
def kcW3_L (g : Nat) (u : Nat) : List (Nat × sT) := [(0, .inr (.inl 61)), (1, .inr (.inl (12 * u + 43))), (2, .inl ((g : Int), (g : Int)))]
def kcW3_S (g : Nat) (u : Nat) : List sT := [.inr (.inr sf64), .inl (0, 999), .inl (0, 0), .inl ((g : Int), (g : Int)), .inr (.inl (12 * u + 45))]
def kcW3_A (g : Nat) (u : Nat) : sAs := ([], [], [], [])
def kcW3_P (g : Nat) (u : Nat) : List sP0 := []
def kcW3_G (g : Nat) (u : Nat) : List sP0 := []
def kcW3_B (g : Nat) (u : Nat) : List (Nat × Nat × Int) := []
def kcW3_m (g : Nat) (u : Nat) : sM := [((12 * u + 45), g, (g + 1))]
def kcW3_e0 (g : Nat) (u : Nat) : sXe := (17, [], [(0, .inr (.inl 61)), (1, .inr (.inl (12 * u + 43))), (2, .inl sf32)], sA0, [], ([((12 * u + 45), (none, ((g : Nat) : Int)), ([(2, 1)], 0))], [], [(2, ([], ((g : Int) + 1)))], [([(2, 1)], (-1)), ([(1, 1)], 9223372036854775808), ([(1, (-1))], (-9223372036854775808))]), [], [])
def kcW3_e1 (g : Nat) (u : Nat) : sXe := (17, [], [(0, .inr (.inl 61)), (1, .inr (.inl (12 * u + 43))), (2, .inl sf32)], sA0, [], ([((12 * u + 45), (none, ((g : Nat) : Int)), ([], 0))], [], [(2, ([], ((g : Int) + 1)))], [([(2, (-1))], 0), ([(1, 1)], 9223372036854775808), ([(1, (-1))], (-9223372036854775808))]), [], [])
def kcW3_e2 (g : Nat) (u : Nat) : sXe := (17, [], [(0, .inr (.inl 61)), (1, .inr (.inl (12 * u + 43))), (2, .inl sf32)], sA0, [], ([((12 * u + 45), (none, ((g : Nat) : Int)), ([(1, (-1)), (2, 1)], 0))], [], [(2, ([], ((g : Int) + 1)))], [([(1, 1)], 9223372036854775807), ([(1, 1)], 0), ([(1, (-1))], 99), ([(1, (-1)), (2, 1)], (-1))]), [], [])
def kcW3_e3 (g : Nat) (u : Nat) : sXe := (17, [], [(0, .inr (.inl 61)), (1, .inr (.inl (12 * u + 43))), (2, .inl sf32)], sA0, [], ([((12 * u + 45), (none, ((g : Nat) : Int)), ([], 0))], [], [(2, ([], ((g : Int) + 1)))], [([(1, 1)], 9223372036854775807), ([(1, 1)], 0), ([(1, (-1))], 99), ([(1, 1), (2, (-1))], 0)]), [], [])
def kcW3_e4 (g : Nat) (u : Nat) : sXe := (17, [], [(0, .inr (.inl 61)), (1, .inr (.inl (12 * u + 43))), (2, .inl sf32)], sA0, [], ([((12 * u + 45), (none, ((g : Nat) : Int)), ([(2, 1)], (-99)))], [], [(2, ([], ((g : Int) + 1)))], [([(1, 1)], 9223372036854775807), ([(1, 1)], 0), ([(1, 1)], (-100)), ([(2, 1)], (-100))]), [], [])
def kcW3_e5 (g : Nat) (u : Nat) : sXe := (17, [], [(0, .inr (.inl 61)), (1, .inr (.inl (12 * u + 43))), (2, .inl sf32)], sA0, [], ([((12 * u + 45), (none, ((g : Nat) : Int)), ([], 0))], [], [(2, ([], ((g : Int) + 1)))], [([(1, 1)], 9223372036854775807), ([(1, 1)], 0), ([(1, 1)], (-100)), ([(2, (-1))], 99)]), [], [])
def kcW3_e6 (g : Nat) (u : Nat) : sXe := (17, [], [(0, .inr (.inl 61)), (1, .inr (.inl (12 * u + 43))), (2, .inl sf32)], sA0, [], ([((12 * u + 45), (none, ((g : Nat) : Int)), ([(2, 1)], 0))], [], [(2, ([], ((g : Int) + 1)))], [([(1, 1)], 9223372036854775807), ([(1, (-1))], (-1)), ([(2, 1)], (-1))]), [], [])
def kcW3_e7 (g : Nat) (u : Nat) : sXe := (17, [], [(0, .inr (.inl 61)), (1, .inr (.inl (12 * u + 43))), (2, .inl sf32)], sA0, [], ([((12 * u + 45), (none, ((g : Nat) : Int)), ([], 0))], [], [(2, ([], ((g : Int) + 1)))], [([(1, 1)], 9223372036854775807), ([(1, (-1))], (-1)), ([(2, (-1))], 0)]), [], [])
theorem kcW3_b : ((List.range 8).all fun g => ((List.range 2).all fun u => syeB swC sT0 (kcW3_m g u) 400 1 109 (kcW3_L g u) (kcW3_S g u) (kcW3_A g u) (kcW3_P g u) (kcW3_G g u) (kcW3_B g u) 66 [kcW3_e0 g u, kcW3_e1 g u, kcW3_e2 g u, kcW3_e3 g u, kcW3_e4 g u, kcW3_e5 g u, kcW3_e6 g u, kcW3_e7 g u] [])) = true := by decide +kernel
theorem kcW3 {l : Launch} {Γ : zG} {d : Nat} (hd : 1 ≤ d) {Kp : Option Value → zH → Prop} {lo : zL} {h : zH} {g : Nat} (h_g : g < 8) {u : Nat} (h_u : u < 2) {y b : Int} (hi : sInv swC h) (b_y : (-9223372036854775808) ≤ y ∧ y ≤ 9223372036854775807) (b_b : 0 ≤ b ∧ b ≤ 999) (l0 : zget lo 0 = some (.ref 61)) (l1 : zget lo 1 = some (.ref (12 * u + 43))) (l2 : zI lo 2 (g : Int)) {x_y : Int64} (e_y : x_y.toInt = y) {x_b : Int32} (e_b : x_b.toInt = b) {x_z : Int32} (e_z : x_z.toInt = 0) {x_g3 : Int32} (e_g3 : x_g3.toInt = (g : Int))
    (hE0 : ∀ (lo' : zL) (h' : zH), sInv swC h' → sMd (kcW3_m g u) h h' → 0 ≤ b - 1 → y = (-9223372036854775808) → pI h' (12 * u + 45) g = b → zget lo' 0 = some (.ref 61) → zget lo' 1 = some (.ref (12 * u + 43)) → zI lo' 2 ((g : Int) + 1) → zX l Γ false (d + 1) (zhd 109) (zMQ' Γ false (zhd 109) Kp) 0 0 17 lo' [] h')
    (hE1 : ∀ (lo' : zL) (h' : zH), sInv swC h' → sMd (kcW3_m g u) h h' → 0 ≤ -b → y = (-9223372036854775808) → pI h' (12 * u + 45) g = 0 → zget lo' 0 = some (.ref 61) → zget lo' 1 = some (.ref (12 * u + 43)) → zI lo' 2 ((g : Int) + 1) → zX l Γ false (d + 1) (zhd 109) (zMQ' Γ false (zhd 109) Kp) 0 0 17 lo' [] h')
    (hE2 : ∀ (lo' : zL) (h' : zH), sInv swC h' → sMd (kcW3_m g u) h h' → 0 ≤ y + 9223372036854775807 → 0 ≤ y → 0 ≤ -y + 99 → 0 ≤ -y + b - 1 → pI h' (12 * u + 45) g = -y + b → zget lo' 0 = some (.ref 61) → zget lo' 1 = some (.ref (12 * u + 43)) → zI lo' 2 ((g : Int) + 1) → zX l Γ false (d + 1) (zhd 109) (zMQ' Γ false (zhd 109) Kp) 0 0 17 lo' [] h')
    (hE3 : ∀ (lo' : zL) (h' : zH), sInv swC h' → sMd (kcW3_m g u) h h' → 0 ≤ y + 9223372036854775807 → 0 ≤ y → 0 ≤ -y + 99 → 0 ≤ y - b → pI h' (12 * u + 45) g = 0 → zget lo' 0 = some (.ref 61) → zget lo' 1 = some (.ref (12 * u + 43)) → zI lo' 2 ((g : Int) + 1) → zX l Γ false (d + 1) (zhd 109) (zMQ' Γ false (zhd 109) Kp) 0 0 17 lo' [] h')
    (hE4 : ∀ (lo' : zL) (h' : zH), sInv swC h' → sMd (kcW3_m g u) h h' → 0 ≤ y + 9223372036854775807 → 0 ≤ y → 0 ≤ y - 100 → 0 ≤ b - 100 → pI h' (12 * u + 45) g = b - 99 → zget lo' 0 = some (.ref 61) → zget lo' 1 = some (.ref (12 * u + 43)) → zI lo' 2 ((g : Int) + 1) → zX l Γ false (d + 1) (zhd 109) (zMQ' Γ false (zhd 109) Kp) 0 0 17 lo' [] h')
    (hE5 : ∀ (lo' : zL) (h' : zH), sInv swC h' → sMd (kcW3_m g u) h h' → 0 ≤ y + 9223372036854775807 → 0 ≤ y → 0 ≤ y - 100 → 0 ≤ -b + 99 → pI h' (12 * u + 45) g = 0 → zget lo' 0 = some (.ref 61) → zget lo' 1 = some (.ref (12 * u + 43)) → zI lo' 2 ((g : Int) + 1) → zX l Γ false (d + 1) (zhd 109) (zMQ' Γ false (zhd 109) Kp) 0 0 17 lo' [] h')
    (hE6 : ∀ (lo' : zL) (h' : zH), sInv swC h' → sMd (kcW3_m g u) h h' → 0 ≤ y + 9223372036854775807 → 0 ≤ -y - 1 → 0 ≤ b - 1 → pI h' (12 * u + 45) g = b → zget lo' 0 = some (.ref 61) → zget lo' 1 = some (.ref (12 * u + 43)) → zI lo' 2 ((g : Int) + 1) → zX l Γ false (d + 1) (zhd 109) (zMQ' Γ false (zhd 109) Kp) 0 0 17 lo' [] h')
    (hE7 : ∀ (lo' : zL) (h' : zH), sInv swC h' → sMd (kcW3_m g u) h h' → 0 ≤ y + 9223372036854775807 → 0 ≤ -y - 1 → 0 ≤ -b → pI h' (12 * u + 45) g = 0 → zget lo' 0 = some (.ref 61) → zget lo' 1 = some (.ref (12 * u + 43)) → zI lo' 2 ((g : Int) + 1) → zX l Γ false (d + 1) (zhd 109) (zMQ' Γ false (zhd 109) Kp) 0 0 17 lo' [] h') : zX l Γ false (d + 1) (zhd 109) (zMQ' Γ false (zhd 109) Kp) 0 0 66 lo [.long x_y, .int x_b, .int x_z, .int x_g3, .ref (12 * u + 45)] h := by
  refine sye_ok (mi := 109) (pc := 66) (fun i => [(g : Int), y, b, 0, (g : Int)].getD i 0) (zall_r (zall_r kcW3_b h_g) h_u) (fun _ _ hc _ => nomatch hc) hd ⟨l0, l1, zIm l2 (by show (g : Int) ≤ (g : Int); omega) (by show (g : Int) ≤ (g : Int); omega), trivial⟩ ⟨x_y, _, rfl, e_y, ⟨by show (-9223372036854775808) ≤ y; omega, by show y ≤ 9223372036854775807; omega⟩, ⟨x_b, _, rfl, e_b, ⟨by show 0 ≤ b; omega, by show b ≤ 999; omega⟩, ⟨x_z, _, rfl, e_z, ⟨by show 0 ≤ 0; omega, by show 0 ≤ 0; omega⟩, ⟨x_g3, _, rfl, e_g3, ⟨by show (g : Int) ≤ (g : Int); omega, by show (g : Int) ≤ (g : Int); omega⟩, ⟨_, rfl, rfl⟩⟩⟩⟩⟩ ⟨(fun _ hc => nomatch hc), (fun _ hc => nomatch hc), (fun _ hc => nomatch hc), Or.inl rfl⟩ trivial trivial (fun _ hc => nomatch hc) hi ?_ ?_
  · intro e he lo' st' h' hp hi' hm
    rcases List.mem_cons.mp he with rfl | he
    · obtain ⟨p1, p2, -, hz⟩ := hp
      obtain ⟨⟨z1, z2, z3, z4⟩, z5, z6⟩ := hz
      have c0 : 0 ≤ b - 1 := by have q_ : (0 : Int) ≤ (1 * b + 0) + (-1) := z4 ([(2, 1)], (-1)) (List.mem_of_getElem? (i := 0) rfl); omega
      have c1 : y = (-9223372036854775808) := by have q_ : (0 : Int) ≤ (1 * y + 0) + 9223372036854775808 := z4 ([(1, 1)], 9223372036854775808) (List.mem_of_getElem? (i := 1) rfl); have q2_ : (0 : Int) ≤ ((-1) * y + 0) + (-9223372036854775808) := z4 ([(1, (-1))], (-9223372036854775808)) (List.mem_of_getElem? (i := 2) rfl); omega
      have k0 : pI h' (12 * u + 45) g = b := (show pI h' (12 * u + 45) g = (1 * b + 0) + 0 from z1 ((12 * u + 45), (none, ((g : Nat) : Int)), ([(2, 1)], 0)) (List.mem_of_getElem? (i := 0) rfl)).trans (by omega)
      have o0 : zget lo' 0 = some (.ref 61) := locR (p2 (0, .inr (.inl 61)) (List.mem_of_getElem? (i := 0) rfl))
      have o1 : zget lo' 1 = some (.ref (12 * u + 43)) := locR (p2 (1, .inr (.inl (12 * u + 43))) (List.mem_of_getElem? (i := 1) rfl))
      have o2 : zI lo' 2 ((g : Int) + 1) := zI_of (p2 (2, .inl sf32) (List.mem_of_getElem? (i := 2) rfl)) (z3 (2, ([], ((g : Int) + 1))) (List.mem_of_getElem? (i := 0) rfl)) (show 0 + ((g : Int) + 1) = ((g : Int) + 1) from by omega)
      have p1 : _ = [] := p1
      subst p1
      exact hE0 lo' h' hi' hm c0 c1 k0 o0 o1 o2
    rcases List.mem_cons.mp he with rfl | he
    · obtain ⟨p1, p2, -, hz⟩ := hp
      obtain ⟨⟨z1, z2, z3, z4⟩, z5, z6⟩ := hz
      have c0 : 0 ≤ -b := by have q_ : (0 : Int) ≤ ((-1) * b + 0) + 0 := z4 ([(2, (-1))], 0) (List.mem_of_getElem? (i := 0) rfl); omega
      have c1 : y = (-9223372036854775808) := by have q_ : (0 : Int) ≤ (1 * y + 0) + 9223372036854775808 := z4 ([(1, 1)], 9223372036854775808) (List.mem_of_getElem? (i := 1) rfl); have q2_ : (0 : Int) ≤ ((-1) * y + 0) + (-9223372036854775808) := z4 ([(1, (-1))], (-9223372036854775808)) (List.mem_of_getElem? (i := 2) rfl); omega
      have k0 : pI h' (12 * u + 45) g = 0 := (show pI h' (12 * u + 45) g = 0 + 0 from z1 ((12 * u + 45), (none, ((g : Nat) : Int)), ([], 0)) (List.mem_of_getElem? (i := 0) rfl)).trans (by omega)
      have o0 : zget lo' 0 = some (.ref 61) := locR (p2 (0, .inr (.inl 61)) (List.mem_of_getElem? (i := 0) rfl))
      have o1 : zget lo' 1 = some (.ref (12 * u + 43)) := locR (p2 (1, .inr (.inl (12 * u + 43))) (List.mem_of_getElem? (i := 1) rfl))
      have o2 : zI lo' 2 ((g : Int) + 1) := zI_of (p2 (2, .inl sf32) (List.mem_of_getElem? (i := 2) rfl)) (z3 (2, ([], ((g : Int) + 1))) (List.mem_of_getElem? (i := 0) rfl)) (show 0 + ((g : Int) + 1) = ((g : Int) + 1) from by omega)
      have p1 : _ = [] := p1
      subst p1
      exact hE1 lo' h' hi' hm c0 c1 k0 o0 o1 o2
    rcases List.mem_cons.mp he with rfl | he
    · obtain ⟨p1, p2, -, hz⟩ := hp
      obtain ⟨⟨z1, z2, z3, z4⟩, z5, z6⟩ := hz
      have c0 : 0 ≤ y + 9223372036854775807 := by have q_ : (0 : Int) ≤ (1 * y + 0) + 9223372036854775807 := z4 ([(1, 1)], 9223372036854775807) (List.mem_of_getElem? (i := 0) rfl); omega
      have c1 : 0 ≤ y := by have q_ : (0 : Int) ≤ (1 * y + 0) + 0 := z4 ([(1, 1)], 0) (List.mem_of_getElem? (i := 1) rfl); omega
      have c2 : 0 ≤ -y + 99 := by have q_ : (0 : Int) ≤ ((-1) * y + 0) + 99 := z4 ([(1, (-1))], 99) (List.mem_of_getElem? (i := 2) rfl); omega
      have c3 : 0 ≤ -y + b - 1 := by have q_ : (0 : Int) ≤ ((-1) * y + (1 * b + 0)) + (-1) := z4 ([(1, (-1)), (2, 1)], (-1)) (List.mem_of_getElem? (i := 3) rfl); omega
      have k0 : pI h' (12 * u + 45) g = -y + b := (show pI h' (12 * u + 45) g = ((-1) * y + (1 * b + 0)) + 0 from z1 ((12 * u + 45), (none, ((g : Nat) : Int)), ([(1, (-1)), (2, 1)], 0)) (List.mem_of_getElem? (i := 0) rfl)).trans (by omega)
      have o0 : zget lo' 0 = some (.ref 61) := locR (p2 (0, .inr (.inl 61)) (List.mem_of_getElem? (i := 0) rfl))
      have o1 : zget lo' 1 = some (.ref (12 * u + 43)) := locR (p2 (1, .inr (.inl (12 * u + 43))) (List.mem_of_getElem? (i := 1) rfl))
      have o2 : zI lo' 2 ((g : Int) + 1) := zI_of (p2 (2, .inl sf32) (List.mem_of_getElem? (i := 2) rfl)) (z3 (2, ([], ((g : Int) + 1))) (List.mem_of_getElem? (i := 0) rfl)) (show 0 + ((g : Int) + 1) = ((g : Int) + 1) from by omega)
      have p1 : _ = [] := p1
      subst p1
      exact hE2 lo' h' hi' hm c0 c1 c2 c3 k0 o0 o1 o2
    rcases List.mem_cons.mp he with rfl | he
    · obtain ⟨p1, p2, -, hz⟩ := hp
      obtain ⟨⟨z1, z2, z3, z4⟩, z5, z6⟩ := hz
      have c0 : 0 ≤ y + 9223372036854775807 := by have q_ : (0 : Int) ≤ (1 * y + 0) + 9223372036854775807 := z4 ([(1, 1)], 9223372036854775807) (List.mem_of_getElem? (i := 0) rfl); omega
      have c1 : 0 ≤ y := by have q_ : (0 : Int) ≤ (1 * y + 0) + 0 := z4 ([(1, 1)], 0) (List.mem_of_getElem? (i := 1) rfl); omega
      have c2 : 0 ≤ -y + 99 := by have q_ : (0 : Int) ≤ ((-1) * y + 0) + 99 := z4 ([(1, (-1))], 99) (List.mem_of_getElem? (i := 2) rfl); omega
      have c3 : 0 ≤ y - b := by have q_ : (0 : Int) ≤ (1 * y + ((-1) * b + 0)) + 0 := z4 ([(1, 1), (2, (-1))], 0) (List.mem_of_getElem? (i := 3) rfl); omega
      have k0 : pI h' (12 * u + 45) g = 0 := (show pI h' (12 * u + 45) g = 0 + 0 from z1 ((12 * u + 45), (none, ((g : Nat) : Int)), ([], 0)) (List.mem_of_getElem? (i := 0) rfl)).trans (by omega)
      have o0 : zget lo' 0 = some (.ref 61) := locR (p2 (0, .inr (.inl 61)) (List.mem_of_getElem? (i := 0) rfl))
      have o1 : zget lo' 1 = some (.ref (12 * u + 43)) := locR (p2 (1, .inr (.inl (12 * u + 43))) (List.mem_of_getElem? (i := 1) rfl))
      have o2 : zI lo' 2 ((g : Int) + 1) := zI_of (p2 (2, .inl sf32) (List.mem_of_getElem? (i := 2) rfl)) (z3 (2, ([], ((g : Int) + 1))) (List.mem_of_getElem? (i := 0) rfl)) (show 0 + ((g : Int) + 1) = ((g : Int) + 1) from by omega)
      have p1 : _ = [] := p1
      subst p1
      exact hE3 lo' h' hi' hm c0 c1 c2 c3 k0 o0 o1 o2
    rcases List.mem_cons.mp he with rfl | he
    · obtain ⟨p1, p2, -, hz⟩ := hp
      obtain ⟨⟨z1, z2, z3, z4⟩, z5, z6⟩ := hz
      have c0 : 0 ≤ y + 9223372036854775807 := by have q_ : (0 : Int) ≤ (1 * y + 0) + 9223372036854775807 := z4 ([(1, 1)], 9223372036854775807) (List.mem_of_getElem? (i := 0) rfl); omega
      have c1 : 0 ≤ y := by have q_ : (0 : Int) ≤ (1 * y + 0) + 0 := z4 ([(1, 1)], 0) (List.mem_of_getElem? (i := 1) rfl); omega
      have c2 : 0 ≤ y - 100 := by have q_ : (0 : Int) ≤ (1 * y + 0) + (-100) := z4 ([(1, 1)], (-100)) (List.mem_of_getElem? (i := 2) rfl); omega
      have c3 : 0 ≤ b - 100 := by have q_ : (0 : Int) ≤ (1 * b + 0) + (-100) := z4 ([(2, 1)], (-100)) (List.mem_of_getElem? (i := 3) rfl); omega
      have k0 : pI h' (12 * u + 45) g = b - 99 := (show pI h' (12 * u + 45) g = (1 * b + 0) + (-99) from z1 ((12 * u + 45), (none, ((g : Nat) : Int)), ([(2, 1)], (-99))) (List.mem_of_getElem? (i := 0) rfl)).trans (by omega)
      have o0 : zget lo' 0 = some (.ref 61) := locR (p2 (0, .inr (.inl 61)) (List.mem_of_getElem? (i := 0) rfl))
      have o1 : zget lo' 1 = some (.ref (12 * u + 43)) := locR (p2 (1, .inr (.inl (12 * u + 43))) (List.mem_of_getElem? (i := 1) rfl))
      have o2 : zI lo' 2 ((g : Int) + 1) := zI_of (p2 (2, .inl sf32) (List.mem_of_getElem? (i := 2) rfl)) (z3 (2, ([], ((g : Int) + 1))) (List.mem_of_getElem? (i := 0) rfl)) (show 0 + ((g : Int) + 1) = ((g : Int) + 1) from by omega)
      have p1 : _ = [] := p1
      subst p1
      exact hE4 lo' h' hi' hm c0 c1 c2 c3 k0 o0 o1 o2
    rcases List.mem_cons.mp he with rfl | he
    · obtain ⟨p1, p2, -, hz⟩ := hp
      obtain ⟨⟨z1, z2, z3, z4⟩, z5, z6⟩ := hz
      have c0 : 0 ≤ y + 9223372036854775807 := by have q_ : (0 : Int) ≤ (1 * y + 0) + 9223372036854775807 := z4 ([(1, 1)], 9223372036854775807) (List.mem_of_getElem? (i := 0) rfl); omega
      have c1 : 0 ≤ y := by have q_ : (0 : Int) ≤ (1 * y + 0) + 0 := z4 ([(1, 1)], 0) (List.mem_of_getElem? (i := 1) rfl); omega
      have c2 : 0 ≤ y - 100 := by have q_ : (0 : Int) ≤ (1 * y + 0) + (-100) := z4 ([(1, 1)], (-100)) (List.mem_of_getElem? (i := 2) rfl); omega
      have c3 : 0 ≤ -b + 99 := by have q_ : (0 : Int) ≤ ((-1) * b + 0) + 99 := z4 ([(2, (-1))], 99) (List.mem_of_getElem? (i := 3) rfl); omega
      have k0 : pI h' (12 * u + 45) g = 0 := (show pI h' (12 * u + 45) g = 0 + 0 from z1 ((12 * u + 45), (none, ((g : Nat) : Int)), ([], 0)) (List.mem_of_getElem? (i := 0) rfl)).trans (by omega)
      have o0 : zget lo' 0 = some (.ref 61) := locR (p2 (0, .inr (.inl 61)) (List.mem_of_getElem? (i := 0) rfl))
      have o1 : zget lo' 1 = some (.ref (12 * u + 43)) := locR (p2 (1, .inr (.inl (12 * u + 43))) (List.mem_of_getElem? (i := 1) rfl))
      have o2 : zI lo' 2 ((g : Int) + 1) := zI_of (p2 (2, .inl sf32) (List.mem_of_getElem? (i := 2) rfl)) (z3 (2, ([], ((g : Int) + 1))) (List.mem_of_getElem? (i := 0) rfl)) (show 0 + ((g : Int) + 1) = ((g : Int) + 1) from by omega)
      have p1 : _ = [] := p1
      subst p1
      exact hE5 lo' h' hi' hm c0 c1 c2 c3 k0 o0 o1 o2
    rcases List.mem_cons.mp he with rfl | he
    · obtain ⟨p1, p2, -, hz⟩ := hp
      obtain ⟨⟨z1, z2, z3, z4⟩, z5, z6⟩ := hz
      have c0 : 0 ≤ y + 9223372036854775807 := by have q_ : (0 : Int) ≤ (1 * y + 0) + 9223372036854775807 := z4 ([(1, 1)], 9223372036854775807) (List.mem_of_getElem? (i := 0) rfl); omega
      have c1 : 0 ≤ -y - 1 := by have q_ : (0 : Int) ≤ ((-1) * y + 0) + (-1) := z4 ([(1, (-1))], (-1)) (List.mem_of_getElem? (i := 1) rfl); omega
      have c2 : 0 ≤ b - 1 := by have q_ : (0 : Int) ≤ (1 * b + 0) + (-1) := z4 ([(2, 1)], (-1)) (List.mem_of_getElem? (i := 2) rfl); omega
      have k0 : pI h' (12 * u + 45) g = b := (show pI h' (12 * u + 45) g = (1 * b + 0) + 0 from z1 ((12 * u + 45), (none, ((g : Nat) : Int)), ([(2, 1)], 0)) (List.mem_of_getElem? (i := 0) rfl)).trans (by omega)
      have o0 : zget lo' 0 = some (.ref 61) := locR (p2 (0, .inr (.inl 61)) (List.mem_of_getElem? (i := 0) rfl))
      have o1 : zget lo' 1 = some (.ref (12 * u + 43)) := locR (p2 (1, .inr (.inl (12 * u + 43))) (List.mem_of_getElem? (i := 1) rfl))
      have o2 : zI lo' 2 ((g : Int) + 1) := zI_of (p2 (2, .inl sf32) (List.mem_of_getElem? (i := 2) rfl)) (z3 (2, ([], ((g : Int) + 1))) (List.mem_of_getElem? (i := 0) rfl)) (show 0 + ((g : Int) + 1) = ((g : Int) + 1) from by omega)
      have p1 : _ = [] := p1
      subst p1
      exact hE6 lo' h' hi' hm c0 c1 c2 k0 o0 o1 o2
    rcases List.mem_cons.mp he with rfl | he
    · obtain ⟨p1, p2, -, hz⟩ := hp
      obtain ⟨⟨z1, z2, z3, z4⟩, z5, z6⟩ := hz
      have c0 : 0 ≤ y + 9223372036854775807 := by have q_ : (0 : Int) ≤ (1 * y + 0) + 9223372036854775807 := z4 ([(1, 1)], 9223372036854775807) (List.mem_of_getElem? (i := 0) rfl); omega
      have c1 : 0 ≤ -y - 1 := by have q_ : (0 : Int) ≤ ((-1) * y + 0) + (-1) := z4 ([(1, (-1))], (-1)) (List.mem_of_getElem? (i := 1) rfl); omega
      have c2 : 0 ≤ -b := by have q_ : (0 : Int) ≤ ((-1) * b + 0) + 0 := z4 ([(2, (-1))], 0) (List.mem_of_getElem? (i := 2) rfl); omega
      have k0 : pI h' (12 * u + 45) g = 0 := (show pI h' (12 * u + 45) g = 0 + 0 from z1 ((12 * u + 45), (none, ((g : Nat) : Int)), ([], 0)) (List.mem_of_getElem? (i := 0) rfl)).trans (by omega)
      have o0 : zget lo' 0 = some (.ref 61) := locR (p2 (0, .inr (.inl 61)) (List.mem_of_getElem? (i := 0) rfl))
      have o1 : zget lo' 1 = some (.ref (12 * u + 43)) := locR (p2 (1, .inr (.inl (12 * u + 43))) (List.mem_of_getElem? (i := 1) rfl))
      have o2 : zI lo' 2 ((g : Int) + 1) := zI_of (p2 (2, .inl sf32) (List.mem_of_getElem? (i := 2) rfl)) (z3 (2, ([], ((g : Int) + 1))) (List.mem_of_getElem? (i := 0) rfl)) (show 0 + ((g : Int) + 1) = ((g : Int) + 1) from by omega)
      have p1 : _ = [] := p1
      subst p1
      exact hE7 lo' h' hi' hm c0 c1 c2 k0 o0 o1 o2
    cases he
  · intro e he r' h' hp hi' hm
    cases he
def kcW4_L (t : Nat) (u : Nat) : List (Nat × sT) := [(0, .inr (.inl 61)), (1, .inr (.inl (12 * u + 43))), (2, .inl (0, 8))]
def kcW4_S (t : Nat) (u : Nat) : List sT := []
def kcW4_A (t : Nat) (u : Nat) : sAs := ([], [(61, 0, (17 * t + 9))], [], [])
def kcW4_P (t : Nat) (u : Nat) : List sP0 := [((17 * t + 12), (none, 3), (0, 8))]
def kcW4_G (t : Nat) (u : Nat) : List sP0 := []
def kcW4_B (t : Nat) (u : Nat) : List (Nat × Nat × Int) := [(0, 1, 0)]
def kcW4_m (t : Nat) (u : Nat) : sM := []
def kcW4_r0 (t : Nat) (u : Nat) : sXr := (none, sA0, [], ([], [], [], []), [], [])
theorem kcW4_b : ((List.range 2).all fun t => ((List.range 2).all fun u => syeB swC sT0 (kcW4_m t u) 400 0 109 (kcW4_L t u) (kcW4_S t u) (kcW4_A t u) (kcW4_P t u) (kcW4_G t u) (kcW4_B t u) 17 [] [kcW4_r0 t u])) = true := by decide +kernel
theorem kcW4 {l : Launch} {Γ : zG} {d : Nat} (hd : 0 ≤ d) {Kp : Option Value → zH → Prop} {lo : zL} {h : zH} {t : Nat} (h_t : t < 2) {u : Nat} (h_u : u < 2) {ri n : Int} (hi : sInv swC h) (b_ri : 0 ≤ ri ∧ ri ≤ 8) (b_n : 0 ≤ n ∧ n ≤ 8) (l0 : zget lo 0 = some (.ref 61)) (l1 : zget lo 1 = some (.ref (12 * u + 43))) (l2 : zI lo 2 ri) (p_n : pI h (17 * t + 12) 3 = n) (q0 : h.2.2.2 61 0 = some (17 * t + 9)) (d0 : 0 ≤ ri - n)
    (hR0 : ∀ (h' : zH), sInv swC h' → sMd (kcW4_m t u) h h' → Kp none h') : zX l Γ false (d + 1) (zhd 109) (zMQ' Γ false (zhd 109) Kp) 0 0 17 lo [] h := by
  refine sye_ok (mi := 109) (pc := 17) (fun i => [ri, n].getD i 0) (zall_r (zall_r kcW4_b h_t) h_u) (fun _ _ hc _ => nomatch hc) hd ⟨l0, l1, zIm l2 (by show 0 ≤ ri; omega) (by show ri ≤ 8; omega), trivial⟩ rfl ⟨(fun _ hc => nomatch hc), (sfm q0 (fun _ hc => nomatch hc)), (fun _ hc => nomatch hc), Or.inl rfl⟩ ⟨⟨p_n, by show 0 ≤ n; omega, by show n ≤ 8; omega⟩, trivial⟩ trivial (sfm d0 (fun _ hc => nomatch hc)) hi ?_ ?_
  · intro e he lo' st' h' hp hi' hm
    cases he
  · intro e he r' h' hp hi' hm
    rcases List.mem_cons.mp he with rfl | he
    · obtain ⟨p1, -, hz⟩ := hp
      obtain ⟨⟨z1, z2, z3, z4⟩, z5, z6⟩ := hz
      have p1 : r' = none := p1
      subst p1
      exact hR0 h' hi' hm
    cases he
def kcM0_L (u : Nat) : List sT := [.inr (.inl 61), .inr (.inl (12 * u + 43)), .inl sf32]
def kcM0_A (u : Nat) : sAs := ([], [], [], [])
def kcM0_P (u : Nat) : List sP0 := []
def kcM0_G (u : Nat) : List sP0 := []
def kcM0_B (u : Nat) : List (Nat × Nat × Int) := []
def kcM0_m (u : Nat) : sM := []
def kcM0_e0 (u : Nat) : sXe := (2, [], [(0, .inr (.inl 61)), (1, .inr (.inl (12 * u + 43))), (2, .inl sf32), (3, .inl sf32)], sA0, [], ([], [], [(2, ([(0, 1)], 0)), (3, ([], 0))], []), [], [])
theorem kcM0_b : ((List.range 2).all fun u => syfB swC sT0 (kcM0_m u) 400 0 100 (kcM0_L u) (kcM0_A u) (kcM0_P u) (kcM0_G u) (kcM0_B u) [kcM0_e0 u] []) = true := by decide +kernel
theorem kcM0 {l : Launch} {Γ : zG} {d : Nat} (hd : 0 ≤ d) {Kp : Option Value → zH → Prop} {h : zH} {u : Nat} (h_u : u < 2) {n : Int} (hi : sInv swC h) (b_n : (-2147483648) ≤ n ∧ n ≤ 2147483647) {x_n : Int32} (e_n : x_n.toInt = n)
    (hE0 : ∀ (lo' : zL) (h' : zH), sInv swC h' → sMd (kcM0_m u) h h' → zget lo' 0 = some (.ref 61) → zget lo' 1 = some (.ref (12 * u + 43)) → zI lo' 2 n → zI lo' 3 0 → zX l Γ false (d + 1) (zhd 100) (zMQ' Γ false (zhd 100) Kp) 0 0 2 lo' [] h') : zSem l Γ false (d + 1) (zhd 100) [.ref 61, .ref (12 * u + 43), .int x_n] h Kp := by
  refine syf_ok (mi := 100) (fun i => [n].getD i 0) (zall_r kcM0_b h_u) (fun _ _ hc _ => nomatch hc) hd ⟨_, _, rfl, rfl, ⟨_, _, rfl, rfl, ⟨_, _, rfl, ⟨x_n, rfl, by show (-2147483648) ≤ x_n.toInt; omega, by show x_n.toInt ≤ 2147483647; omega⟩, rfl⟩⟩⟩ ⟨rfl, rfl, ⟨x_n, rfl, e_n, by show (-2147483648) ≤ n; omega, by show n ≤ 2147483647; omega⟩, trivial⟩ ⟨(fun _ hc => nomatch hc), (fun _ hc => nomatch hc), (fun _ hc => nomatch hc), Or.inl rfl⟩ trivial trivial (fun _ hc => nomatch hc) hi ?_ ?_
  · intro e he lo' st' h' hp hi' hm
    rcases List.mem_cons.mp he with rfl | he
    · obtain ⟨p1, p2, -, hz⟩ := hp
      obtain ⟨⟨z1, z2, z3, z4⟩, z5, z6⟩ := hz
      have o0 : zget lo' 0 = some (.ref 61) := locR (p2 (0, .inr (.inl 61)) (List.mem_of_getElem? (i := 0) rfl))
      have o1 : zget lo' 1 = some (.ref (12 * u + 43)) := locR (p2 (1, .inr (.inl (12 * u + 43))) (List.mem_of_getElem? (i := 1) rfl))
      have o2 : zI lo' 2 n := zI_of (p2 (2, .inl sf32) (List.mem_of_getElem? (i := 2) rfl)) (z3 (2, ([(0, 1)], 0)) (List.mem_of_getElem? (i := 0) rfl)) (show (1 * n + 0) + 0 = n from by omega)
      have o3 : zI lo' 3 0 := zI_of (p2 (3, .inl sf32) (List.mem_of_getElem? (i := 3) rfl)) (z3 (3, ([], 0)) (List.mem_of_getElem? (i := 1) rfl)) (show 0 + 0 = 0 from by omega)
      have p1 : _ = [] := p1
      subst p1
      exact hE0 lo' h' hi' hm o0 o1 o2 o3
    cases he
  · intro e he r' h' hp hi' hm
    cases he
def kcM1_L (u : Nat) : List (Nat × sT) := [(0, .inr (.inl 61)), (1, .inr (.inl (12 * u + 43))), (2, .inl sf32), (3, .inl (0, 200))]
def kcM1_S (u : Nat) : List sT := []
def kcM1_A (u : Nat) : sAs := ([], [], [], [])
def kcM1_P (u : Nat) : List sP0 := [(61, (none, 2), sf32)]
def kcM1_G (u : Nat) : List sP0 := []
def kcM1_B (u : Nat) : List (Nat × Nat × Int) := []
def kcM1_m (u : Nat) : sM := []
def kcM1_e0 (u : Nat) : sXe := (22, [.inr (.inl (12 * u + 43)), .inr (.inl 61)], [(0, .inr (.inl 61)), (1, .inr (.inl (12 * u + 43))), (2, .inl sf32), (3, .inl sf32)], sA0, [], ([], [], [(2, ([(0, 1)], 0)), (3, ([(1, 1)], 0))], [([(0, 1), (1, (-1))], (-1)), ([(2, 1)], (-4)), ([(2, (-1))], 4)]), [], [])
def kcM1_e1 (u : Nat) : sXe := (17, [.inr (.inl (12 * u + 43)), .inr (.inl 61)], [(0, .inr (.inl 61)), (1, .inr (.inl (12 * u + 43))), (2, .inl sf32), (3, .inl sf32)], sA0, [], ([], [], [(2, ([(0, 1)], 0)), (3, ([(1, 1)], 0))], [([(0, 1), (1, (-1))], (-1))]), [(([(2, 1)], 0), ([], 4))], [])
def kcM1_r0 (u : Nat) : sXr := (none, sA0, [], ([], [], [], [([(0, (-1)), (1, 1)], 0)]), [], [])
theorem kcM1_b : ((List.range 2).all fun u => syeB swC sT0 (kcM1_m u) 400 0 100 (kcM1_L u) (kcM1_S u) (kcM1_A u) (kcM1_P u) (kcM1_G u) (kcM1_B u) 2 [kcM1_e0 u, kcM1_e1 u] [kcM1_r0 u]) = true := by decide +kernel
theorem kcM1 {l : Launch} {Γ : zG} {d : Nat} (hd : 0 ≤ d) {Kp : Option Value → zH → Prop} {lo : zL} {h : zH} {u : Nat} (h_u : u < 2) {n k lf : Int} (hi : sInv swC h) (b_n : (-2147483648) ≤ n ∧ n ≤ 2147483647) (b_k : 0 ≤ k ∧ k ≤ 200) (b_lf : (-2147483648) ≤ lf ∧ lf ≤ 2147483647) (l0 : zget lo 0 = some (.ref 61)) (l1 : zget lo 1 = some (.ref (12 * u + 43))) (l2 : zI lo 2 n) (l3 : zI lo 3 k) (p_lf : pI h 61 2 = lf)
    (hE0 : ∀ (lo' : zL) (h' : zH), sInv swC h' → sMd (kcM1_m u) h h' → 0 ≤ n - k - 1 → lf = 4 → zget lo' 0 = some (.ref 61) → zget lo' 1 = some (.ref (12 * u + 43)) → zI lo' 2 n → zI lo' 3 k → zX l Γ false (d + 1) (zhd 100) (zMQ' Γ false (zhd 100) Kp) 0 0 22 lo' [.ref (12 * u + 43), .ref 61] h')
    (hE1 : ∀ (lo' : zL) (h' : zH), sInv swC h' → sMd (kcM1_m u) h h' → 0 ≤ n - k - 1 → lf ≠ 4 → zget lo' 0 = some (.ref 61) → zget lo' 1 = some (.ref (12 * u + 43)) → zI lo' 2 n → zI lo' 3 k → zX l Γ false (d + 1) (zhd 100) (zMQ' Γ false (zhd 100) Kp) 0 0 17 lo' [.ref (12 * u + 43), .ref 61] h')
    (hR0 : ∀ (h' : zH), sInv swC h' → sMd (kcM1_m u) h h' → 0 ≤ -n + k → Kp none h') : zX l Γ false (d + 1) (zhd 100) (zMQ' Γ false (zhd 100) Kp) 0 0 2 lo [] h := by
  refine sye_ok (mi := 100) (pc := 2) (fun i => [n, k, lf].getD i 0) (zall_r kcM1_b h_u) (fun _ _ hc _ => nomatch hc) hd ⟨l0, l1, zIm l2 (by show (-2147483648) ≤ n; omega) (by show n ≤ 2147483647; omega), zIm l3 (by show 0 ≤ k; omega) (by show k ≤ 200; omega), trivial⟩ rfl ⟨(fun _ hc => nomatch hc), (fun _ hc => nomatch hc), (fun _ hc => nomatch hc), Or.inl rfl⟩ ⟨⟨p_lf, by show (-2147483648) ≤ lf; omega, by show lf ≤ 2147483647; omega⟩, trivial⟩ trivial (fun _ hc => nomatch hc) hi ?_ ?_
  · intro e he lo' st' h' hp hi' hm
    rcases List.mem_cons.mp he with rfl | he
    · obtain ⟨p1, p2, -, hz⟩ := hp
      obtain ⟨⟨z1, z2, z3, z4⟩, z5, z6⟩ := hz
      have c0 : 0 ≤ n - k - 1 := by have q_ : (0 : Int) ≤ (1 * n + ((-1) * k + 0)) + (-1) := z4 ([(0, 1), (1, (-1))], (-1)) (List.mem_of_getElem? (i := 0) rfl); omega
      have c1 : lf = 4 := by have q_ : (0 : Int) ≤ (1 * lf + 0) + (-4) := z4 ([(2, 1)], (-4)) (List.mem_of_getElem? (i := 1) rfl); have q2_ : (0 : Int) ≤ ((-1) * lf + 0) + 4 := z4 ([(2, (-1))], 4) (List.mem_of_getElem? (i := 2) rfl); omega
      have o0 : zget lo' 0 = some (.ref 61) := locR (p2 (0, .inr (.inl 61)) (List.mem_of_getElem? (i := 0) rfl))
      have o1 : zget lo' 1 = some (.ref (12 * u + 43)) := locR (p2 (1, .inr (.inl (12 * u + 43))) (List.mem_of_getElem? (i := 1) rfl))
      have o2 : zI lo' 2 n := zI_of (p2 (2, .inl sf32) (List.mem_of_getElem? (i := 2) rfl)) (z3 (2, ([(0, 1)], 0)) (List.mem_of_getElem? (i := 0) rfl)) (show (1 * n + 0) + 0 = n from by omega)
      have o3 : zI lo' 3 k := zI_of (p2 (3, .inl sf32) (List.mem_of_getElem? (i := 3) rfl)) (z3 (3, ([(1, 1)], 0)) (List.mem_of_getElem? (i := 1) rfl)) (show (1 * k + 0) + 0 = k from by omega)
      obtain ⟨_, _, rfl, hr, p1⟩ := p1
      have hr : _ = Value.ref (12 * u + 43) := hr
      subst hr
      obtain ⟨_, _, rfl, hr, p1⟩ := p1
      have hr : _ = Value.ref 61 := hr
      subst hr
      have p1 : _ = [] := p1
      subst p1
      exact hE0 lo' h' hi' hm c0 c1 o0 o1 o2 o3
    rcases List.mem_cons.mp he with rfl | he
    · obtain ⟨p1, p2, -, hz⟩ := hp
      obtain ⟨⟨z1, z2, z3, z4⟩, z5, z6⟩ := hz
      have c0 : 0 ≤ n - k - 1 := by have q_ : (0 : Int) ≤ (1 * n + ((-1) * k + 0)) + (-1) := z4 ([(0, 1), (1, (-1))], (-1)) (List.mem_of_getElem? (i := 0) rfl); omega
      have n0 : lf ≠ 4 := fun e_ => z5 (([(2, 1)], 0), ([], 4)) (List.mem_of_getElem? (i := 0) rfl) (by show (1 * lf + 0) + 0 = 0 + 4; omega)
      have o0 : zget lo' 0 = some (.ref 61) := locR (p2 (0, .inr (.inl 61)) (List.mem_of_getElem? (i := 0) rfl))
      have o1 : zget lo' 1 = some (.ref (12 * u + 43)) := locR (p2 (1, .inr (.inl (12 * u + 43))) (List.mem_of_getElem? (i := 1) rfl))
      have o2 : zI lo' 2 n := zI_of (p2 (2, .inl sf32) (List.mem_of_getElem? (i := 2) rfl)) (z3 (2, ([(0, 1)], 0)) (List.mem_of_getElem? (i := 0) rfl)) (show (1 * n + 0) + 0 = n from by omega)
      have o3 : zI lo' 3 k := zI_of (p2 (3, .inl sf32) (List.mem_of_getElem? (i := 3) rfl)) (z3 (3, ([(1, 1)], 0)) (List.mem_of_getElem? (i := 1) rfl)) (show (1 * k + 0) + 0 = k from by omega)
      obtain ⟨_, _, rfl, hr, p1⟩ := p1
      have hr : _ = Value.ref (12 * u + 43) := hr
      subst hr
      obtain ⟨_, _, rfl, hr, p1⟩ := p1
      have hr : _ = Value.ref 61 := hr
      subst hr
      have p1 : _ = [] := p1
      subst p1
      exact hE1 lo' h' hi' hm c0 n0 o0 o1 o2 o3
    cases he
  · intro e he r' h' hp hi' hm
    rcases List.mem_cons.mp he with rfl | he
    · obtain ⟨p1, -, hz⟩ := hp
      obtain ⟨⟨z1, z2, z3, z4⟩, z5, z6⟩ := hz
      have c0 : 0 ≤ -n + k := by have q_ : (0 : Int) ≤ ((-1) * n + (1 * k + 0)) + 0 := z4 ([(0, (-1)), (1, 1)], 0) (List.mem_of_getElem? (i := 0) rfl); omega
      have p1 : r' = none := p1
      subst p1
      exact hR0 h' hi' hm c0
    cases he
def kcM2_L (u : Nat) : List (Nat × sT) := [(0, .inr (.inl 61)), (1, .inr (.inl (12 * u + 43))), (2, .inl sf32), (3, .inl (0, 200))]
def kcM2_S (u : Nat) : List sT := []
def kcM2_A (u : Nat) : sAs := ([], [], [], [])
def kcM2_P (u : Nat) : List sP0 := []
def kcM2_G (u : Nat) : List sP0 := []
def kcM2_B (u : Nat) : List (Nat × Nat × Int) := []
def kcM2_m (u : Nat) : sM := []
def kcM2_e0 (u : Nat) : sXe := (22, [.inr (.inl (12 * u + 43)), .inr (.inl 61)], [(0, .inr (.inl 61)), (1, .inr (.inl (12 * u + 43))), (2, .inl sf32), (3, .inl sf32)], sA0, [], ([], [], [(2, ([(0, 1)], 0)), (3, ([(1, 1)], 0))], []), [], [])
theorem kcM2_b : ((List.range 2).all fun u => syeB swC sT0 (kcM2_m u) 400 0 100 (kcM2_L u) (kcM2_S u) (kcM2_A u) (kcM2_P u) (kcM2_G u) (kcM2_B u) 20 [kcM2_e0 u] []) = true := by decide +kernel
theorem kcM2 {l : Launch} {Γ : zG} {d : Nat} (hd : 0 ≤ d) {Kp : Option Value → zH → Prop} {lo : zL} {h : zH} {u : Nat} (h_u : u < 2) {n k : Int} (hi : sInv swC h) (b_n : (-2147483648) ≤ n ∧ n ≤ 2147483647) (b_k : 0 ≤ k ∧ k ≤ 200) (l0 : zget lo 0 = some (.ref 61)) (l1 : zget lo 1 = some (.ref (12 * u + 43))) (l2 : zI lo 2 n) (l3 : zI lo 3 k)
    (hE0 : ∀ (lo' : zL) (h' : zH), sInv swC h' → sMd (kcM2_m u) h h' → zget lo' 0 = some (.ref 61) → zget lo' 1 = some (.ref (12 * u + 43)) → zI lo' 2 n → zI lo' 3 k → zX l Γ false (d + 1) (zhd 100) (zMQ' Γ false (zhd 100) Kp) 0 0 22 lo' [.ref (12 * u + 43), .ref 61] h') : zX l Γ false (d + 1) (zhd 100) (zMQ' Γ false (zhd 100) Kp) 0 0 20 lo [] h := by
  refine sye_ok (mi := 100) (pc := 20) (fun i => [n, k].getD i 0) (zall_r kcM2_b h_u) (fun _ _ hc _ => nomatch hc) hd ⟨l0, l1, zIm l2 (by show (-2147483648) ≤ n; omega) (by show n ≤ 2147483647; omega), zIm l3 (by show 0 ≤ k; omega) (by show k ≤ 200; omega), trivial⟩ rfl ⟨(fun _ hc => nomatch hc), (fun _ hc => nomatch hc), (fun _ hc => nomatch hc), Or.inl rfl⟩ trivial trivial (fun _ hc => nomatch hc) hi ?_ ?_
  · intro e he lo' st' h' hp hi' hm
    rcases List.mem_cons.mp he with rfl | he
    · obtain ⟨p1, p2, -, hz⟩ := hp
      obtain ⟨⟨z1, z2, z3, z4⟩, z5, z6⟩ := hz
      have o0 : zget lo' 0 = some (.ref 61) := locR (p2 (0, .inr (.inl 61)) (List.mem_of_getElem? (i := 0) rfl))
      have o1 : zget lo' 1 = some (.ref (12 * u + 43)) := locR (p2 (1, .inr (.inl (12 * u + 43))) (List.mem_of_getElem? (i := 1) rfl))
      have o2 : zI lo' 2 n := zI_of (p2 (2, .inl sf32) (List.mem_of_getElem? (i := 2) rfl)) (z3 (2, ([(0, 1)], 0)) (List.mem_of_getElem? (i := 0) rfl)) (show (1 * n + 0) + 0 = n from by omega)
      have o3 : zI lo' 3 k := zI_of (p2 (3, .inl sf32) (List.mem_of_getElem? (i := 3) rfl)) (z3 (3, ([(1, 1)], 0)) (List.mem_of_getElem? (i := 1) rfl)) (show (1 * k + 0) + 0 = k from by omega)
      obtain ⟨_, _, rfl, hr, p1⟩ := p1
      have hr : _ = Value.ref (12 * u + 43) := hr
      subst hr
      obtain ⟨_, _, rfl, hr, p1⟩ := p1
      have hr : _ = Value.ref 61 := hr
      subst hr
      have p1 : _ = [] := p1
      subst p1
      exact hE0 lo' h' hi' hm o0 o1 o2 o3
    cases he
  · intro e he r' h' hp hi' hm
    cases he
def kcM3_L (u : Nat) : List (Nat × sT) := [(0, .inr (.inl 61)), (1, .inr (.inl (12 * u + 43))), (2, .inl sf32), (3, .inl (0, 200))]
def kcM3_S (u : Nat) : List sT := []
def kcM3_A (u : Nat) : sAs := ([], [], [], [])
def kcM3_P (u : Nat) : List sP0 := [(61, (none, 2), sf32)]
def kcM3_G (u : Nat) : List sP0 := []
def kcM3_B (u : Nat) : List (Nat × Nat × Int) := []
def kcM3_m (u : Nat) : sM := []
def kcM3_e0 (u : Nat) : sXe := (39, [.inr (.inl (12 * u + 43)), .inr (.inl 61)], [(0, .inr (.inl 61)), (1, .inr (.inl (12 * u + 43))), (2, .inl sf32), (3, .inl sf32)], sA0, [], ([], [], [(2, ([(0, 1)], 0)), (3, ([(1, 1)], 0))], [([(2, 1)], 0), ([(2, (-1))], 0)]), [], [])
def kcM3_e1 (u : Nat) : sXe := (34, [.inr (.inl (12 * u + 43)), .inr (.inl 61)], [(0, .inr (.inl 61)), (1, .inr (.inl (12 * u + 43))), (2, .inl sf32), (3, .inl sf32)], sA0, [], ([], [], [(2, ([(0, 1)], 0)), (3, ([(1, 1)], 0))], []), [(([(2, 1)], 0), ([], 0))], [])
theorem kcM3_b : ((List.range 2).all fun u => syeB swC sT0 (kcM3_m u) 400 0 100 (kcM3_L u) (kcM3_S u) (kcM3_A u) (kcM3_P u) (kcM3_G u) (kcM3_B u) 25 [kcM3_e0 u, kcM3_e1 u] []) = true := by decide +kernel
theorem kcM3 {l : Launch} {Γ : zG} {d : Nat} (hd : 0 ≤ d) {Kp : Option Value → zH → Prop} {lo : zL} {h : zH} {u : Nat} (h_u : u < 2) {n k lf : Int} (hi : sInv swC h) (b_n : (-2147483648) ≤ n ∧ n ≤ 2147483647) (b_k : 0 ≤ k ∧ k ≤ 200) (b_lf : (-2147483648) ≤ lf ∧ lf ≤ 2147483647) (l0 : zget lo 0 = some (.ref 61)) (l1 : zget lo 1 = some (.ref (12 * u + 43))) (l2 : zI lo 2 n) (l3 : zI lo 3 k) (p_lf : pI h 61 2 = lf)
    (hE0 : ∀ (lo' : zL) (h' : zH), sInv swC h' → sMd (kcM3_m u) h h' → lf = 0 → zget lo' 0 = some (.ref 61) → zget lo' 1 = some (.ref (12 * u + 43)) → zI lo' 2 n → zI lo' 3 k → zX l Γ false (d + 1) (zhd 100) (zMQ' Γ false (zhd 100) Kp) 0 0 39 lo' [.ref (12 * u + 43), .ref 61] h')
    (hE1 : ∀ (lo' : zL) (h' : zH), sInv swC h' → sMd (kcM3_m u) h h' → lf ≠ 0 → zget lo' 0 = some (.ref 61) → zget lo' 1 = some (.ref (12 * u + 43)) → zI lo' 2 n → zI lo' 3 k → zX l Γ false (d + 1) (zhd 100) (zMQ' Γ false (zhd 100) Kp) 0 0 34 lo' [.ref (12 * u + 43), .ref 61] h') : zX l Γ false (d + 1) (zhd 100) (zMQ' Γ false (zhd 100) Kp) 0 0 25 lo [] h := by
  refine sye_ok (mi := 100) (pc := 25) (fun i => [n, k, lf].getD i 0) (zall_r kcM3_b h_u) (fun _ _ hc _ => nomatch hc) hd ⟨l0, l1, zIm l2 (by show (-2147483648) ≤ n; omega) (by show n ≤ 2147483647; omega), zIm l3 (by show 0 ≤ k; omega) (by show k ≤ 200; omega), trivial⟩ rfl ⟨(fun _ hc => nomatch hc), (fun _ hc => nomatch hc), (fun _ hc => nomatch hc), Or.inl rfl⟩ ⟨⟨p_lf, by show (-2147483648) ≤ lf; omega, by show lf ≤ 2147483647; omega⟩, trivial⟩ trivial (fun _ hc => nomatch hc) hi ?_ ?_
  · intro e he lo' st' h' hp hi' hm
    rcases List.mem_cons.mp he with rfl | he
    · obtain ⟨p1, p2, -, hz⟩ := hp
      obtain ⟨⟨z1, z2, z3, z4⟩, z5, z6⟩ := hz
      have c0 : lf = 0 := by have q_ : (0 : Int) ≤ (1 * lf + 0) + 0 := z4 ([(2, 1)], 0) (List.mem_of_getElem? (i := 0) rfl); have q2_ : (0 : Int) ≤ ((-1) * lf + 0) + 0 := z4 ([(2, (-1))], 0) (List.mem_of_getElem? (i := 1) rfl); omega
      have o0 : zget lo' 0 = some (.ref 61) := locR (p2 (0, .inr (.inl 61)) (List.mem_of_getElem? (i := 0) rfl))
      have o1 : zget lo' 1 = some (.ref (12 * u + 43)) := locR (p2 (1, .inr (.inl (12 * u + 43))) (List.mem_of_getElem? (i := 1) rfl))
      have o2 : zI lo' 2 n := zI_of (p2 (2, .inl sf32) (List.mem_of_getElem? (i := 2) rfl)) (z3 (2, ([(0, 1)], 0)) (List.mem_of_getElem? (i := 0) rfl)) (show (1 * n + 0) + 0 = n from by omega)
      have o3 : zI lo' 3 k := zI_of (p2 (3, .inl sf32) (List.mem_of_getElem? (i := 3) rfl)) (z3 (3, ([(1, 1)], 0)) (List.mem_of_getElem? (i := 1) rfl)) (show (1 * k + 0) + 0 = k from by omega)
      obtain ⟨_, _, rfl, hr, p1⟩ := p1
      have hr : _ = Value.ref (12 * u + 43) := hr
      subst hr
      obtain ⟨_, _, rfl, hr, p1⟩ := p1
      have hr : _ = Value.ref 61 := hr
      subst hr
      have p1 : _ = [] := p1
      subst p1
      exact hE0 lo' h' hi' hm c0 o0 o1 o2 o3
    rcases List.mem_cons.mp he with rfl | he
    · obtain ⟨p1, p2, -, hz⟩ := hp
      obtain ⟨⟨z1, z2, z3, z4⟩, z5, z6⟩ := hz
      have n0 : lf ≠ 0 := fun e_ => z5 (([(2, 1)], 0), ([], 0)) (List.mem_of_getElem? (i := 0) rfl) (by show (1 * lf + 0) + 0 = 0 + 0; omega)
      have o0 : zget lo' 0 = some (.ref 61) := locR (p2 (0, .inr (.inl 61)) (List.mem_of_getElem? (i := 0) rfl))
      have o1 : zget lo' 1 = some (.ref (12 * u + 43)) := locR (p2 (1, .inr (.inl (12 * u + 43))) (List.mem_of_getElem? (i := 1) rfl))
      have o2 : zI lo' 2 n := zI_of (p2 (2, .inl sf32) (List.mem_of_getElem? (i := 2) rfl)) (z3 (2, ([(0, 1)], 0)) (List.mem_of_getElem? (i := 0) rfl)) (show (1 * n + 0) + 0 = n from by omega)
      have o3 : zI lo' 3 k := zI_of (p2 (3, .inl sf32) (List.mem_of_getElem? (i := 3) rfl)) (z3 (3, ([(1, 1)], 0)) (List.mem_of_getElem? (i := 1) rfl)) (show (1 * k + 0) + 0 = k from by omega)
      obtain ⟨_, _, rfl, hr, p1⟩ := p1
      have hr : _ = Value.ref (12 * u + 43) := hr
      subst hr
      obtain ⟨_, _, rfl, hr, p1⟩ := p1
      have hr : _ = Value.ref 61 := hr
      subst hr
      have p1 : _ = [] := p1
      subst p1
      exact hE1 lo' h' hi' hm n0 o0 o1 o2 o3
    cases he
  · intro e he r' h' hp hi' hm
    cases he
def kcM4_L (u : Nat) : List (Nat × sT) := [(0, .inr (.inl 61)), (1, .inr (.inl (12 * u + 43))), (2, .inl sf32), (3, .inl (0, 200))]
def kcM4_S (u : Nat) : List sT := []
def kcM4_A (u : Nat) : sAs := ([], [], [], [])
def kcM4_P (u : Nat) : List sP0 := []
def kcM4_G (u : Nat) : List sP0 := []
def kcM4_B (u : Nat) : List (Nat × Nat × Int) := []
def kcM4_m (u : Nat) : sM := []
def kcM4_e0 (u : Nat) : sXe := (39, [.inr (.inl (12 * u + 43)), .inr (.inl 61)], [(0, .inr (.inl 61)), (1, .inr (.inl (12 * u + 43))), (2, .inl sf32), (3, .inl sf32)], sA0, [], ([], [], [(2, ([(0, 1)], 0)), (3, ([(1, 1)], 0))], []), [], [])
theorem kcM4_b : ((List.range 2).all fun u => syeB swC sT0 (kcM4_m u) 400 0 100 (kcM4_L u) (kcM4_S u) (kcM4_A u) (kcM4_P u) (kcM4_G u) (kcM4_B u) 37 [kcM4_e0 u] []) = true := by decide +kernel
theorem kcM4 {l : Launch} {Γ : zG} {d : Nat} (hd : 0 ≤ d) {Kp : Option Value → zH → Prop} {lo : zL} {h : zH} {u : Nat} (h_u : u < 2) {n k : Int} (hi : sInv swC h) (b_n : (-2147483648) ≤ n ∧ n ≤ 2147483647) (b_k : 0 ≤ k ∧ k ≤ 200) (l0 : zget lo 0 = some (.ref 61)) (l1 : zget lo 1 = some (.ref (12 * u + 43))) (l2 : zI lo 2 n) (l3 : zI lo 3 k)
    (hE0 : ∀ (lo' : zL) (h' : zH), sInv swC h' → sMd (kcM4_m u) h h' → zget lo' 0 = some (.ref 61) → zget lo' 1 = some (.ref (12 * u + 43)) → zI lo' 2 n → zI lo' 3 k → zX l Γ false (d + 1) (zhd 100) (zMQ' Γ false (zhd 100) Kp) 0 0 39 lo' [.ref (12 * u + 43), .ref 61] h') : zX l Γ false (d + 1) (zhd 100) (zMQ' Γ false (zhd 100) Kp) 0 0 37 lo [] h := by
  refine sye_ok (mi := 100) (pc := 37) (fun i => [n, k].getD i 0) (zall_r kcM4_b h_u) (fun _ _ hc _ => nomatch hc) hd ⟨l0, l1, zIm l2 (by show (-2147483648) ≤ n; omega) (by show n ≤ 2147483647; omega), zIm l3 (by show 0 ≤ k; omega) (by show k ≤ 200; omega), trivial⟩ rfl ⟨(fun _ hc => nomatch hc), (fun _ hc => nomatch hc), (fun _ hc => nomatch hc), Or.inl rfl⟩ trivial trivial (fun _ hc => nomatch hc) hi ?_ ?_
  · intro e he lo' st' h' hp hi' hm
    rcases List.mem_cons.mp he with rfl | he
    · obtain ⟨p1, p2, -, hz⟩ := hp
      obtain ⟨⟨z1, z2, z3, z4⟩, z5, z6⟩ := hz
      have o0 : zget lo' 0 = some (.ref 61) := locR (p2 (0, .inr (.inl 61)) (List.mem_of_getElem? (i := 0) rfl))
      have o1 : zget lo' 1 = some (.ref (12 * u + 43)) := locR (p2 (1, .inr (.inl (12 * u + 43))) (List.mem_of_getElem? (i := 1) rfl))
      have o2 : zI lo' 2 n := zI_of (p2 (2, .inl sf32) (List.mem_of_getElem? (i := 2) rfl)) (z3 (2, ([(0, 1)], 0)) (List.mem_of_getElem? (i := 0) rfl)) (show (1 * n + 0) + 0 = n from by omega)
      have o3 : zI lo' 3 k := zI_of (p2 (3, .inl sf32) (List.mem_of_getElem? (i := 3) rfl)) (z3 (3, ([(1, 1)], 0)) (List.mem_of_getElem? (i := 1) rfl)) (show (1 * k + 0) + 0 = k from by omega)
      obtain ⟨_, _, rfl, hr, p1⟩ := p1
      have hr : _ = Value.ref (12 * u + 43) := hr
      subst hr
      obtain ⟨_, _, rfl, hr, p1⟩ := p1
      have hr : _ = Value.ref 61 := hr
      subst hr
      have p1 : _ = [] := p1
      subst p1
      exact hE0 lo' h' hi' hm o0 o1 o2 o3
    cases he
  · intro e he r' h' hp hi' hm
    cases he
def kcM5_L (u : Nat) : List (Nat × sT) := [(0, .inr (.inl 61)), (1, .inr (.inl (12 * u + 43))), (2, .inl sf32), (3, .inl (0, 200))]
def kcM5_S (u : Nat) : List sT := []
def kcM5_A (u : Nat) : sAs := ([], [], [], [])
def kcM5_P (u : Nat) : List sP0 := [(61, (none, 2), sf32), ((12 * u + 43), (none, 0), (0, 2000000000))]
def kcM5_G (u : Nat) : List sP0 := []
def kcM5_B (u : Nat) : List (Nat × Nat × Int) := []
def kcM5_m (u : Nat) : sM := [((12 * u + 43), 0, 1)]
def kcM5_e0 (u : Nat) : sXe := (2, [], [(0, .inr (.inl 61)), (1, .inr (.inl (12 * u + 43))), (2, .inl sf32), (3, .inl sf32)], sA0, [], ([((12 * u + 43), (none, 0), ([(3, 1)], 1))], [], [(2, ([(0, 1)], 0)), (3, ([(1, 1)], 1))], [([(2, 1)], (-1)), ([(2, (-1))], 1)]), [], [])
def kcM5_e1 (u : Nat) : sXe := (64, [.inr (.inl (12 * u + 43)), .inr (.inl 61)], [(0, .inr (.inl 61)), (1, .inr (.inl (12 * u + 43))), (2, .inl sf32), (3, .inl sf32)], sA0, [(0, 8, ([(3, 1)], 0), ([], 10))], ([((12 * u + 43), (none, 0), ([(3, 1)], 0))], [], [(2, ([(0, 1)], 0)), (3, ([(1, 1)], 0))], [([(4, 1)], (-9)), ([(4, (-1))], 9)]), [(([(2, 1)], 0), ([], 1))], [])
def kcM5_e2 (u : Nat) : sXe := (2, [], [(0, .inr (.inl 61)), (1, .inr (.inl (12 * u + 43))), (2, .inl sf32), (3, .inl sf32)], sA0, [(0, 8, ([(3, 1)], 0), ([], 10))], ([((12 * u + 43), (none, 0), ([(3, 1)], 1))], [], [(2, ([(0, 1)], 0)), (3, ([(1, 1)], 1))], []), [(([(2, 1)], 0), ([], 1)), (([(4, 1)], 0), ([], 9))], [])
theorem kcM5_b : ((List.range 2).all fun u => syeB swC sT0 (kcM5_m u) 400 0 100 (kcM5_L u) (kcM5_S u) (kcM5_A u) (kcM5_P u) (kcM5_G u) (kcM5_B u) 42 [kcM5_e0 u, kcM5_e1 u, kcM5_e2 u] []) = true := by decide +kernel
theorem kcM5 {l : Launch} {Γ : zG} {d : Nat} (hd : 0 ≤ d) {Kp : Option Value → zH → Prop} {lo : zL} {h : zH} {u : Nat} (h_u : u < 2) {n k lf m : Int} (hi : sInv swC h) (b_n : (-2147483648) ≤ n ∧ n ≤ 2147483647) (b_k : 0 ≤ k ∧ k ≤ 200) (b_lf : (-2147483648) ≤ lf ∧ lf ≤ 2147483647) (b_m : 0 ≤ m ∧ m ≤ 2000000000) (l0 : zget lo 0 = some (.ref 61)) (l1 : zget lo 1 = some (.ref (12 * u + 43))) (l2 : zI lo 2 n) (l3 : zI lo 3 k) (p_lf : pI h 61 2 = lf) (p_m : pI h (12 * u + 43) 0 = m)
    (hE0 : ∀ (lo' : zL) (h' : zH), sInv swC h' → sMd (kcM5_m u) h h' → lf = 1 → pI h' (12 * u + 43) 0 = m + 1 → zget lo' 0 = some (.ref 61) → zget lo' 1 = some (.ref (12 * u + 43)) → zI lo' 2 n → zI lo' 3 (k + 1) → zX l Γ false (d + 1) (zhd 100) (zMQ' Γ false (zhd 100) Kp) 0 0 2 lo' [] h')
    (hE1 : ∀ (lo' : zL) (h' : zH) (w0 : Int), sInv swC h' → sMd (kcM5_m u) h h' → w0 = sgfn 8 m 10 → w0 = 9 → lf ≠ 1 → pI h' (12 * u + 43) 0 = m → zget lo' 0 = some (.ref 61) → zget lo' 1 = some (.ref (12 * u + 43)) → zI lo' 2 n → zI lo' 3 k → zX l Γ false (d + 1) (zhd 100) (zMQ' Γ false (zhd 100) Kp) 0 0 64 lo' [.ref (12 * u + 43), .ref 61] h')
    (hE2 : ∀ (lo' : zL) (h' : zH) (w0 : Int), sInv swC h' → sMd (kcM5_m u) h h' → w0 = sgfn 8 m 10 → lf ≠ 1 → w0 ≠ 9 → pI h' (12 * u + 43) 0 = m + 1 → zget lo' 0 = some (.ref 61) → zget lo' 1 = some (.ref (12 * u + 43)) → zI lo' 2 n → zI lo' 3 (k + 1) → zX l Γ false (d + 1) (zhd 100) (zMQ' Γ false (zhd 100) Kp) 0 0 2 lo' [] h') : zX l Γ false (d + 1) (zhd 100) (zMQ' Γ false (zhd 100) Kp) 0 0 42 lo [] h := by
  refine sye_ok (mi := 100) (pc := 42) (fun i => [n, k, lf, m].getD i 0) (zall_r kcM5_b h_u) (fun _ _ hc _ => nomatch hc) hd ⟨l0, l1, zIm l2 (by show (-2147483648) ≤ n; omega) (by show n ≤ 2147483647; omega), zIm l3 (by show 0 ≤ k; omega) (by show k ≤ 200; omega), trivial⟩ rfl ⟨(fun _ hc => nomatch hc), (fun _ hc => nomatch hc), (fun _ hc => nomatch hc), Or.inl rfl⟩ ⟨⟨p_lf, by show (-2147483648) ≤ lf; omega, by show lf ≤ 2147483647; omega⟩, ⟨p_m, by show 0 ≤ m; omega, by show m ≤ 2000000000; omega⟩, trivial⟩ trivial (fun _ hc => nomatch hc) hi ?_ ?_
  · intro e he lo' st' h' hp hi' hm
    rcases List.mem_cons.mp he with rfl | he
    · obtain ⟨p1, p2, -, hz⟩ := hp
      obtain ⟨⟨z1, z2, z3, z4⟩, z5, z6⟩ := hz
      have c0 : lf = 1 := by have q_ : (0 : Int) ≤ (1 * lf + 0) + (-1) := z4 ([(2, 1)], (-1)) (List.mem_of_getElem? (i := 0) rfl); have q2_ : (0 : Int) ≤ ((-1) * lf + 0) + 1 := z4 ([(2, (-1))], 1) (List.mem_of_getElem? (i := 1) rfl); omega
      have k0 : pI h' (12 * u + 43) 0 = m + 1 := (show pI h' (12 * u + 43) 0 = (1 * m + 0) + 1 from z1 ((12 * u + 43), (none, 0), ([(3, 1)], 1)) (List.mem_of_getElem? (i := 0) rfl)).trans (by omega)
      have o0 : zget lo' 0 = some (.ref 61) := locR (p2 (0, .inr (.inl 61)) (List.mem_of_getElem? (i := 0) rfl))
      have o1 : zget lo' 1 = some (.ref (12 * u + 43)) := locR (p2 (1, .inr (.inl (12 * u + 43))) (List.mem_of_getElem? (i := 1) rfl))
      have o2 : zI lo' 2 n := zI_of (p2 (2, .inl sf32) (List.mem_of_getElem? (i := 2) rfl)) (z3 (2, ([(0, 1)], 0)) (List.mem_of_getElem? (i := 0) rfl)) (show (1 * n + 0) + 0 = n from by omega)
      have o3 : zI lo' 3 (k + 1) := zI_of (p2 (3, .inl sf32) (List.mem_of_getElem? (i := 3) rfl)) (z3 (3, ([(1, 1)], 1)) (List.mem_of_getElem? (i := 1) rfl)) (show (1 * k + 0) + 1 = k + 1 from by omega)
      have p1 : _ = [] := p1
      subst p1
      exact hE0 lo' h' hi' hm c0 k0 o0 o1 o2 o3
    rcases List.mem_cons.mp he with rfl | he
    · obtain ⟨p1, p2, -, hz⟩ := hp
      obtain ⟨w0, f0, hz⟩ := hz
      obtain ⟨⟨z1, z2, z3, z4⟩, z5, z6⟩ := hz
      have g0 : w0 = sgfn 8 m 10 := (show w0 = sgfn 8 ((1 * m + 0) + 0) (0 + 10) from f0).trans (sgfn_c (by omega) (by omega))
      have c0 : w0 = 9 := by have q_ : (0 : Int) ≤ (1 * w0 + 0) + (-9) := z4 ([(4, 1)], (-9)) (List.mem_of_getElem? (i := 0) rfl); have q2_ : (0 : Int) ≤ ((-1) * w0 + 0) + 9 := z4 ([(4, (-1))], 9) (List.mem_of_getElem? (i := 1) rfl); omega
      have n0 : lf ≠ 1 := fun e_ => z5 (([(2, 1)], 0), ([], 1)) (List.mem_of_getElem? (i := 0) rfl) (by show (1 * lf + 0) + 0 = 0 + 1; omega)
      have k0 : pI h' (12 * u + 43) 0 = m := (show pI h' (12 * u + 43) 0 = (1 * m + 0) + 0 from z1 ((12 * u + 43), (none, 0), ([(3, 1)], 0)) (List.mem_of_getElem? (i := 0) rfl)).trans (by omega)
      have o0 : zget lo' 0 = some (.ref 61) := locR (p2 (0, .inr (.inl 61)) (List.mem_of_getElem? (i := 0) rfl))
      have o1 : zget lo' 1 = some (.ref (12 * u + 43)) := locR (p2 (1, .inr (.inl (12 * u + 43))) (List.mem_of_getElem? (i := 1) rfl))
      have o2 : zI lo' 2 n := zI_of (p2 (2, .inl sf32) (List.mem_of_getElem? (i := 2) rfl)) (z3 (2, ([(0, 1)], 0)) (List.mem_of_getElem? (i := 0) rfl)) (show (1 * n + 0) + 0 = n from by omega)
      have o3 : zI lo' 3 k := zI_of (p2 (3, .inl sf32) (List.mem_of_getElem? (i := 3) rfl)) (z3 (3, ([(1, 1)], 0)) (List.mem_of_getElem? (i := 1) rfl)) (show (1 * k + 0) + 0 = k from by omega)
      obtain ⟨_, _, rfl, hr, p1⟩ := p1
      have hr : _ = Value.ref (12 * u + 43) := hr
      subst hr
      obtain ⟨_, _, rfl, hr, p1⟩ := p1
      have hr : _ = Value.ref 61 := hr
      subst hr
      have p1 : _ = [] := p1
      subst p1
      exact hE1 lo' h' w0 hi' hm g0 c0 n0 k0 o0 o1 o2 o3
    rcases List.mem_cons.mp he with rfl | he
    · obtain ⟨p1, p2, -, hz⟩ := hp
      obtain ⟨w0, f0, hz⟩ := hz
      obtain ⟨⟨z1, z2, z3, z4⟩, z5, z6⟩ := hz
      have g0 : w0 = sgfn 8 m 10 := (show w0 = sgfn 8 ((1 * m + 0) + 0) (0 + 10) from f0).trans (sgfn_c (by omega) (by omega))
      have n0 : lf ≠ 1 := fun e_ => z5 (([(2, 1)], 0), ([], 1)) (List.mem_of_getElem? (i := 0) rfl) (by show (1 * lf + 0) + 0 = 0 + 1; omega)
      have n1 : w0 ≠ 9 := fun e_ => z5 (([(4, 1)], 0), ([], 9)) (List.mem_of_getElem? (i := 1) rfl) (by show (1 * w0 + 0) + 0 = 0 + 9; omega)
      have k0 : pI h' (12 * u + 43) 0 = m + 1 := (show pI h' (12 * u + 43) 0 = (1 * m + 0) + 1 from z1 ((12 * u + 43), (none, 0), ([(3, 1)], 1)) (List.mem_of_getElem? (i := 0) rfl)).trans (by omega)
      have o0 : zget lo' 0 = some (.ref 61) := locR (p2 (0, .inr (.inl 61)) (List.mem_of_getElem? (i := 0) rfl))
      have o1 : zget lo' 1 = some (.ref (12 * u + 43)) := locR (p2 (1, .inr (.inl (12 * u + 43))) (List.mem_of_getElem? (i := 1) rfl))
      have o2 : zI lo' 2 n := zI_of (p2 (2, .inl sf32) (List.mem_of_getElem? (i := 2) rfl)) (z3 (2, ([(0, 1)], 0)) (List.mem_of_getElem? (i := 0) rfl)) (show (1 * n + 0) + 0 = n from by omega)
      have o3 : zI lo' 3 (k + 1) := zI_of (p2 (3, .inl sf32) (List.mem_of_getElem? (i := 3) rfl)) (z3 (3, ([(1, 1)], 1)) (List.mem_of_getElem? (i := 1) rfl)) (show (1 * k + 0) + 1 = k + 1 from by omega)
      have p1 : _ = [] := p1
      subst p1
      exact hE2 lo' h' w0 hi' hm g0 n0 n1 k0 o0 o1 o2 o3
    cases he
  · intro e he r' h' hp hi' hm
    cases he
def kcM6_L (u : Nat) : List (Nat × sT) := [(0, .inr (.inl 61)), (1, .inr (.inl (12 * u + 43))), (2, .inl sf32), (3, .inl (0, 200))]
def kcM6_S (u : Nat) : List sT := []
def kcM6_A (u : Nat) : sAs := ([], [], [], [])
def kcM6_P (u : Nat) : List sP0 := [((12 * u + 43), (none, 0), (0, 2000000000))]
def kcM6_G (u : Nat) : List sP0 := []
def kcM6_B (u : Nat) : List (Nat × Nat × Int) := []
def kcM6_m (u : Nat) : sM := [((12 * u + 43), 0, 1)]
def kcM6_e0 (u : Nat) : sXe := (2, [], [(0, .inr (.inl 61)), (1, .inr (.inl (12 * u + 43))), (2, .inl sf32), (3, .inl sf32)], sA0, [], ([((12 * u + 43), (none, 0), ([(2, 1)], 1))], [], [(2, ([(0, 1)], 0)), (3, ([(1, 1)], 1))], []), [], [])
theorem kcM6_b : ((List.range 2).all fun u => syeB swC sT0 (kcM6_m u) 400 0 100 (kcM6_L u) (kcM6_S u) (kcM6_A u) (kcM6_P u) (kcM6_G u) (kcM6_B u) 67 [kcM6_e0 u] []) = true := by decide +kernel
theorem kcM6 {l : Launch} {Γ : zG} {d : Nat} (hd : 0 ≤ d) {Kp : Option Value → zH → Prop} {lo : zL} {h : zH} {u : Nat} (h_u : u < 2) {n k m : Int} (hi : sInv swC h) (b_n : (-2147483648) ≤ n ∧ n ≤ 2147483647) (b_k : 0 ≤ k ∧ k ≤ 200) (b_m : 0 ≤ m ∧ m ≤ 2000000000) (l0 : zget lo 0 = some (.ref 61)) (l1 : zget lo 1 = some (.ref (12 * u + 43))) (l2 : zI lo 2 n) (l3 : zI lo 3 k) (p_m : pI h (12 * u + 43) 0 = m)
    (hE0 : ∀ (lo' : zL) (h' : zH), sInv swC h' → sMd (kcM6_m u) h h' → pI h' (12 * u + 43) 0 = m + 1 → zget lo' 0 = some (.ref 61) → zget lo' 1 = some (.ref (12 * u + 43)) → zI lo' 2 n → zI lo' 3 (k + 1) → zX l Γ false (d + 1) (zhd 100) (zMQ' Γ false (zhd 100) Kp) 0 0 2 lo' [] h') : zX l Γ false (d + 1) (zhd 100) (zMQ' Γ false (zhd 100) Kp) 0 0 67 lo [] h := by
  refine sye_ok (mi := 100) (pc := 67) (fun i => [n, k, m].getD i 0) (zall_r kcM6_b h_u) (fun _ _ hc _ => nomatch hc) hd ⟨l0, l1, zIm l2 (by show (-2147483648) ≤ n; omega) (by show n ≤ 2147483647; omega), zIm l3 (by show 0 ≤ k; omega) (by show k ≤ 200; omega), trivial⟩ rfl ⟨(fun _ hc => nomatch hc), (fun _ hc => nomatch hc), (fun _ hc => nomatch hc), Or.inl rfl⟩ ⟨⟨p_m, by show 0 ≤ m; omega, by show m ≤ 2000000000; omega⟩, trivial⟩ trivial (fun _ hc => nomatch hc) hi ?_ ?_
  · intro e he lo' st' h' hp hi' hm
    rcases List.mem_cons.mp he with rfl | he
    · obtain ⟨p1, p2, -, hz⟩ := hp
      obtain ⟨⟨z1, z2, z3, z4⟩, z5, z6⟩ := hz
      have k0 : pI h' (12 * u + 43) 0 = m + 1 := (show pI h' (12 * u + 43) 0 = (1 * m + 0) + 1 from z1 ((12 * u + 43), (none, 0), ([(2, 1)], 1)) (List.mem_of_getElem? (i := 0) rfl)).trans (by omega)
      have o0 : zget lo' 0 = some (.ref 61) := locR (p2 (0, .inr (.inl 61)) (List.mem_of_getElem? (i := 0) rfl))
      have o1 : zget lo' 1 = some (.ref (12 * u + 43)) := locR (p2 (1, .inr (.inl (12 * u + 43))) (List.mem_of_getElem? (i := 1) rfl))
      have o2 : zI lo' 2 n := zI_of (p2 (2, .inl sf32) (List.mem_of_getElem? (i := 2) rfl)) (z3 (2, ([(0, 1)], 0)) (List.mem_of_getElem? (i := 0) rfl)) (show (1 * n + 0) + 0 = n from by omega)
      have o3 : zI lo' 3 (k + 1) := zI_of (p2 (3, .inl sf32) (List.mem_of_getElem? (i := 3) rfl)) (z3 (3, ([(1, 1)], 1)) (List.mem_of_getElem? (i := 1) rfl)) (show (1 * k + 0) + 1 = k + 1 from by omega)
      have p1 : _ = [] := p1
      subst p1
      exact hE0 lo' h' hi' hm k0 o0 o1 o2 o3
    cases he
  · intro e he r' h' hp hi' hm
    cases he
