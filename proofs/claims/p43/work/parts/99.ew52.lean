def kqS0_L : List sT := [.inr (.inl 0), .inl sf32]
def kqS0_A : sAs := ([], [], [], [])
def kqS0_P : List sP0 := []
def kqS0_G : List sP0 := []
def kqS0_B : List (Nat × Nat × Int) := []
def kqS0_m : sM := []
def kqS0_e0 : sXe := (16, [], [(0, .inr (.inl 0)), (1, .inl sf32), (2, .inl sf32), (3, .inl sf32)], sA0, [], ([], [], [(1, ([(0, 1)], 0)), (2, ([], 0)), (3, ([], 0))], [([(0, 1)], (-1)), ([(0, (-1))], 9)]), [], [])
def kqS0_r0 : sXr := (some (.inl sf32), sA0, [], ([], [(0, ([], (-1)))], [], [([(0, (-1))], 0)]), [], [])
def kqS0_r1 : sXr := (some (.inl sf32), sA0, [], ([], [(0, ([], (-1)))], [], [([(0, 1)], (-1)), ([(0, 1)], (-10))]), [], [])
theorem kqS0_b : syfB swC sT0 kqS0_m 400 1 155 kqS0_L kqS0_A kqS0_P kqS0_G kqS0_B [kqS0_e0] [kqS0_r0, kqS0_r1] = true := by decide +kernel
theorem kqS0 {l : Launch} {Γ : zG} {d : Nat} (hd : 1 ≤ d) {Kp : Option Value → zH → Prop} {h : zH} {x : Int} (hi : sInv swC h) (b_x : (-2147483648) ≤ x ∧ x ≤ 2147483647) {x_x : Int32} (e_x : x_x.toInt = x)
    (hE0 : ∀ (lo' : zL) (h' : zH), sInv swC h' → sMd kqS0_m h h' → 0 ≤ x - 1 → 0 ≤ -x + 9 → zget lo' 0 = some (.ref 0) → zI lo' 1 x → zI lo' 2 0 → zI lo' 3 0 → zX l Γ false (d + 1) (zhd 155) (zMQ' Γ false (zhd 155) Kp) 0 0 16 lo' [] h')
    (hR0 : ∀ (h' : zH) (r_ : Int32), sInv swC h' → sMd kqS0_m h h' → 0 ≤ -x → r_.toInt = (-1) → Kp (some (.int r_)) h')
    (hR1 : ∀ (h' : zH) (r_ : Int32), sInv swC h' → sMd kqS0_m h h' → 0 ≤ x - 1 → 0 ≤ x - 10 → r_.toInt = (-1) → Kp (some (.int r_)) h') : zSem l Γ false (d + 1) (zhd 155) [.ref 0, .int x_x] h Kp := by
  refine syf_ok (mi := 155) (fun i => [x].getD i 0) kqS0_b (fun _ _ hc _ => nomatch hc) hd ⟨_, _, rfl, rfl, ⟨_, _, rfl, ⟨x_x, rfl, by show (-2147483648) ≤ x_x.toInt; omega, by show x_x.toInt ≤ 2147483647; omega⟩, rfl⟩⟩ ⟨rfl, ⟨x_x, rfl, e_x, by show (-2147483648) ≤ x; omega, by show x ≤ 2147483647; omega⟩, trivial⟩ ⟨(fun _ hc => nomatch hc), (fun _ hc => nomatch hc), (fun _ hc => nomatch hc), Or.inl rfl⟩ trivial trivial (fun _ hc => nomatch hc) hi ?_ ?_
  · intro e he lo' st' h' hp hi' hm
    rcases List.mem_cons.mp he with rfl | he
    · obtain ⟨p1, p2, -, hz⟩ := hp
      obtain ⟨⟨z1, z2, z3, z4⟩, z5, z6⟩ := hz
      have c0 : 0 ≤ x - 1 := by have q_ : (0 : Int) ≤ (1 * x + 0) + (-1) := z4 ([(0, 1)], (-1)) (List.mem_of_getElem? (i := 0) rfl); omega
      have c1 : 0 ≤ -x + 9 := by have q_ : (0 : Int) ≤ ((-1) * x + 0) + 9 := z4 ([(0, (-1))], 9) (List.mem_of_getElem? (i := 1) rfl); omega
      have o0 : zget lo' 0 = some (.ref 0) := locR (p2 (0, .inr (.inl 0)) (List.mem_of_getElem? (i := 0) rfl))
      have o1 : zI lo' 1 x := zI_of (p2 (1, .inl sf32) (List.mem_of_getElem? (i := 1) rfl)) (z3 (1, ([(0, 1)], 0)) (List.mem_of_getElem? (i := 0) rfl)) (show (1 * x + 0) + 0 = x from by omega)
      have o2 : zI lo' 2 0 := zI_of (p2 (2, .inl sf32) (List.mem_of_getElem? (i := 2) rfl)) (z3 (2, ([], 0)) (List.mem_of_getElem? (i := 1) rfl)) (show 0 + 0 = 0 from by omega)
      have o3 : zI lo' 3 0 := zI_of (p2 (3, .inl sf32) (List.mem_of_getElem? (i := 3) rfl)) (z3 (3, ([], 0)) (List.mem_of_getElem? (i := 2) rfl)) (show 0 + 0 = 0 from by omega)
      have p1 : _ = [] := p1
      subst p1
      exact hE0 lo' h' hi' hm c0 c1 o0 o1 o2 o3
    cases he
  · intro e he r' h' hp hi' hm
    rcases List.mem_cons.mp he with rfl | he
    · obtain ⟨p1, -, hz⟩ := hp
      obtain ⟨⟨z1, z2, z3, z4⟩, z5, z6⟩ := hz
      have c0 : 0 ≤ -x := by have q_ : (0 : Int) ≤ ((-1) * x + 0) + 0 := z4 ([(0, (-1))], 0) (List.mem_of_getElem? (i := 0) rfl); omega
      obtain ⟨r_, rfl, hv⟩ := ansI p1 (z2 (0, ([], (-1))) (List.mem_of_getElem? (i := 0) rfl))
      have s0 : r_.toInt = (-1) := (show r_.toInt = 0 + (-1) from hv).trans (by omega)
      exact hR0 h' r_ hi' hm c0 s0
    rcases List.mem_cons.mp he with rfl | he
    · obtain ⟨p1, -, hz⟩ := hp
      obtain ⟨⟨z1, z2, z3, z4⟩, z5, z6⟩ := hz
      have c0 : 0 ≤ x - 1 := by have q_ : (0 : Int) ≤ (1 * x + 0) + (-1) := z4 ([(0, 1)], (-1)) (List.mem_of_getElem? (i := 0) rfl); omega
      have c1 : 0 ≤ x - 10 := by have q_ : (0 : Int) ≤ (1 * x + 0) + (-10) := z4 ([(0, 1)], (-10)) (List.mem_of_getElem? (i := 1) rfl); omega
      obtain ⟨r_, rfl, hv⟩ := ansI p1 (z2 (0, ([], (-1))) (List.mem_of_getElem? (i := 0) rfl))
      have s0 : r_.toInt = (-1) := (show r_.toInt = 0 + (-1) from hv).trans (by omega)
      exact hR1 h' r_ hi' hm c0 c1 s0
    cases he
def kqS1_L (g : Nat) (t : Nat) : List (Nat × sT) := [(0, .inr (.inl 0)), (1, .inl (1, 9)), (2, .inl (0, 15984)), (3, .inl ((g : Int), (g : Int)))]
def kqS1_S (g : Nat) (t : Nat) : List sT := []
def kqS1_A (g : Nat) (t : Nat) : sAs := ([], [(0, 5, (17 * t + 9))], [], [])
def kqS1_P (g : Nat) (t : Nat) : List sP0 := [((17 * t + 12), (none, 3), (((g : Int) + 1), 8)), ((17 * t + 13), (none, (((6 * g + 5) : Nat) : Int)), sf32), (44, (none, ((g : Nat) : Int)), (0, 999)), (45, (none, ((g : Nat) : Int)), (0, 999))]
def kqS1_G (g : Nat) (t : Nat) : List sP0 := []
def kqS1_B (g : Nat) (t : Nat) : List (Nat × Nat × Int) := []
def kqS1_m (g : Nat) (t : Nat) : sM := []
def kqS1_e0 (g : Nat) (t : Nat) : sXe := (16, [], [(0, .inr (.inl 0)), (1, .inl sf32), (2, .inl sf32), (3, .inl sf32)], sA0, [], ([], [], [(1, ([(0, 1)], 0)), (2, ([(1, 1)], 0)), (3, ([], ((g : Int) + 1)))], [([(0, (-1)), (4, 1)], (-1))]), [], [])
def kqS1_e1 (g : Nat) (t : Nat) : sXe := (16, [], [(0, .inr (.inl 0)), (1, .inl sf32), (2, .inl sf32), (3, .inl sf32)], sA0, [], ([], [], [(1, ([(0, 1)], 0)), (2, ([(1, 1), (5, 1), (6, 1)], 0)), (3, ([], ((g : Int) + 1)))], [([(0, 1), (4, (-1))], 0)]), [], [])
theorem kqS1_b : ((List.range 8).all fun g => ((List.range 2).all fun t => syeB swC sT0 (kqS1_m g t) 400 1 155 (kqS1_L g t) (kqS1_S g t) (kqS1_A g t) (kqS1_P g t) (kqS1_G g t) (kqS1_B g t) 16 [kqS1_e0 g t, kqS1_e1 g t] [])) = true := by decide +kernel
theorem kqS1 {l : Launch} {Γ : zG} {d : Nat} (hd : 1 ≤ d) {Kp : Option Value → zH → Prop} {lo : zL} {h : zH} {g : Nat} (h_g : g < 8) {t : Nat} (h_t : t < 2) {x ac n co ab bl : Int} (hi : sInv swC h) (b_x : 1 ≤ x ∧ x ≤ 9) (b_ac : 0 ≤ ac ∧ ac ≤ 15984) (b_n : ((g : Int) + 1) ≤ n ∧ n ≤ 8) (b_co : (-2147483648) ≤ co ∧ co ≤ 2147483647) (b_ab : 0 ≤ ab ∧ ab ≤ 999) (b_bl : 0 ≤ bl ∧ bl ≤ 999) (l0 : zget lo 0 = some (.ref 0)) (l1 : zI lo 1 x) (l2 : zI lo 2 ac) (l3 : zI lo 3 (g : Int)) (p_n : pI h (17 * t + 12) 3 = n) (p_co : pI h (17 * t + 13) (6 * g + 5) = co) (p_ab : pI h 44 g = ab) (p_bl : pI h 45 g = bl) (q0 : h.2.2.2 0 5 = some (17 * t + 9))
    (hE0 : ∀ (lo' : zL) (h' : zH), sInv swC h' → sMd (kqS1_m g t) h h' → 0 ≤ -x + co - 1 → zget lo' 0 = some (.ref 0) → zI lo' 1 x → zI lo' 2 ac → zI lo' 3 ((g : Int) + 1) → zX l Γ false (d + 1) (zhd 155) (zMQ' Γ false (zhd 155) Kp) 0 0 16 lo' [] h')
    (hE1 : ∀ (lo' : zL) (h' : zH), sInv swC h' → sMd (kqS1_m g t) h h' → 0 ≤ x - co → zget lo' 0 = some (.ref 0) → zI lo' 1 x → zI lo' 2 (ac + ab + bl) → zI lo' 3 ((g : Int) + 1) → zX l Γ false (d + 1) (zhd 155) (zMQ' Γ false (zhd 155) Kp) 0 0 16 lo' [] h') : zX l Γ false (d + 1) (zhd 155) (zMQ' Γ false (zhd 155) Kp) 0 0 16 lo [] h := by
  refine sye_ok (mi := 155) (pc := 16) (fun i => [x, ac, (g : Int), n, co, ab, bl].getD i 0) (zall_r (zall_r kqS1_b h_g) h_t) (fun _ _ hc _ => nomatch hc) hd ⟨l0, zIm l1 (by show 1 ≤ x; omega) (by show x ≤ 9; omega), zIm l2 (by show 0 ≤ ac; omega) (by show ac ≤ 15984; omega), zIm l3 (by show (g : Int) ≤ (g : Int); omega) (by show (g : Int) ≤ (g : Int); omega), trivial⟩ rfl ⟨(fun _ hc => nomatch hc), (sfm q0 (fun _ hc => nomatch hc)), (fun _ hc => nomatch hc), Or.inl rfl⟩ ⟨⟨p_n, by show ((g : Int) + 1) ≤ n; omega, by show n ≤ 8; omega⟩, ⟨p_co, by show (-2147483648) ≤ co; omega, by show co ≤ 2147483647; omega⟩, ⟨p_ab, by show 0 ≤ ab; omega, by show ab ≤ 999; omega⟩, ⟨p_bl, by show 0 ≤ bl; omega, by show bl ≤ 999; omega⟩, trivial⟩ trivial (fun _ hc => nomatch hc) hi ?_ ?_
  · intro e he lo' st' h' hp hi' hm
    rcases List.mem_cons.mp he with rfl | he
    · obtain ⟨p1, p2, -, hz⟩ := hp
      obtain ⟨⟨z1, z2, z3, z4⟩, z5, z6⟩ := hz
      have c0 : 0 ≤ -x + co - 1 := by have q_ : (0 : Int) ≤ ((-1) * x + (1 * co + 0)) + (-1) := z4 ([(0, (-1)), (4, 1)], (-1)) (List.mem_of_getElem? (i := 0) rfl); omega
      have o0 : zget lo' 0 = some (.ref 0) := locR (p2 (0, .inr (.inl 0)) (List.mem_of_getElem? (i := 0) rfl))
      have o1 : zI lo' 1 x := zI_of (p2 (1, .inl sf32) (List.mem_of_getElem? (i := 1) rfl)) (z3 (1, ([(0, 1)], 0)) (List.mem_of_getElem? (i := 0) rfl)) (show (1 * x + 0) + 0 = x from by omega)
      have o2 : zI lo' 2 ac := zI_of (p2 (2, .inl sf32) (List.mem_of_getElem? (i := 2) rfl)) (z3 (2, ([(1, 1)], 0)) (List.mem_of_getElem? (i := 1) rfl)) (show (1 * ac + 0) + 0 = ac from by omega)
      have o3 : zI lo' 3 ((g : Int) + 1) := zI_of (p2 (3, .inl sf32) (List.mem_of_getElem? (i := 3) rfl)) (z3 (3, ([], ((g : Int) + 1))) (List.mem_of_getElem? (i := 2) rfl)) (show 0 + ((g : Int) + 1) = ((g : Int) + 1) from by omega)
      have p1 : _ = [] := p1
      subst p1
      exact hE0 lo' h' hi' hm c0 o0 o1 o2 o3
    rcases List.mem_cons.mp he with rfl | he
    · obtain ⟨p1, p2, -, hz⟩ := hp
      obtain ⟨⟨z1, z2, z3, z4⟩, z5, z6⟩ := hz
      have c0 : 0 ≤ x - co := by have q_ : (0 : Int) ≤ (1 * x + ((-1) * co + 0)) + 0 := z4 ([(0, 1), (4, (-1))], 0) (List.mem_of_getElem? (i := 0) rfl); omega
      have o0 : zget lo' 0 = some (.ref 0) := locR (p2 (0, .inr (.inl 0)) (List.mem_of_getElem? (i := 0) rfl))
      have o1 : zI lo' 1 x := zI_of (p2 (1, .inl sf32) (List.mem_of_getElem? (i := 1) rfl)) (z3 (1, ([(0, 1)], 0)) (List.mem_of_getElem? (i := 0) rfl)) (show (1 * x + 0) + 0 = x from by omega)
      have o2 : zI lo' 2 (ac + ab + bl) := zI_of (p2 (2, .inl sf32) (List.mem_of_getElem? (i := 2) rfl)) (z3 (2, ([(1, 1), (5, 1), (6, 1)], 0)) (List.mem_of_getElem? (i := 1) rfl)) (show (1 * ac + (1 * ab + (1 * bl + 0))) + 0 = ac + ab + bl from by omega)
      have o3 : zI lo' 3 ((g : Int) + 1) := zI_of (p2 (3, .inl sf32) (List.mem_of_getElem? (i := 3) rfl)) (z3 (3, ([], ((g : Int) + 1))) (List.mem_of_getElem? (i := 2) rfl)) (show 0 + ((g : Int) + 1) = ((g : Int) + 1) from by omega)
      have p1 : _ = [] := p1
      subst p1
      exact hE1 lo' h' hi' hm c0 o0 o1 o2 o3
    cases he
  · intro e he r' h' hp hi' hm
    cases he
def kqS2_L (g : Nat) (t : Nat) : List (Nat × sT) := [(0, .inr (.inl 0)), (1, .inl (1, 9)), (2, .inl (0, 15984)), (3, .inl ((g : Int), (g : Int)))]
def kqS2_S (g : Nat) (t : Nat) : List sT := []
def kqS2_A (g : Nat) (t : Nat) : sAs := ([], [(0, 5, (17 * t + 9))], [], [])
def kqS2_P (g : Nat) (t : Nat) : List sP0 := [((17 * t + 12), (none, 3), (0, (g : Int)))]
def kqS2_G (g : Nat) (t : Nat) : List sP0 := []
def kqS2_B (g : Nat) (t : Nat) : List (Nat × Nat × Int) := []
def kqS2_m (g : Nat) (t : Nat) : sM := []
def kqS2_r0 (g : Nat) (t : Nat) : sXr := (some (.inl sf32), sA0, [], ([], [(0, ([(1, 1)], 0))], [], []), [], [])
theorem kqS2_b : ((List.range 9).all fun g => ((List.range 2).all fun t => syeB swC sT0 (kqS2_m g t) 400 0 155 (kqS2_L g t) (kqS2_S g t) (kqS2_A g t) (kqS2_P g t) (kqS2_G g t) (kqS2_B g t) 16 [] [kqS2_r0 g t])) = true := by decide +kernel
theorem kqS2 {l : Launch} {Γ : zG} {d : Nat} (hd : 0 ≤ d) {Kp : Option Value → zH → Prop} {lo : zL} {h : zH} {g : Nat} (h_g : g < 9) {t : Nat} (h_t : t < 2) {x ac n : Int} (hi : sInv swC h) (b_x : 1 ≤ x ∧ x ≤ 9) (b_ac : 0 ≤ ac ∧ ac ≤ 15984) (b_n : 0 ≤ n ∧ n ≤ (g : Int)) (l0 : zget lo 0 = some (.ref 0)) (l1 : zI lo 1 x) (l2 : zI lo 2 ac) (l3 : zI lo 3 (g : Int)) (p_n : pI h (17 * t + 12) 3 = n) (q0 : h.2.2.2 0 5 = some (17 * t + 9))
    (hR0 : ∀ (h' : zH) (r_ : Int32), sInv swC h' → sMd (kqS2_m g t) h h' → r_.toInt = ac → Kp (some (.int r_)) h') : zX l Γ false (d + 1) (zhd 155) (zMQ' Γ false (zhd 155) Kp) 0 0 16 lo [] h := by
  refine sye_ok (mi := 155) (pc := 16) (fun i => [x, ac, (g : Int), n].getD i 0) (zall_r (zall_r kqS2_b h_g) h_t) (fun _ _ hc _ => nomatch hc) hd ⟨l0, zIm l1 (by show 1 ≤ x; omega) (by show x ≤ 9; omega), zIm l2 (by show 0 ≤ ac; omega) (by show ac ≤ 15984; omega), zIm l3 (by show (g : Int) ≤ (g : Int); omega) (by show (g : Int) ≤ (g : Int); omega), trivial⟩ rfl ⟨(fun _ hc => nomatch hc), (sfm q0 (fun _ hc => nomatch hc)), (fun _ hc => nomatch hc), Or.inl rfl⟩ ⟨⟨p_n, by show 0 ≤ n; omega, by show n ≤ (g : Int); omega⟩, trivial⟩ trivial (fun _ hc => nomatch hc) hi ?_ ?_
  · intro e he lo' st' h' hp hi' hm
    cases he
  · intro e he r' h' hp hi' hm
    rcases List.mem_cons.mp he with rfl | he
    · obtain ⟨p1, -, hz⟩ := hp
      obtain ⟨⟨z1, z2, z3, z4⟩, z5, z6⟩ := hz
      obtain ⟨r_, rfl, hv⟩ := ansI p1 (z2 (0, ([(1, 1)], 0)) (List.mem_of_getElem? (i := 0) rfl))
      have s0 : r_.toInt = ac := (show r_.toInt = (1 * ac + 0) + 0 from hv).trans (by omega)
      exact hR0 h' r_ hi' hm s0
    cases he
def krS0_L : List sT := [.inr (.inl 0), .inl sf32]
def krS0_A : sAs := ([], [], [], [])
def krS0_P : List sP0 := []
def krS0_G : List sP0 := []
def krS0_B : List (Nat × Nat × Int) := []
def krS0_m : sM := [(0, 2, 3)]
def krS0_e0 : sXe := (21, [], [(0, .inr (.inl 0)), (1, .inl sf32), (2, .inl sf32), (3, .inl sf32)], sA0, [], ([(0, (none, 2), ([], 0))], [], [(1, ([(0, 1)], 0)), (2, ([], 0)), (3, ([], 0))], [([(0, 1)], (-1)), ([(0, (-1))], 9)]), [], [])
def krS0_r0 : sXr := (some (.inl sf32), sA0, [], ([(0, (none, 2), ([], 0))], [(0, ([], (-1)))], [], [([(0, (-1))], 0)]), [], [])
def krS0_r1 : sXr := (some (.inl sf32), sA0, [], ([(0, (none, 2), ([], 0))], [(0, ([], (-1)))], [], [([(0, 1)], (-1)), ([(0, 1)], (-10))]), [], [])
theorem krS0_b : syfB swM sT0 krS0_m 400 1 293 krS0_L krS0_A krS0_P krS0_G krS0_B [krS0_e0] [krS0_r0, krS0_r1] = true := by decide +kernel
theorem krS0 {l : Launch} {Γ : zG} {d : Nat} (hd : 1 ≤ d) {Kp : Option Value → zH → Prop} {h : zH} {x : Int} (hi : sInv swM h) (b_x : (-2147483648) ≤ x ∧ x ≤ 2147483647) {x_x : Int32} (e_x : x_x.toInt = x)
    (hE0 : ∀ (lo' : zL) (h' : zH), sInv swM h' → sMd krS0_m h h' → 0 ≤ x - 1 → 0 ≤ -x + 9 → pI h' 0 2 = 0 → zget lo' 0 = some (.ref 0) → zI lo' 1 x → zI lo' 2 0 → zI lo' 3 0 → zX l Γ false (d + 1) (zhd 293) (zMQ' Γ false (zhd 293) Kp) 0 0 21 lo' [] h')
    (hR0 : ∀ (h' : zH) (r_ : Int32), sInv swM h' → sMd krS0_m h h' → 0 ≤ -x → pI h' 0 2 = 0 → r_.toInt = (-1) → Kp (some (.int r_)) h')
    (hR1 : ∀ (h' : zH) (r_ : Int32), sInv swM h' → sMd krS0_m h h' → 0 ≤ x - 1 → 0 ≤ x - 10 → pI h' 0 2 = 0 → r_.toInt = (-1) → Kp (some (.int r_)) h') : zSem l Γ false (d + 1) (zhd 293) [.ref 0, .int x_x] h Kp := by
  refine syf_ok (mi := 293) (fun i => [x].getD i 0) krS0_b (fun _ _ hc _ => nomatch hc) hd ⟨_, _, rfl, rfl, ⟨_, _, rfl, ⟨x_x, rfl, by show (-2147483648) ≤ x_x.toInt; omega, by show x_x.toInt ≤ 2147483647; omega⟩, rfl⟩⟩ ⟨rfl, ⟨x_x, rfl, e_x, by show (-2147483648) ≤ x; omega, by show x ≤ 2147483647; omega⟩, trivial⟩ ⟨(fun _ hc => nomatch hc), (fun _ hc => nomatch hc), (fun _ hc => nomatch hc), Or.inl rfl⟩ trivial trivial (fun _ hc => nomatch hc) hi ?_ ?_
  · intro e he lo' st' h' hp hi' hm
    rcases List.mem_cons.mp he with rfl | he
    · obtain ⟨p1, p2, -, hz⟩ := hp
      obtain ⟨⟨z1, z2, z3, z4⟩, z5, z6⟩ := hz
      have c0 : 0 ≤ x - 1 := by have q_ : (0 : Int) ≤ (1 * x + 0) + (-1) := z4 ([(0, 1)], (-1)) (List.mem_of_getElem? (i := 0) rfl); omega
      have c1 : 0 ≤ -x + 9 := by have q_ : (0 : Int) ≤ ((-1) * x + 0) + 9 := z4 ([(0, (-1))], 9) (List.mem_of_getElem? (i := 1) rfl); omega
      have k0 : pI h' 0 2 = 0 := (show pI h' 0 2 = 0 + 0 from z1 (0, (none, 2), ([], 0)) (List.mem_of_getElem? (i := 0) rfl)).trans (by omega)
      have o0 : zget lo' 0 = some (.ref 0) := locR (p2 (0, .inr (.inl 0)) (List.mem_of_getElem? (i := 0) rfl))
      have o1 : zI lo' 1 x := zI_of (p2 (1, .inl sf32) (List.mem_of_getElem? (i := 1) rfl)) (z3 (1, ([(0, 1)], 0)) (List.mem_of_getElem? (i := 0) rfl)) (show (1 * x + 0) + 0 = x from by omega)
      have o2 : zI lo' 2 0 := zI_of (p2 (2, .inl sf32) (List.mem_of_getElem? (i := 2) rfl)) (z3 (2, ([], 0)) (List.mem_of_getElem? (i := 1) rfl)) (show 0 + 0 = 0 from by omega)
      have o3 : zI lo' 3 0 := zI_of (p2 (3, .inl sf32) (List.mem_of_getElem? (i := 3) rfl)) (z3 (3, ([], 0)) (List.mem_of_getElem? (i := 2) rfl)) (show 0 + 0 = 0 from by omega)
      have p1 : _ = [] := p1
      subst p1
      exact hE0 lo' h' hi' hm c0 c1 k0 o0 o1 o2 o3
    cases he
  · intro e he r' h' hp hi' hm
    rcases List.mem_cons.mp he with rfl | he
    · obtain ⟨p1, -, hz⟩ := hp
      obtain ⟨⟨z1, z2, z3, z4⟩, z5, z6⟩ := hz
      have c0 : 0 ≤ -x := by have q_ : (0 : Int) ≤ ((-1) * x + 0) + 0 := z4 ([(0, (-1))], 0) (List.mem_of_getElem? (i := 0) rfl); omega
      have k0 : pI h' 0 2 = 0 := (show pI h' 0 2 = 0 + 0 from z1 (0, (none, 2), ([], 0)) (List.mem_of_getElem? (i := 0) rfl)).trans (by omega)
      obtain ⟨r_, rfl, hv⟩ := ansI p1 (z2 (0, ([], (-1))) (List.mem_of_getElem? (i := 0) rfl))
      have s0 : r_.toInt = (-1) := (show r_.toInt = 0 + (-1) from hv).trans (by omega)
      exact hR0 h' r_ hi' hm c0 k0 s0
    rcases List.mem_cons.mp he with rfl | he
    · obtain ⟨p1, -, hz⟩ := hp
      obtain ⟨⟨z1, z2, z3, z4⟩, z5, z6⟩ := hz
      have c0 : 0 ≤ x - 1 := by have q_ : (0 : Int) ≤ (1 * x + 0) + (-1) := z4 ([(0, 1)], (-1)) (List.mem_of_getElem? (i := 0) rfl); omega
      have c1 : 0 ≤ x - 10 := by have q_ : (0 : Int) ≤ (1 * x + 0) + (-10) := z4 ([(0, 1)], (-10)) (List.mem_of_getElem? (i := 1) rfl); omega
      have k0 : pI h' 0 2 = 0 := (show pI h' 0 2 = 0 + 0 from z1 (0, (none, 2), ([], 0)) (List.mem_of_getElem? (i := 0) rfl)).trans (by omega)
      obtain ⟨r_, rfl, hv⟩ := ansI p1 (z2 (0, ([], (-1))) (List.mem_of_getElem? (i := 0) rfl))
      have s0 : r_.toInt = (-1) := (show r_.toInt = 0 + (-1) from hv).trans (by omega)
      exact hR1 h' r_ hi' hm c0 c1 k0 s0
    cases he
def krS1_L (g : Nat) : List (Nat × sT) := [(0, .inr (.inl 0)), (1, .inl (1, 9)), (2, .inl (0, 15984)), (3, .inl ((g : Int), (g : Int)))]
def krS1_S (g : Nat) : List sT := []
def krS1_A (g : Nat) : sAs := ([], [], [], [])
def krS1_P (g : Nat) : List sP0 := [(0, (none, 13), (((g : Int) + 1), 8)), (11, (none, ((g : Nat) : Int)), sf32), (29, (none, ((g : Nat) : Int)), (0, 999)), (30, (none, ((g : Nat) : Int)), (0, 999))]
def krS1_G (g : Nat) : List sP0 := []
def krS1_B (g : Nat) : List (Nat × Nat × Int) := []
def krS1_m (g : Nat) : sM := []
def krS1_e0 (g : Nat) : sXe := (21, [], [(0, .inr (.inl 0)), (1, .inl sf32), (2, .inl sf32), (3, .inl sf32)], sA0, [], ([], [], [(1, ([(0, 1)], 0)), (2, ([(1, 1)], 0)), (3, ([], ((g : Int) + 1)))], [([(0, (-1)), (4, 1)], (-1))]), [], [])
def krS1_e1 (g : Nat) : sXe := (21, [], [(0, .inr (.inl 0)), (1, .inl sf32), (2, .inl sf32), (3, .inl sf32)], sA0, [], ([], [], [(1, ([(0, 1)], 0)), (2, ([(1, 1), (5, 1), (6, 1)], 0)), (3, ([], ((g : Int) + 1)))], [([(0, 1), (4, (-1))], 0)]), [], [])
theorem krS1_b : ((List.range 8).all fun g => syeB swM sT0 (krS1_m g) 400 0 293 (krS1_L g) (krS1_S g) (krS1_A g) (krS1_P g) (krS1_G g) (krS1_B g) 21 [krS1_e0 g, krS1_e1 g] []) = true := by decide +kernel
theorem krS1 {l : Launch} {Γ : zG} {d : Nat} (hd : 0 ≤ d) {Kp : Option Value → zH → Prop} {lo : zL} {h : zH} {g : Nat} (h_g : g < 8) {x ac n co ab bl : Int} (hi : sInv swM h) (b_x : 1 ≤ x ∧ x ≤ 9) (b_ac : 0 ≤ ac ∧ ac ≤ 15984) (b_n : ((g : Int) + 1) ≤ n ∧ n ≤ 8) (b_co : (-2147483648) ≤ co ∧ co ≤ 2147483647) (b_ab : 0 ≤ ab ∧ ab ≤ 999) (b_bl : 0 ≤ bl ∧ bl ≤ 999) (l0 : zget lo 0 = some (.ref 0)) (l1 : zI lo 1 x) (l2 : zI lo 2 ac) (l3 : zI lo 3 (g : Int)) (p_n : pI h 0 13 = n) (p_co : pI h 11 g = co) (p_ab : pI h 29 g = ab) (p_bl : pI h 30 g = bl)
    (hE0 : ∀ (lo' : zL) (h' : zH), sInv swM h' → sMd (krS1_m g) h h' → 0 ≤ -x + co - 1 → zget lo' 0 = some (.ref 0) → zI lo' 1 x → zI lo' 2 ac → zI lo' 3 ((g : Int) + 1) → zX l Γ false (d + 1) (zhd 293) (zMQ' Γ false (zhd 293) Kp) 0 0 21 lo' [] h')
    (hE1 : ∀ (lo' : zL) (h' : zH), sInv swM h' → sMd (krS1_m g) h h' → 0 ≤ x - co → zget lo' 0 = some (.ref 0) → zI lo' 1 x → zI lo' 2 (ac + ab + bl) → zI lo' 3 ((g : Int) + 1) → zX l Γ false (d + 1) (zhd 293) (zMQ' Γ false (zhd 293) Kp) 0 0 21 lo' [] h') : zX l Γ false (d + 1) (zhd 293) (zMQ' Γ false (zhd 293) Kp) 0 0 21 lo [] h := by
  refine sye_ok (mi := 293) (pc := 21) (fun i => [x, ac, (g : Int), n, co, ab, bl].getD i 0) (zall_r krS1_b h_g) (fun _ _ hc _ => nomatch hc) hd ⟨l0, zIm l1 (by show 1 ≤ x; omega) (by show x ≤ 9; omega), zIm l2 (by show 0 ≤ ac; omega) (by show ac ≤ 15984; omega), zIm l3 (by show (g : Int) ≤ (g : Int); omega) (by show (g : Int) ≤ (g : Int); omega), trivial⟩ rfl ⟨(fun _ hc => nomatch hc), (fun _ hc => nomatch hc), (fun _ hc => nomatch hc), Or.inl rfl⟩ ⟨⟨p_n, by show ((g : Int) + 1) ≤ n; omega, by show n ≤ 8; omega⟩, ⟨p_co, by show (-2147483648) ≤ co; omega, by show co ≤ 2147483647; omega⟩, ⟨p_ab, by show 0 ≤ ab; omega, by show ab ≤ 999; omega⟩, ⟨p_bl, by show 0 ≤ bl; omega, by show bl ≤ 999; omega⟩, trivial⟩ trivial (fun _ hc => nomatch hc) hi ?_ ?_
  · intro e he lo' st' h' hp hi' hm
    rcases List.mem_cons.mp he with rfl | he
    · obtain ⟨p1, p2, -, hz⟩ := hp
      obtain ⟨⟨z1, z2, z3, z4⟩, z5, z6⟩ := hz
      have c0 : 0 ≤ -x + co - 1 := by have q_ : (0 : Int) ≤ ((-1) * x + (1 * co + 0)) + (-1) := z4 ([(0, (-1)), (4, 1)], (-1)) (List.mem_of_getElem? (i := 0) rfl); omega
      have o0 : zget lo' 0 = some (.ref 0) := locR (p2 (0, .inr (.inl 0)) (List.mem_of_getElem? (i := 0) rfl))
      have o1 : zI lo' 1 x := zI_of (p2 (1, .inl sf32) (List.mem_of_getElem? (i := 1) rfl)) (z3 (1, ([(0, 1)], 0)) (List.mem_of_getElem? (i := 0) rfl)) (show (1 * x + 0) + 0 = x from by omega)
      have o2 : zI lo' 2 ac := zI_of (p2 (2, .inl sf32) (List.mem_of_getElem? (i := 2) rfl)) (z3 (2, ([(1, 1)], 0)) (List.mem_of_getElem? (i := 1) rfl)) (show (1 * ac + 0) + 0 = ac from by omega)
      have o3 : zI lo' 3 ((g : Int) + 1) := zI_of (p2 (3, .inl sf32) (List.mem_of_getElem? (i := 3) rfl)) (z3 (3, ([], ((g : Int) + 1))) (List.mem_of_getElem? (i := 2) rfl)) (show 0 + ((g : Int) + 1) = ((g : Int) + 1) from by omega)
      have p1 : _ = [] := p1
      subst p1
      exact hE0 lo' h' hi' hm c0 o0 o1 o2 o3
    rcases List.mem_cons.mp he with rfl | he
    · obtain ⟨p1, p2, -, hz⟩ := hp
      obtain ⟨⟨z1, z2, z3, z4⟩, z5, z6⟩ := hz
      have c0 : 0 ≤ x - co := by have q_ : (0 : Int) ≤ (1 * x + ((-1) * co + 0)) + 0 := z4 ([(0, 1), (4, (-1))], 0) (List.mem_of_getElem? (i := 0) rfl); omega
      have o0 : zget lo' 0 = some (.ref 0) := locR (p2 (0, .inr (.inl 0)) (List.mem_of_getElem? (i := 0) rfl))
      have o1 : zI lo' 1 x := zI_of (p2 (1, .inl sf32) (List.mem_of_getElem? (i := 1) rfl)) (z3 (1, ([(0, 1)], 0)) (List.mem_of_getElem? (i := 0) rfl)) (show (1 * x + 0) + 0 = x from by omega)
      have o2 : zI lo' 2 (ac + ab + bl) := zI_of (p2 (2, .inl sf32) (List.mem_of_getElem? (i := 2) rfl)) (z3 (2, ([(1, 1), (5, 1), (6, 1)], 0)) (List.mem_of_getElem? (i := 1) rfl)) (show (1 * ac + (1 * ab + (1 * bl + 0))) + 0 = ac + ab + bl from by omega)
      have o3 : zI lo' 3 ((g : Int) + 1) := zI_of (p2 (3, .inl sf32) (List.mem_of_getElem? (i := 3) rfl)) (z3 (3, ([], ((g : Int) + 1))) (List.mem_of_getElem? (i := 2) rfl)) (show 0 + ((g : Int) + 1) = ((g : Int) + 1) from by omega)
      have p1 : _ = [] := p1
      subst p1
      exact hE1 lo' h' hi' hm c0 o0 o1 o2 o3
    cases he
  · intro e he r' h' hp hi' hm
    cases he
def krS2_L (g : Nat) : List (Nat × sT) := [(0, .inr (.inl 0)), (1, .inl (1, 9)), (2, .inl (0, 15984)), (3, .inl ((g : Int), (g : Int)))]
def krS2_S (g : Nat) : List sT := []
def krS2_A (g : Nat) : sAs := ([], [], [], [])
def krS2_P (g : Nat) : List sP0 := [(0, (none, 13), (0, (g : Int)))]
def krS2_G (g : Nat) : List sP0 := []
def krS2_B (g : Nat) : List (Nat × Nat × Int) := []
def krS2_m (g : Nat) : sM := []
def krS2_r0 (g : Nat) : sXr := (some (.inl sf32), sA0, [], ([], [(0, ([(1, 1)], 0))], [], []), [], [])
theorem krS2_b : ((List.range 9).all fun g => syeB swM sT0 (krS2_m g) 400 0 293 (krS2_L g) (krS2_S g) (krS2_A g) (krS2_P g) (krS2_G g) (krS2_B g) 21 [] [krS2_r0 g]) = true := by decide +kernel
theorem krS2 {l : Launch} {Γ : zG} {d : Nat} (hd : 0 ≤ d) {Kp : Option Value → zH → Prop} {lo : zL} {h : zH} {g : Nat} (h_g : g < 9) {x ac n : Int} (hi : sInv swM h) (b_x : 1 ≤ x ∧ x ≤ 9) (b_ac : 0 ≤ ac ∧ ac ≤ 15984) (b_n : 0 ≤ n ∧ n ≤ (g : Int)) (l0 : zget lo 0 = some (.ref 0)) (l1 : zI lo 1 x) (l2 : zI lo 2 ac) (l3 : zI lo 3 (g : Int)) (p_n : pI h 0 13 = n)
    (hR0 : ∀ (h' : zH) (r_ : Int32), sInv swM h' → sMd (krS2_m g) h h' → r_.toInt = ac → Kp (some (.int r_)) h') : zX l Γ false (d + 1) (zhd 293) (zMQ' Γ false (zhd 293) Kp) 0 0 21 lo [] h := by
  refine sye_ok (mi := 293) (pc := 21) (fun i => [x, ac, (g : Int), n].getD i 0) (zall_r krS2_b h_g) (fun _ _ hc _ => nomatch hc) hd ⟨l0, zIm l1 (by show 1 ≤ x; omega) (by show x ≤ 9; omega), zIm l2 (by show 0 ≤ ac; omega) (by show ac ≤ 15984; omega), zIm l3 (by show (g : Int) ≤ (g : Int); omega) (by show (g : Int) ≤ (g : Int); omega), trivial⟩ rfl ⟨(fun _ hc => nomatch hc), (fun _ hc => nomatch hc), (fun _ hc => nomatch hc), Or.inl rfl⟩ ⟨⟨p_n, by show 0 ≤ n; omega, by show n ≤ (g : Int); omega⟩, trivial⟩ trivial (fun _ hc => nomatch hc) hi ?_ ?_
  · intro e he lo' st' h' hp hi' hm
    cases he
  · intro e he r' h' hp hi' hm
    rcases List.mem_cons.mp he with rfl | he
    · obtain ⟨p1, -, hz⟩ := hp
      obtain ⟨⟨z1, z2, z3, z4⟩, z5, z6⟩ := hz
      obtain ⟨r_, rfl, hv⟩ := ansI p1 (z2 (0, ([(1, 1)], 0)) (List.mem_of_getElem? (i := 0) rfl))
      have s0 : r_.toInt = ac := (show r_.toInt = (1 * ac + 0) + 0 from hv).trans (by omega)
      exact hR0 h' r_ hi' hm s0
    cases he
def kqH0_L : List sT := [.inr (.inl 0)]
def kqH0_A : sAs := ([], [], [], [])
def kqH0_P : List sP0 := []
def kqH0_G : List sP0 := []
def kqH0_B : List (Nat × Nat × Int) := []
def kqH0_m : sM := []
def kqH0_e0 : sXe := (6, [], [(0, .inr (.inl 0)), (1, .inl sf32), (2, .inl sf32), (3, .inl sf32)], sA0, [], ([], [], [(1, ([], (-1))), (2, ([], (-1))), (3, ([], 0))], []), [], [])
theorem kqH0_b : syfB swC sT0 kqH0_m 400 0 152 kqH0_L kqH0_A kqH0_P kqH0_G kqH0_B [kqH0_e0] [] = true := by decide +kernel
theorem kqH0 {l : Launch} {Γ : zG} {d : Nat} (hd : 0 ≤ d) {Kp : Option Value → zH → Prop} {h : zH} (hi : sInv swC h) 
    (hE0 : ∀ (lo' : zL) (h' : zH), sInv swC h' → sMd kqH0_m h h' → zget lo' 0 = some (.ref 0) → zI lo' 1 (-1) → zI lo' 2 (-1) → zI lo' 3 0 → zX l Γ false (d + 1) (zhd 152) (zMQ' Γ false (zhd 152) Kp) 0 0 6 lo' [] h') : zSem l Γ false (d + 1) (zhd 152) [.ref 0] h Kp := by
  refine syf_ok (mi := 152) (fun i => [].getD i 0) kqH0_b (fun _ _ hc _ => nomatch hc) hd ⟨_, _, rfl, rfl, rfl⟩ ⟨rfl, trivial⟩ ⟨(fun _ hc => nomatch hc), (fun _ hc => nomatch hc), (fun _ hc => nomatch hc), Or.inl rfl⟩ trivial trivial (fun _ hc => nomatch hc) hi ?_ ?_
  · intro e he lo' st' h' hp hi' hm
    rcases List.mem_cons.mp he with rfl | he
    · obtain ⟨p1, p2, -, hz⟩ := hp
      obtain ⟨⟨z1, z2, z3, z4⟩, z5, z6⟩ := hz
      have o0 : zget lo' 0 = some (.ref 0) := locR (p2 (0, .inr (.inl 0)) (List.mem_of_getElem? (i := 0) rfl))
      have o1 : zI lo' 1 (-1) := zI_of (p2 (1, .inl sf32) (List.mem_of_getElem? (i := 1) rfl)) (z3 (1, ([], (-1))) (List.mem_of_getElem? (i := 0) rfl)) (show 0 + (-1) = (-1) from by omega)
      have o2 : zI lo' 2 (-1) := zI_of (p2 (2, .inl sf32) (List.mem_of_getElem? (i := 2) rfl)) (z3 (2, ([], (-1))) (List.mem_of_getElem? (i := 1) rfl)) (show 0 + (-1) = (-1) from by omega)
      have o3 : zI lo' 3 0 := zI_of (p2 (3, .inl sf32) (List.mem_of_getElem? (i := 3) rfl)) (z3 (3, ([], 0)) (List.mem_of_getElem? (i := 2) rfl)) (show 0 + 0 = 0 from by omega)
      have p1 : _ = [] := p1
      subst p1
      exact hE0 lo' h' hi' hm o0 o1 o2 o3
    cases he
  · intro e he r' h' hp hi' hm
    cases he
def kqH1_L (g : Nat) (t : Nat) : List (Nat × sT) := [(0, .inr (.inl 0)), (1, .inl ((-1), 7)), (2, .inl ((-1), 1998)), (3, .inl ((g : Int), (g : Int)))]
def kqH1_S (g : Nat) (t : Nat) : List sT := []
def kqH1_A (g : Nat) (t : Nat) : sAs := ([], [(0, 5, (17 * t + 9))], [], [])
def kqH1_P (g : Nat) (t : Nat) : List sP0 := [((17 * t + 12), (none, 3), (((g : Int) + 1), 8)), (44, (none, ((g : Nat) : Int)), (0, 999)), (45, (none, ((g : Nat) : Int)), (0, 999))]
def kqH1_G (g : Nat) (t : Nat) : List sP0 := []
def kqH1_B (g : Nat) (t : Nat) : List (Nat × Nat × Int) := []
def kqH1_m (g : Nat) (t : Nat) : sM := []
def kqH1_e0 (g : Nat) (t : Nat) : sXe := (6, [], [(0, .inr (.inl 0)), (1, .inl sf32), (2, .inl sf32), (3, .inl sf32)], sA0, [], ([], [], [(1, ([(0, 1)], 0)), (2, ([(1, 1)], 0)), (3, ([], ((g : Int) + 1)))], [([(1, 1), (4, (-1)), (5, (-1))], 0)]), [], [])
def kqH1_e1 (g : Nat) (t : Nat) : sXe := (6, [], [(0, .inr (.inl 0)), (1, .inl sf32), (2, .inl sf32), (3, .inl sf32)], sA0, [], ([], [], [(1, ([], (g : Int))), (2, ([(4, 1), (5, 1)], 0)), (3, ([], ((g : Int) + 1)))], [([(1, (-1)), (4, 1), (5, 1)], (-1))]), [], [])
theorem kqH1_b : ((List.range 8).all fun g => ((List.range 2).all fun t => syeB swC sT0 (kqH1_m g t) 400 0 152 (kqH1_L g t) (kqH1_S g t) (kqH1_A g t) (kqH1_P g t) (kqH1_G g t) (kqH1_B g t) 6 [kqH1_e0 g t, kqH1_e1 g t] [])) = true := by decide +kernel
theorem kqH1 {l : Launch} {Γ : zG} {d : Nat} (hd : 0 ≤ d) {Kp : Option Value → zH → Prop} {lo : zL} {h : zH} {g : Nat} (h_g : g < 8) {t : Nat} (h_t : t < 2) {bb bv n ab bl : Int} (hi : sInv swC h) (b_bb : (-1) ≤ bb ∧ bb ≤ 7) (b_bv : (-1) ≤ bv ∧ bv ≤ 1998) (b_n : ((g : Int) + 1) ≤ n ∧ n ≤ 8) (b_ab : 0 ≤ ab ∧ ab ≤ 999) (b_bl : 0 ≤ bl ∧ bl ≤ 999) (l0 : zget lo 0 = some (.ref 0)) (l1 : zI lo 1 bb) (l2 : zI lo 2 bv) (l3 : zI lo 3 (g : Int)) (p_n : pI h (17 * t + 12) 3 = n) (p_ab : pI h 44 g = ab) (p_bl : pI h 45 g = bl) (q0 : h.2.2.2 0 5 = some (17 * t + 9))
    (hE0 : ∀ (lo' : zL) (h' : zH), sInv swC h' → sMd (kqH1_m g t) h h' → 0 ≤ bv - ab - bl → zget lo' 0 = some (.ref 0) → zI lo' 1 bb → zI lo' 2 bv → zI lo' 3 ((g : Int) + 1) → zX l Γ false (d + 1) (zhd 152) (zMQ' Γ false (zhd 152) Kp) 0 0 6 lo' [] h')
    (hE1 : ∀ (lo' : zL) (h' : zH), sInv swC h' → sMd (kqH1_m g t) h h' → 0 ≤ -bv + ab + bl - 1 → zget lo' 0 = some (.ref 0) → zI lo' 1 (g : Int) → zI lo' 2 (ab + bl) → zI lo' 3 ((g : Int) + 1) → zX l Γ false (d + 1) (zhd 152) (zMQ' Γ false (zhd 152) Kp) 0 0 6 lo' [] h') : zX l Γ false (d + 1) (zhd 152) (zMQ' Γ false (zhd 152) Kp) 0 0 6 lo [] h := by
  refine sye_ok (mi := 152) (pc := 6) (fun i => [bb, bv, (g : Int), n, ab, bl].getD i 0) (zall_r (zall_r kqH1_b h_g) h_t) (fun _ _ hc _ => nomatch hc) hd ⟨l0, zIm l1 (by show (-1) ≤ bb; omega) (by show bb ≤ 7; omega), zIm l2 (by show (-1) ≤ bv; omega) (by show bv ≤ 1998; omega), zIm l3 (by show (g : Int) ≤ (g : Int); omega) (by show (g : Int) ≤ (g : Int); omega), trivial⟩ rfl ⟨(fun _ hc => nomatch hc), (sfm q0 (fun _ hc => nomatch hc)), (fun _ hc => nomatch hc), Or.inl rfl⟩ ⟨⟨p_n, by show ((g : Int) + 1) ≤ n; omega, by show n ≤ 8; omega⟩, ⟨p_ab, by show 0 ≤ ab; omega, by show ab ≤ 999; omega⟩, ⟨p_bl, by show 0 ≤ bl; omega, by show bl ≤ 999; omega⟩, trivial⟩ trivial (fun _ hc => nomatch hc) hi ?_ ?_
  · intro e he lo' st' h' hp hi' hm
    rcases List.mem_cons.mp he with rfl | he
    · obtain ⟨p1, p2, -, hz⟩ := hp
      obtain ⟨⟨z1, z2, z3, z4⟩, z5, z6⟩ := hz
      have c0 : 0 ≤ bv - ab - bl := by have q_ : (0 : Int) ≤ (1 * bv + ((-1) * ab + ((-1) * bl + 0))) + 0 := z4 ([(1, 1), (4, (-1)), (5, (-1))], 0) (List.mem_of_getElem? (i := 0) rfl); omega
      have o0 : zget lo' 0 = some (.ref 0) := locR (p2 (0, .inr (.inl 0)) (List.mem_of_getElem? (i := 0) rfl))
      have o1 : zI lo' 1 bb := zI_of (p2 (1, .inl sf32) (List.mem_of_getElem? (i := 1) rfl)) (z3 (1, ([(0, 1)], 0)) (List.mem_of_getElem? (i := 0) rfl)) (show (1 * bb + 0) + 0 = bb from by omega)
      have o2 : zI lo' 2 bv := zI_of (p2 (2, .inl sf32) (List.mem_of_getElem? (i := 2) rfl)) (z3 (2, ([(1, 1)], 0)) (List.mem_of_getElem? (i := 1) rfl)) (show (1 * bv + 0) + 0 = bv from by omega)
      have o3 : zI lo' 3 ((g : Int) + 1) := zI_of (p2 (3, .inl sf32) (List.mem_of_getElem? (i := 3) rfl)) (z3 (3, ([], ((g : Int) + 1))) (List.mem_of_getElem? (i := 2) rfl)) (show 0 + ((g : Int) + 1) = ((g : Int) + 1) from by omega)
      have p1 : _ = [] := p1
      subst p1
      exact hE0 lo' h' hi' hm c0 o0 o1 o2 o3
    rcases List.mem_cons.mp he with rfl | he
    · obtain ⟨p1, p2, -, hz⟩ := hp
      obtain ⟨⟨z1, z2, z3, z4⟩, z5, z6⟩ := hz
      have c0 : 0 ≤ -bv + ab + bl - 1 := by have q_ : (0 : Int) ≤ ((-1) * bv + (1 * ab + (1 * bl + 0))) + (-1) := z4 ([(1, (-1)), (4, 1), (5, 1)], (-1)) (List.mem_of_getElem? (i := 0) rfl); omega
      have o0 : zget lo' 0 = some (.ref 0) := locR (p2 (0, .inr (.inl 0)) (List.mem_of_getElem? (i := 0) rfl))
      have o1 : zI lo' 1 (g : Int) := zI_of (p2 (1, .inl sf32) (List.mem_of_getElem? (i := 1) rfl)) (z3 (1, ([], (g : Int))) (List.mem_of_getElem? (i := 0) rfl)) (show 0 + (g : Int) = (g : Int) from by omega)
      have o2 : zI lo' 2 (ab + bl) := zI_of (p2 (2, .inl sf32) (List.mem_of_getElem? (i := 2) rfl)) (z3 (2, ([(4, 1), (5, 1)], 0)) (List.mem_of_getElem? (i := 1) rfl)) (show (1 * ab + (1 * bl + 0)) + 0 = ab + bl from by omega)
      have o3 : zI lo' 3 ((g : Int) + 1) := zI_of (p2 (3, .inl sf32) (List.mem_of_getElem? (i := 3) rfl)) (z3 (3, ([], ((g : Int) + 1))) (List.mem_of_getElem? (i := 2) rfl)) (show 0 + ((g : Int) + 1) = ((g : Int) + 1) from by omega)
      have p1 : _ = [] := p1
      subst p1
      exact hE1 lo' h' hi' hm c0 o0 o1 o2 o3
    cases he
  · intro e he r' h' hp hi' hm
    cases he
def kqH2_L (g : Nat) (t : Nat) : List (Nat × sT) := [(0, .inr (.inl 0)), (1, .inl ((-1), 7)), (2, .inl ((-1), 1998)), (3, .inl ((g : Int), (g : Int)))]
def kqH2_S (g : Nat) (t : Nat) : List sT := []
def kqH2_A (g : Nat) (t : Nat) : sAs := ([], [(0, 5, (17 * t + 9))], [], [])
def kqH2_P (g : Nat) (t : Nat) : List sP0 := [((17 * t + 12), (none, 3), (0, (g : Int)))]
def kqH2_G (g : Nat) (t : Nat) : List sP0 := []
def kqH2_B (g : Nat) (t : Nat) : List (Nat × Nat × Int) := []
def kqH2_m (g : Nat) (t : Nat) : sM := []
def kqH2_r0 (g : Nat) (t : Nat) : sXr := (some (.inl sf32), sA0, [], ([], [(0, ([(0, 1)], 0))], [], []), [], [])
theorem kqH2_b : ((List.range 9).all fun g => ((List.range 2).all fun t => syeB swC sT0 (kqH2_m g t) 400 0 152 (kqH2_L g t) (kqH2_S g t) (kqH2_A g t) (kqH2_P g t) (kqH2_G g t) (kqH2_B g t) 6 [] [kqH2_r0 g t])) = true := by decide +kernel
theorem kqH2 {l : Launch} {Γ : zG} {d : Nat} (hd : 0 ≤ d) {Kp : Option Value → zH → Prop} {lo : zL} {h : zH} {g : Nat} (h_g : g < 9) {t : Nat} (h_t : t < 2) {bb bv n : Int} (hi : sInv swC h) (b_bb : (-1) ≤ bb ∧ bb ≤ 7) (b_bv : (-1) ≤ bv ∧ bv ≤ 1998) (b_n : 0 ≤ n ∧ n ≤ (g : Int)) (l0 : zget lo 0 = some (.ref 0)) (l1 : zI lo 1 bb) (l2 : zI lo 2 bv) (l3 : zI lo 3 (g : Int)) (p_n : pI h (17 * t + 12) 3 = n) (q0 : h.2.2.2 0 5 = some (17 * t + 9))
    (hR0 : ∀ (h' : zH) (r_ : Int32), sInv swC h' → sMd (kqH2_m g t) h h' → r_.toInt = bb → Kp (some (.int r_)) h') : zX l Γ false (d + 1) (zhd 152) (zMQ' Γ false (zhd 152) Kp) 0 0 6 lo [] h := by
  refine sye_ok (mi := 152) (pc := 6) (fun i => [bb, bv, (g : Int), n].getD i 0) (zall_r (zall_r kqH2_b h_g) h_t) (fun _ _ hc _ => nomatch hc) hd ⟨l0, zIm l1 (by show (-1) ≤ bb; omega) (by show bb ≤ 7; omega), zIm l2 (by show (-1) ≤ bv; omega) (by show bv ≤ 1998; omega), zIm l3 (by show (g : Int) ≤ (g : Int); omega) (by show (g : Int) ≤ (g : Int); omega), trivial⟩ rfl ⟨(fun _ hc => nomatch hc), (sfm q0 (fun _ hc => nomatch hc)), (fun _ hc => nomatch hc), Or.inl rfl⟩ ⟨⟨p_n, by show 0 ≤ n; omega, by show n ≤ (g : Int); omega⟩, trivial⟩ trivial (fun _ hc => nomatch hc) hi ?_ ?_
  · intro e he lo' st' h' hp hi' hm
    cases he
  · intro e he r' h' hp hi' hm
    rcases List.mem_cons.mp he with rfl | he
    · obtain ⟨p1, -, hz⟩ := hp
      obtain ⟨⟨z1, z2, z3, z4⟩, z5, z6⟩ := hz
      obtain ⟨r_, rfl, hv⟩ := ansI p1 (z2 (0, ([(0, 1)], 0)) (List.mem_of_getElem? (i := 0) rfl))
      have s0 : r_.toInt = bb := (show r_.toInt = (1 * bb + 0) + 0 from hv).trans (by omega)
      exact hR0 h' r_ hi' hm s0
    cases he
def krH0_L : List sT := [.inr (.inl 0)]
def krH0_A : sAs := ([], [], [], [])
def krH0_P : List sP0 := []
def krH0_G : List sP0 := []
def krH0_B : List (Nat × Nat × Int) := []
def krH0_m : sM := [(0, 2, 3)]
def krH0_e0 : sXe := (9, [], [(0, .inr (.inl 0)), (1, .inl sf32), (2, .inl sf32)], sA0, [], ([(0, (none, 2), ([], 0))], [], [(1, ([], (-1))), (2, ([], 0))], []), [], [])
theorem krH0_b : syfB swM sT0 krH0_m 400 0 290 krH0_L krH0_A krH0_P krH0_G krH0_B [krH0_e0] [] = true := by decide +kernel
theorem krH0 {l : Launch} {Γ : zG} {d : Nat} (hd : 0 ≤ d) {Kp : Option Value → zH → Prop} {h : zH} (hi : sInv swM h) 
    (hE0 : ∀ (lo' : zL) (h' : zH), sInv swM h' → sMd krH0_m h h' → pI h' 0 2 = 0 → zget lo' 0 = some (.ref 0) → zI lo' 1 (-1) → zI lo' 2 0 → zX l Γ false (d + 1) (zhd 290) (zMQ' Γ false (zhd 290) Kp) 0 0 9 lo' [] h') : zSem l Γ false (d + 1) (zhd 290) [.ref 0] h Kp := by
  refine syf_ok (mi := 290) (fun i => [].getD i 0) krH0_b (fun _ _ hc _ => nomatch hc) hd ⟨_, _, rfl, rfl, rfl⟩ ⟨rfl, trivial⟩ ⟨(fun _ hc => nomatch hc), (fun _ hc => nomatch hc), (fun _ hc => nomatch hc), Or.inl rfl⟩ trivial trivial (fun _ hc => nomatch hc) hi ?_ ?_
  · intro e he lo' st' h' hp hi' hm
    rcases List.mem_cons.mp he with rfl | he
    · obtain ⟨p1, p2, -, hz⟩ := hp
      obtain ⟨⟨z1, z2, z3, z4⟩, z5, z6⟩ := hz
      have k0 : pI h' 0 2 = 0 := (show pI h' 0 2 = 0 + 0 from z1 (0, (none, 2), ([], 0)) (List.mem_of_getElem? (i := 0) rfl)).trans (by omega)
      have o0 : zget lo' 0 = some (.ref 0) := locR (p2 (0, .inr (.inl 0)) (List.mem_of_getElem? (i := 0) rfl))
      have o1 : zI lo' 1 (-1) := zI_of (p2 (1, .inl sf32) (List.mem_of_getElem? (i := 1) rfl)) (z3 (1, ([], (-1))) (List.mem_of_getElem? (i := 0) rfl)) (show 0 + (-1) = (-1) from by omega)
      have o2 : zI lo' 2 0 := zI_of (p2 (2, .inl sf32) (List.mem_of_getElem? (i := 2) rfl)) (z3 (2, ([], 0)) (List.mem_of_getElem? (i := 1) rfl)) (show 0 + 0 = 0 from by omega)
      have p1 : _ = [] := p1
      subst p1
      exact hE0 lo' h' hi' hm k0 o0 o1 o2
    cases he
  · intro e he r' h' hp hi' hm
    cases he
def krH1_L (g : Nat) : List (Nat × sT) := [(0, .inr (.inl 0)), (1, .inl ((-1), (-1))), (2, .inl ((g : Int), (g : Int)))]
def krH1_S (g : Nat) : List sT := []
def krH1_A (g : Nat) : sAs := ([], [], [], [])
def krH1_P (g : Nat) : List sP0 := [(0, (none, 13), (((g : Int) + 1), 8))]
def krH1_G (g : Nat) : List sP0 := []
def krH1_B (g : Nat) : List (Nat × Nat × Int) := []
def krH1_m (g : Nat) : sM := []
def krH1_e0 (g : Nat) : sXe := (9, [], [(0, .inr (.inl 0)), (1, .inl sf32), (2, .inl sf32)], sA0, [], ([], [], [(1, ([], (g : Int))), (2, ([], ((g : Int) + 1)))], []), [], [])
theorem krH1_b : ((List.range 8).all fun g => syeB swM sT0 (krH1_m g) 400 0 290 (krH1_L g) (krH1_S g) (krH1_A g) (krH1_P g) (krH1_G g) (krH1_B g) 9 [krH1_e0 g] []) = true := by decide +kernel
theorem krH1 {l : Launch} {Γ : zG} {d : Nat} (hd : 0 ≤ d) {Kp : Option Value → zH → Prop} {lo : zL} {h : zH} {g : Nat} (h_g : g < 8) {n : Int} (hi : sInv swM h) (b_n : ((g : Int) + 1) ≤ n ∧ n ≤ 8) (l0 : zget lo 0 = some (.ref 0)) (l1 : zI lo 1 (-1)) (l2 : zI lo 2 (g : Int)) (p_n : pI h 0 13 = n)
    (hE0 : ∀ (lo' : zL) (h' : zH), sInv swM h' → sMd (krH1_m g) h h' → zget lo' 0 = some (.ref 0) → zI lo' 1 (g : Int) → zI lo' 2 ((g : Int) + 1) → zX l Γ false (d + 1) (zhd 290) (zMQ' Γ false (zhd 290) Kp) 0 0 9 lo' [] h') : zX l Γ false (d + 1) (zhd 290) (zMQ' Γ false (zhd 290) Kp) 0 0 9 lo [] h := by
  refine sye_ok (mi := 290) (pc := 9) (fun i => [(-1), (g : Int), n].getD i 0) (zall_r krH1_b h_g) (fun _ _ hc _ => nomatch hc) hd ⟨l0, zIm l1 (by show (-1) ≤ (-1); omega) (by show (-1) ≤ (-1); omega), zIm l2 (by show (g : Int) ≤ (g : Int); omega) (by show (g : Int) ≤ (g : Int); omega), trivial⟩ rfl ⟨(fun _ hc => nomatch hc), (fun _ hc => nomatch hc), (fun _ hc => nomatch hc), Or.inl rfl⟩ ⟨⟨p_n, by show ((g : Int) + 1) ≤ n; omega, by show n ≤ 8; omega⟩, trivial⟩ trivial (fun _ hc => nomatch hc) hi ?_ ?_
  · intro e he lo' st' h' hp hi' hm
    rcases List.mem_cons.mp he with rfl | he
    · obtain ⟨p1, p2, -, hz⟩ := hp
      obtain ⟨⟨z1, z2, z3, z4⟩, z5, z6⟩ := hz
      have o0 : zget lo' 0 = some (.ref 0) := locR (p2 (0, .inr (.inl 0)) (List.mem_of_getElem? (i := 0) rfl))
      have o1 : zI lo' 1 (g : Int) := zI_of (p2 (1, .inl sf32) (List.mem_of_getElem? (i := 1) rfl)) (z3 (1, ([], (g : Int))) (List.mem_of_getElem? (i := 0) rfl)) (show 0 + (g : Int) = (g : Int) from by omega)
      have o2 : zI lo' 2 ((g : Int) + 1) := zI_of (p2 (2, .inl sf32) (List.mem_of_getElem? (i := 2) rfl)) (z3 (2, ([], ((g : Int) + 1))) (List.mem_of_getElem? (i := 1) rfl)) (show 0 + ((g : Int) + 1) = ((g : Int) + 1) from by omega)
      have p1 : _ = [] := p1
      subst p1
      exact hE0 lo' h' hi' hm o0 o1 o2
    cases he
  · intro e he r' h' hp hi' hm
    cases he
def krH2_L (g : Nat) : List (Nat × sT) := [(0, .inr (.inl 0)), (1, .inl (0, 7)), (2, .inl ((g : Int), (g : Int)))]
def krH2_S (g : Nat) : List sT := []
def krH2_A (g : Nat) : sAs := ([], [], [], [])
def krH2_P (g : Nat) : List sP0 := [(0, (none, 13), (((g : Int) + 1), 8)), (29, (none, ((g : Nat) : Int)), (0, 999)), (30, (none, ((g : Nat) : Int)), (0, 999)), (29, (some 0, 0), (0, 999)), (30, (some 0, 0), (0, 999))]
def krH2_G (g : Nat) : List sP0 := []
def krH2_B (g : Nat) : List (Nat × Nat × Int) := []
def krH2_m (g : Nat) : sM := []
def krH2_e0 (g : Nat) : sXe := (9, [], [(0, .inr (.inl 0)), (1, .inl sf32), (2, .inl sf32)], sA0, [], ([], [], [(1, ([(0, 1)], 0)), (2, ([], ((g : Int) + 1)))], [([(3, (-1)), (4, (-1)), (5, 1), (6, 1)], 0)]), [], [])
def krH2_e1 (g : Nat) : sXe := (9, [], [(0, .inr (.inl 0)), (1, .inl sf32), (2, .inl sf32)], sA0, [], ([], [], [(1, ([], (g : Int))), (2, ([], ((g : Int) + 1)))], [([(3, 1), (4, 1), (5, (-1)), (6, (-1))], (-1))]), [], [])
theorem krH2_b : ((List.range 8).all fun g => syeB swM sT0 (krH2_m g) 400 0 290 (krH2_L g) (krH2_S g) (krH2_A g) (krH2_P g) (krH2_G g) (krH2_B g) 9 [krH2_e0 g, krH2_e1 g] []) = true := by decide +kernel
theorem krH2 {l : Launch} {Γ : zG} {d : Nat} (hd : 0 ≤ d) {Kp : Option Value → zH → Prop} {lo : zL} {h : zH} {g : Nat} (h_g : g < 8) {bb n ab bl ax bx : Int} (hi : sInv swM h) (b_bb : 0 ≤ bb ∧ bb ≤ 7) (b_n : ((g : Int) + 1) ≤ n ∧ n ≤ 8) (b_ab : 0 ≤ ab ∧ ab ≤ 999) (b_bl : 0 ≤ bl ∧ bl ≤ 999) (b_ax : 0 ≤ ax ∧ ax ≤ 999) (b_bx : 0 ≤ bx ∧ bx ≤ 999) (l0 : zget lo 0 = some (.ref 0)) (l1 : zI lo 1 bb) (l2 : zI lo 2 (g : Int)) (p_n : pI h 0 13 = n) (p_ab : pI h 29 g = ab) (p_bl : pI h 30 g = bl) (p_ax : pI h 29 (bb + 0).toNat = ax) (p_bx : pI h 30 (bb + 0).toNat = bx)
    (hE0 : ∀ (lo' : zL) (h' : zH), sInv swM h' → sMd (krH2_m g) h h' → 0 ≤ -ab - bl + ax + bx → zget lo' 0 = some (.ref 0) → zI lo' 1 bb → zI lo' 2 ((g : Int) + 1) → zX l Γ false (d + 1) (zhd 290) (zMQ' Γ false (zhd 290) Kp) 0 0 9 lo' [] h')
    (hE1 : ∀ (lo' : zL) (h' : zH), sInv swM h' → sMd (krH2_m g) h h' → 0 ≤ ab + bl - ax - bx - 1 → zget lo' 0 = some (.ref 0) → zI lo' 1 (g : Int) → zI lo' 2 ((g : Int) + 1) → zX l Γ false (d + 1) (zhd 290) (zMQ' Γ false (zhd 290) Kp) 0 0 9 lo' [] h') : zX l Γ false (d + 1) (zhd 290) (zMQ' Γ false (zhd 290) Kp) 0 0 9 lo [] h := by
  refine sye_ok (mi := 290) (pc := 9) (fun i => [bb, (g : Int), n, ab, bl, ax, bx].getD i 0) (zall_r krH2_b h_g) (fun _ _ hc _ => nomatch hc) hd ⟨l0, zIm l1 (by show 0 ≤ bb; omega) (by show bb ≤ 7; omega), zIm l2 (by show (g : Int) ≤ (g : Int); omega) (by show (g : Int) ≤ (g : Int); omega), trivial⟩ rfl ⟨(fun _ hc => nomatch hc), (fun _ hc => nomatch hc), (fun _ hc => nomatch hc), Or.inl rfl⟩ ⟨⟨p_n, by show ((g : Int) + 1) ≤ n; omega, by show n ≤ 8; omega⟩, ⟨p_ab, by show 0 ≤ ab; omega, by show ab ≤ 999; omega⟩, ⟨p_bl, by show 0 ≤ bl; omega, by show bl ≤ 999; omega⟩, ⟨p_ax, by show 0 ≤ ax; omega, by show ax ≤ 999; omega⟩, ⟨p_bx, by show 0 ≤ bx; omega, by show bx ≤ 999; omega⟩, trivial⟩ trivial (fun _ hc => nomatch hc) hi ?_ ?_
  · intro e he lo' st' h' hp hi' hm
    rcases List.mem_cons.mp he with rfl | he
    · obtain ⟨p1, p2, -, hz⟩ := hp
      obtain ⟨⟨z1, z2, z3, z4⟩, z5, z6⟩ := hz
      have c0 : 0 ≤ -ab - bl + ax + bx := by have q_ : (0 : Int) ≤ ((-1) * ab + ((-1) * bl + (1 * ax + (1 * bx + 0)))) + 0 := z4 ([(3, (-1)), (4, (-1)), (5, 1), (6, 1)], 0) (List.mem_of_getElem? (i := 0) rfl); omega
      have o0 : zget lo' 0 = some (.ref 0) := locR (p2 (0, .inr (.inl 0)) (List.mem_of_getElem? (i := 0) rfl))
      have o1 : zI lo' 1 bb := zI_of (p2 (1, .inl sf32) (List.mem_of_getElem? (i := 1) rfl)) (z3 (1, ([(0, 1)], 0)) (List.mem_of_getElem? (i := 0) rfl)) (show (1 * bb + 0) + 0 = bb from by omega)
      have o2 : zI lo' 2 ((g : Int) + 1) := zI_of (p2 (2, .inl sf32) (List.mem_of_getElem? (i := 2) rfl)) (z3 (2, ([], ((g : Int) + 1))) (List.mem_of_getElem? (i := 1) rfl)) (show 0 + ((g : Int) + 1) = ((g : Int) + 1) from by omega)
      have p1 : _ = [] := p1
      subst p1
      exact hE0 lo' h' hi' hm c0 o0 o1 o2
    rcases List.mem_cons.mp he with rfl | he
    · obtain ⟨p1, p2, -, hz⟩ := hp
      obtain ⟨⟨z1, z2, z3, z4⟩, z5, z6⟩ := hz
      have c0 : 0 ≤ ab + bl - ax - bx - 1 := by have q_ : (0 : Int) ≤ (1 * ab + (1 * bl + ((-1) * ax + ((-1) * bx + 0)))) + (-1) := z4 ([(3, 1), (4, 1), (5, (-1)), (6, (-1))], (-1)) (List.mem_of_getElem? (i := 0) rfl); omega
      have o0 : zget lo' 0 = some (.ref 0) := locR (p2 (0, .inr (.inl 0)) (List.mem_of_getElem? (i := 0) rfl))
      have o1 : zI lo' 1 (g : Int) := zI_of (p2 (1, .inl sf32) (List.mem_of_getElem? (i := 1) rfl)) (z3 (1, ([], (g : Int))) (List.mem_of_getElem? (i := 0) rfl)) (show 0 + (g : Int) = (g : Int) from by omega)
      have o2 : zI lo' 2 ((g : Int) + 1) := zI_of (p2 (2, .inl sf32) (List.mem_of_getElem? (i := 2) rfl)) (z3 (2, ([], ((g : Int) + 1))) (List.mem_of_getElem? (i := 1) rfl)) (show 0 + ((g : Int) + 1) = ((g : Int) + 1) from by omega)
      have p1 : _ = [] := p1
      subst p1
      exact hE1 lo' h' hi' hm c0 o0 o1 o2
    cases he
  · intro e he r' h' hp hi' hm
    cases he
def krH3_L (g : Nat) : List (Nat × sT) := [(0, .inr (.inl 0)), (1, .inl ((-1), 7)), (2, .inl ((g : Int), (g : Int)))]
def krH3_S (g : Nat) : List sT := []
def krH3_A (g : Nat) : sAs := ([], [], [], [])
def krH3_P (g : Nat) : List sP0 := [(0, (none, 13), (0, (g : Int)))]
def krH3_G (g : Nat) : List sP0 := []
def krH3_B (g : Nat) : List (Nat × Nat × Int) := []
def krH3_m (g : Nat) : sM := []
def krH3_r0 (g : Nat) : sXr := (some (.inl sf32), sA0, [], ([], [(0, ([(0, 1)], 0))], [], []), [], [])
theorem krH3_b : ((List.range 9).all fun g => syeB swM sT0 (krH3_m g) 400 0 290 (krH3_L g) (krH3_S g) (krH3_A g) (krH3_P g) (krH3_G g) (krH3_B g) 9 [] [krH3_r0 g]) = true := by decide +kernel
theorem krH3 {l : Launch} {Γ : zG} {d : Nat} (hd : 0 ≤ d) {Kp : Option Value → zH → Prop} {lo : zL} {h : zH} {g : Nat} (h_g : g < 9) {bb n : Int} (hi : sInv swM h) (b_bb : (-1) ≤ bb ∧ bb ≤ 7) (b_n : 0 ≤ n ∧ n ≤ (g : Int)) (l0 : zget lo 0 = some (.ref 0)) (l1 : zI lo 1 bb) (l2 : zI lo 2 (g : Int)) (p_n : pI h 0 13 = n)
    (hR0 : ∀ (h' : zH) (r_ : Int32), sInv swM h' → sMd (krH3_m g) h h' → r_.toInt = bb → Kp (some (.int r_)) h') : zX l Γ false (d + 1) (zhd 290) (zMQ' Γ false (zhd 290) Kp) 0 0 9 lo [] h := by
  refine sye_ok (mi := 290) (pc := 9) (fun i => [bb, (g : Int), n].getD i 0) (zall_r krH3_b h_g) (fun _ _ hc _ => nomatch hc) hd ⟨l0, zIm l1 (by show (-1) ≤ bb; omega) (by show bb ≤ 7; omega), zIm l2 (by show (g : Int) ≤ (g : Int); omega) (by show (g : Int) ≤ (g : Int); omega), trivial⟩ rfl ⟨(fun _ hc => nomatch hc), (fun _ hc => nomatch hc), (fun _ hc => nomatch hc), Or.inl rfl⟩ ⟨⟨p_n, by show 0 ≤ n; omega, by show n ≤ (g : Int); omega⟩, trivial⟩ trivial (fun _ hc => nomatch hc) hi ?_ ?_
  · intro e he lo' st' h' hp hi' hm
    cases he
  · intro e he r' h' hp hi' hm
    rcases List.mem_cons.mp he with rfl | he
    · obtain ⟨p1, -, hz⟩ := hp
      obtain ⟨⟨z1, z2, z3, z4⟩, z5, z6⟩ := hz
      obtain ⟨r_, rfl, hv⟩ := ansI p1 (z2 (0, ([(0, 1)], 0)) (List.mem_of_getElem? (i := 0) rfl))
      have s0 : r_.toInt = bb := (show r_.toInt = (1 * bb + 0) + 0 from hv).trans (by omega)
      exact hR0 h' r_ hi' hm s0
    cases he
def kqL0_L (t : Nat) (u : Nat) : List sT := [.inr (.inl (12 * u + 43)), .inr (.inl (17 * t + 9)), .inl sf32]
def kqL0_A (t : Nat) (u : Nat) : sAs := ([], [], [], [])
def kqL0_P (t : Nat) (u : Nat) : List sP0 := []
def kqL0_G (t : Nat) (u : Nat) : List sP0 := []
def kqL0_B (t : Nat) (u : Nat) : List (Nat × Nat × Int) := []
def kqL0_m (t : Nat) (u : Nat) : sM := []
def kqL0_e0 (t : Nat) (u : Nat) : sXe := (5, [], [(0, .inr (.inl (12 * u + 43))), (1, .inr (.inl (17 * t + 9))), (2, .inl sf32), (3, .inl sf32), (4, .inl sf32)], sA0, [], ([], [], [(2, ([(0, 1)], 0)), (3, ([], 0)), (4, ([], 0))], []), [], [])
theorem kqL0_b : ((List.range 2).all fun t => ((List.range 2).all fun u => syfB swC sT0 (kqL0_m t u) 400 0 80 (kqL0_L t u) (kqL0_A t u) (kqL0_P t u) (kqL0_G t u) (kqL0_B t u) [kqL0_e0 t u] [])) = true := by decide +kernel
theorem kqL0 {l : Launch} {Γ : zG} {d : Nat} (hd : 0 ≤ d) {Kp : Option Value → zH → Prop} {h : zH} {t : Nat} (h_t : t < 2) {u : Nat} (h_u : u < 2) {mm : Int} (hi : sInv swC h) (b_mm : (-2147483648) ≤ mm ∧ mm ≤ 2147483647) {x_mm : Int32} (e_mm : x_mm.toInt = mm)
    (hE0 : ∀ (lo' : zL) (h' : zH), sInv swC h' → sMd (kqL0_m t u) h h' → zget lo' 0 = some (.ref (12 * u + 43)) → zget lo' 1 = some (.ref (17 * t + 9)) → zI lo' 2 mm → zI lo' 3 0 → zI lo' 4 0 → zX l Γ false (d + 1) (zhd 80) (zMQ' Γ false (zhd 80) Kp) 0 0 5 lo' [] h') : zSem l Γ false (d + 1) (zhd 80) [.ref (12 * u + 43), .ref (17 * t + 9), .int x_mm] h Kp := by
  refine syf_ok (mi := 80) (fun i => [mm].getD i 0) (zall_r (zall_r kqL0_b h_t) h_u) (fun _ _ hc _ => nomatch hc) hd ⟨_, _, rfl, rfl, ⟨_, _, rfl, rfl, ⟨_, _, rfl, ⟨x_mm, rfl, by show (-2147483648) ≤ x_mm.toInt; omega, by show x_mm.toInt ≤ 2147483647; omega⟩, rfl⟩⟩⟩ ⟨rfl, rfl, ⟨x_mm, rfl, e_mm, by show (-2147483648) ≤ mm; omega, by show mm ≤ 2147483647; omega⟩, trivial⟩ ⟨(fun _ hc => nomatch hc), (fun _ hc => nomatch hc), (fun _ hc => nomatch hc), Or.inl rfl⟩ trivial trivial (fun _ hc => nomatch hc) hi ?_ ?_
  · intro e he lo' st' h' hp hi' hm
    rcases List.mem_cons.mp he with rfl | he
    · obtain ⟨p1, p2, -, hz⟩ := hp
      obtain ⟨⟨z1, z2, z3, z4⟩, z5, z6⟩ := hz
      have o0 : zget lo' 0 = some (.ref (12 * u + 43)) := locR (p2 (0, .inr (.inl (12 * u + 43))) (List.mem_of_getElem? (i := 0) rfl))
      have o1 : zget lo' 1 = some (.ref (17 * t + 9)) := locR (p2 (1, .inr (.inl (17 * t + 9))) (List.mem_of_getElem? (i := 1) rfl))
      have o2 : zI lo' 2 mm := zI_of (p2 (2, .inl sf32) (List.mem_of_getElem? (i := 2) rfl)) (z3 (2, ([(0, 1)], 0)) (List.mem_of_getElem? (i := 0) rfl)) (show (1 * mm + 0) + 0 = mm from by omega)
      have o3 : zI lo' 3 0 := zI_of (p2 (3, .inl sf32) (List.mem_of_getElem? (i := 3) rfl)) (z3 (3, ([], 0)) (List.mem_of_getElem? (i := 1) rfl)) (show 0 + 0 = 0 from by omega)
      have o4 : zI lo' 4 0 := zI_of (p2 (4, .inl sf32) (List.mem_of_getElem? (i := 4) rfl)) (z3 (4, ([], 0)) (List.mem_of_getElem? (i := 2) rfl)) (show 0 + 0 = 0 from by omega)
      have p1 : _ = [] := p1
      subst p1
      exact hE0 lo' h' hi' hm o0 o1 o2 o3 o4
    cases he
  · intro e he r' h' hp hi' hm
    cases he
def kqL1_L (g : Nat) (t : Nat) (u : Nat) : List (Nat × sT) := [(0, .inr (.inl (12 * u + 43))), (1, .inr (.inl (17 * t + 9))), (2, .inl sf32), (3, .inl (0, 15984)), (4, .inl ((g : Int), (g : Int)))]
def kqL1_S (g : Nat) (t : Nat) (u : Nat) : List sT := []
def kqL1_A (g : Nat) (t : Nat) (u : Nat) : sAs := ([], [], [], [])
def kqL1_P (g : Nat) (t : Nat) (u : Nat) : List sP0 := [((17 * t + 12), (none, 3), (((g : Int) + 1), 8)), ((17 * t + 13), (none, (((6 * g + 1) : Nat) : Int)), sf32), ((12 * u + 44), (none, ((g : Nat) : Int)), (0, 999)), ((12 * u + 45), (none, ((g : Nat) : Int)), (0, 999))]
def kqL1_G (g : Nat) (t : Nat) (u : Nat) : List sP0 := []
def kqL1_B (g : Nat) (t : Nat) (u : Nat) : List (Nat × Nat × Int) := []
def kqL1_m (g : Nat) (t : Nat) (u : Nat) : sM := []
def kqL1_e0 (g : Nat) (t : Nat) (u : Nat) : sXe := (5, [], [(0, .inr (.inl (12 * u + 43))), (1, .inr (.inl (17 * t + 9))), (2, .inl sf32), (3, .inl sf32), (4, .inl sf32)], sA0, [], ([], [], [(2, ([(0, 1)], 0)), (3, ([(1, 1), (5, 1), (6, 1)], 0)), (4, ([], ((g : Int) + 1)))], [([(0, (-1)), (4, 1)], 0), ([(0, 1), (4, (-1))], 0)]), [], [])
def kqL1_e1 (g : Nat) (t : Nat) (u : Nat) : sXe := (5, [], [(0, .inr (.inl (12 * u + 43))), (1, .inr (.inl (17 * t + 9))), (2, .inl sf32), (3, .inl sf32), (4, .inl sf32)], sA0, [], ([], [], [(2, ([(0, 1)], 0)), (3, ([(1, 1)], 0)), (4, ([], ((g : Int) + 1)))], []), [(([(4, 1)], 0), ([(0, 1)], 0))], [])
theorem kqL1_b : ((List.range 8).all fun g => ((List.range 2).all fun t => ((List.range 2).all fun u => syeB swC sT0 (kqL1_m g t u) 400 1 80 (kqL1_L g t u) (kqL1_S g t u) (kqL1_A g t u) (kqL1_P g t u) (kqL1_G g t u) (kqL1_B g t u) 5 [kqL1_e0 g t u, kqL1_e1 g t u] []))) = true := by decide +kernel
theorem kqL1 {l : Launch} {Γ : zG} {d : Nat} (hd : 1 ≤ d) {Kp : Option Value → zH → Prop} {lo : zL} {h : zH} {g : Nat} (h_g : g < 8) {t : Nat} (h_t : t < 2) {u : Nat} (h_u : u < 2) {mm ac n who ab bl : Int} (hi : sInv swC h) (b_mm : (-2147483648) ≤ mm ∧ mm ≤ 2147483647) (b_ac : 0 ≤ ac ∧ ac ≤ 15984) (b_n : ((g : Int) + 1) ≤ n ∧ n ≤ 8) (b_who : (-2147483648) ≤ who ∧ who ≤ 2147483647) (b_ab : 0 ≤ ab ∧ ab ≤ 999) (b_bl : 0 ≤ bl ∧ bl ≤ 999) (l0 : zget lo 0 = some (.ref (12 * u + 43))) (l1 : zget lo 1 = some (.ref (17 * t + 9))) (l2 : zI lo 2 mm) (l3 : zI lo 3 ac) (l4 : zI lo 4 (g : Int)) (p_n : pI h (17 * t + 12) 3 = n) (p_who : pI h (17 * t + 13) (6 * g + 1) = who) (p_ab : pI h (12 * u + 44) g = ab) (p_bl : pI h (12 * u + 45) g = bl)
    (hE0 : ∀ (lo' : zL) (h' : zH), sInv swC h' → sMd (kqL1_m g t u) h h' → who = mm → zget lo' 0 = some (.ref (12 * u + 43)) → zget lo' 1 = some (.ref (17 * t + 9)) → zI lo' 2 mm → zI lo' 3 (ac + ab + bl) → zI lo' 4 ((g : Int) + 1) → zX l Γ false (d + 1) (zhd 80) (zMQ' Γ false (zhd 80) Kp) 0 0 5 lo' [] h')
    (hE1 : ∀ (lo' : zL) (h' : zH), sInv swC h' → sMd (kqL1_m g t u) h h' → who ≠ mm → zget lo' 0 = some (.ref (12 * u + 43)) → zget lo' 1 = some (.ref (17 * t + 9)) → zI lo' 2 mm → zI lo' 3 ac → zI lo' 4 ((g : Int) + 1) → zX l Γ false (d + 1) (zhd 80) (zMQ' Γ false (zhd 80) Kp) 0 0 5 lo' [] h') : zX l Γ false (d + 1) (zhd 80) (zMQ' Γ false (zhd 80) Kp) 0 0 5 lo [] h := by
  refine sye_ok (mi := 80) (pc := 5) (fun i => [mm, ac, (g : Int), n, who, ab, bl].getD i 0) (zall_r (zall_r (zall_r kqL1_b h_g) h_t) h_u) (fun _ _ hc _ => nomatch hc) hd ⟨l0, l1, zIm l2 (by show (-2147483648) ≤ mm; omega) (by show mm ≤ 2147483647; omega), zIm l3 (by show 0 ≤ ac; omega) (by show ac ≤ 15984; omega), zIm l4 (by show (g : Int) ≤ (g : Int); omega) (by show (g : Int) ≤ (g : Int); omega), trivial⟩ rfl ⟨(fun _ hc => nomatch hc), (fun _ hc => nomatch hc), (fun _ hc => nomatch hc), Or.inl rfl⟩ ⟨⟨p_n, by show ((g : Int) + 1) ≤ n; omega, by show n ≤ 8; omega⟩, ⟨p_who, by show (-2147483648) ≤ who; omega, by show who ≤ 2147483647; omega⟩, ⟨p_ab, by show 0 ≤ ab; omega, by show ab ≤ 999; omega⟩, ⟨p_bl, by show 0 ≤ bl; omega, by show bl ≤ 999; omega⟩, trivial⟩ trivial (fun _ hc => nomatch hc) hi ?_ ?_
  · intro e he lo' st' h' hp hi' hm
    rcases List.mem_cons.mp he with rfl | he
    · obtain ⟨p1, p2, -, hz⟩ := hp
      obtain ⟨⟨z1, z2, z3, z4⟩, z5, z6⟩ := hz
      have c0 : who = mm := by have q_ : (0 : Int) ≤ ((-1) * mm + (1 * who + 0)) + 0 := z4 ([(0, (-1)), (4, 1)], 0) (List.mem_of_getElem? (i := 0) rfl); have q2_ : (0 : Int) ≤ (1 * mm + ((-1) * who + 0)) + 0 := z4 ([(0, 1), (4, (-1))], 0) (List.mem_of_getElem? (i := 1) rfl); omega
      have o0 : zget lo' 0 = some (.ref (12 * u + 43)) := locR (p2 (0, .inr (.inl (12 * u + 43))) (List.mem_of_getElem? (i := 0) rfl))
      have o1 : zget lo' 1 = some (.ref (17 * t + 9)) := locR (p2 (1, .inr (.inl (17 * t + 9))) (List.mem_of_getElem? (i := 1) rfl))
      have o2 : zI lo' 2 mm := zI_of (p2 (2, .inl sf32) (List.mem_of_getElem? (i := 2) rfl)) (z3 (2, ([(0, 1)], 0)) (List.mem_of_getElem? (i := 0) rfl)) (show (1 * mm + 0) + 0 = mm from by omega)
      have o3 : zI lo' 3 (ac + ab + bl) := zI_of (p2 (3, .inl sf32) (List.mem_of_getElem? (i := 3) rfl)) (z3 (3, ([(1, 1), (5, 1), (6, 1)], 0)) (List.mem_of_getElem? (i := 1) rfl)) (show (1 * ac + (1 * ab + (1 * bl + 0))) + 0 = ac + ab + bl from by omega)
      have o4 : zI lo' 4 ((g : Int) + 1) := zI_of (p2 (4, .inl sf32) (List.mem_of_getElem? (i := 4) rfl)) (z3 (4, ([], ((g : Int) + 1))) (List.mem_of_getElem? (i := 2) rfl)) (show 0 + ((g : Int) + 1) = ((g : Int) + 1) from by omega)
      have p1 : _ = [] := p1
      subst p1
      exact hE0 lo' h' hi' hm c0 o0 o1 o2 o3 o4
    rcases List.mem_cons.mp he with rfl | he
    · obtain ⟨p1, p2, -, hz⟩ := hp
      obtain ⟨⟨z1, z2, z3, z4⟩, z5, z6⟩ := hz
      have n0 : who ≠ mm := fun e_ => z5 (([(4, 1)], 0), ([(0, 1)], 0)) (List.mem_of_getElem? (i := 0) rfl) (by show (1 * who + 0) + 0 = (1 * mm + 0) + 0; omega)
      have o0 : zget lo' 0 = some (.ref (12 * u + 43)) := locR (p2 (0, .inr (.inl (12 * u + 43))) (List.mem_of_getElem? (i := 0) rfl))
      have o1 : zget lo' 1 = some (.ref (17 * t + 9)) := locR (p2 (1, .inr (.inl (17 * t + 9))) (List.mem_of_getElem? (i := 1) rfl))
      have o2 : zI lo' 2 mm := zI_of (p2 (2, .inl sf32) (List.mem_of_getElem? (i := 2) rfl)) (z3 (2, ([(0, 1)], 0)) (List.mem_of_getElem? (i := 0) rfl)) (show (1 * mm + 0) + 0 = mm from by omega)
      have o3 : zI lo' 3 ac := zI_of (p2 (3, .inl sf32) (List.mem_of_getElem? (i := 3) rfl)) (z3 (3, ([(1, 1)], 0)) (List.mem_of_getElem? (i := 1) rfl)) (show (1 * ac + 0) + 0 = ac from by omega)
      have o4 : zI lo' 4 ((g : Int) + 1) := zI_of (p2 (4, .inl sf32) (List.mem_of_getElem? (i := 4) rfl)) (z3 (4, ([], ((g : Int) + 1))) (List.mem_of_getElem? (i := 2) rfl)) (show 0 + ((g : Int) + 1) = ((g : Int) + 1) from by omega)
      have p1 : _ = [] := p1
      subst p1
      exact hE1 lo' h' hi' hm n0 o0 o1 o2 o3 o4
    cases he
  · intro e he r' h' hp hi' hm
    cases he
def kqL2_L (g : Nat) (t : Nat) (u : Nat) : List (Nat × sT) := [(0, .inr (.inl (12 * u + 43))), (1, .inr (.inl (17 * t + 9))), (2, .inl sf32), (3, .inl (0, 15984)), (4, .inl ((g : Int), (g : Int)))]
def kqL2_S (g : Nat) (t : Nat) (u : Nat) : List sT := []
def kqL2_A (g : Nat) (t : Nat) (u : Nat) : sAs := ([], [], [], [])
def kqL2_P (g : Nat) (t : Nat) (u : Nat) : List sP0 := [((17 * t + 12), (none, 3), (0, (g : Int)))]
def kqL2_G (g : Nat) (t : Nat) (u : Nat) : List sP0 := []
def kqL2_B (g : Nat) (t : Nat) (u : Nat) : List (Nat × Nat × Int) := []
def kqL2_m (g : Nat) (t : Nat) (u : Nat) : sM := []
def kqL2_r0 (g : Nat) (t : Nat) (u : Nat) : sXr := (some (.inl sf32), sA0, [], ([], [(0, ([(1, 1)], 0))], [], []), [], [])
theorem kqL2_b : ((List.range 9).all fun g => ((List.range 2).all fun t => ((List.range 2).all fun u => syeB swC sT0 (kqL2_m g t u) 400 0 80 (kqL2_L g t u) (kqL2_S g t u) (kqL2_A g t u) (kqL2_P g t u) (kqL2_G g t u) (kqL2_B g t u) 5 [] [kqL2_r0 g t u]))) = true := by decide +kernel
theorem kqL2 {l : Launch} {Γ : zG} {d : Nat} (hd : 0 ≤ d) {Kp : Option Value → zH → Prop} {lo : zL} {h : zH} {g : Nat} (h_g : g < 9) {t : Nat} (h_t : t < 2) {u : Nat} (h_u : u < 2) {mm ac n : Int} (hi : sInv swC h) (b_mm : (-2147483648) ≤ mm ∧ mm ≤ 2147483647) (b_ac : 0 ≤ ac ∧ ac ≤ 15984) (b_n : 0 ≤ n ∧ n ≤ (g : Int)) (l0 : zget lo 0 = some (.ref (12 * u + 43))) (l1 : zget lo 1 = some (.ref (17 * t + 9))) (l2 : zI lo 2 mm) (l3 : zI lo 3 ac) (l4 : zI lo 4 (g : Int)) (p_n : pI h (17 * t + 12) 3 = n)
    (hR0 : ∀ (h' : zH) (r_ : Int32), sInv swC h' → sMd (kqL2_m g t u) h h' → r_.toInt = ac → Kp (some (.int r_)) h') : zX l Γ false (d + 1) (zhd 80) (zMQ' Γ false (zhd 80) Kp) 0 0 5 lo [] h := by
  refine sye_ok (mi := 80) (pc := 5) (fun i => [mm, ac, (g : Int), n].getD i 0) (zall_r (zall_r (zall_r kqL2_b h_g) h_t) h_u) (fun _ _ hc _ => nomatch hc) hd ⟨l0, l1, zIm l2 (by show (-2147483648) ≤ mm; omega) (by show mm ≤ 2147483647; omega), zIm l3 (by show 0 ≤ ac; omega) (by show ac ≤ 15984; omega), zIm l4 (by show (g : Int) ≤ (g : Int); omega) (by show (g : Int) ≤ (g : Int); omega), trivial⟩ rfl ⟨(fun _ hc => nomatch hc), (fun _ hc => nomatch hc), (fun _ hc => nomatch hc), Or.inl rfl⟩ ⟨⟨p_n, by show 0 ≤ n; omega, by show n ≤ (g : Int); omega⟩, trivial⟩ trivial (fun _ hc => nomatch hc) hi ?_ ?_
  · intro e he lo' st' h' hp hi' hm
    cases he
  · intro e he r' h' hp hi' hm
    rcases List.mem_cons.mp he with rfl | he
    · obtain ⟨p1, -, hz⟩ := hp
      obtain ⟨⟨z1, z2, z3, z4⟩, z5, z6⟩ := hz
      obtain ⟨r_, rfl, hv⟩ := ansI p1 (z2 (0, ([(1, 1)], 0)) (List.mem_of_getElem? (i := 0) rfl))
      have s0 : r_.toInt = ac := (show r_.toInt = (1 * ac + 0) + 0 from hv).trans (by omega)
      exact hR0 h' r_ hi' hm s0
    cases he
def krL0_L (k : Nat) : List sT := [.inr (.inl 0), .inl ((k : Int), (k : Int)), .inl sf32]
def krL0_A (k : Nat) : sAs := ([], [], [], [])
def krL0_P (k : Nat) : List sP0 := []
def krL0_G (k : Nat) : List sP0 := []
def krL0_B (k : Nat) : List (Nat × Nat × Int) := []
def krL0_m (k : Nat) : sM := []
def krL0_e0 (k : Nat) : sXe := (5, [], [(0, .inr (.inl 0)), (1, .inl sf32), (2, .inl sf32), (3, .inl sf32), (4, .inl sf32)], sA0, [], ([], [], [(1, ([], (k : Int))), (2, ([(1, 1)], 0)), (3, ([], 0)), (4, ([], 0))], []), [], [])
theorem krL0_b : ((List.range 2).all fun k => syfB swM sT0 (krL0_m k) 400 0 233 (krL0_L k) (krL0_A k) (krL0_P k) (krL0_G k) (krL0_B k) [krL0_e0 k] []) = true := by decide +kernel
theorem krL0 {l : Launch} {Γ : zG} {d : Nat} (hd : 0 ≤ d) {Kp : Option Value → zH → Prop} {h : zH} {k : Nat} (h_k : k < 2) {mm : Int} (hi : sInv swM h) (b_mm : (-2147483648) ≤ mm ∧ mm ≤ 2147483647) {x_hh : Int32} (e_hh : x_hh.toInt = (k : Int)) {x_mm : Int32} (e_mm : x_mm.toInt = mm)
    (hE0 : ∀ (lo' : zL) (h' : zH), sInv swM h' → sMd (krL0_m k) h h' → zget lo' 0 = some (.ref 0) → zI lo' 1 (k : Int) → zI lo' 2 mm → zI lo' 3 0 → zI lo' 4 0 → zX l Γ false (d + 1) (zhd 233) (zMQ' Γ false (zhd 233) Kp) 0 0 5 lo' [] h') : zSem l Γ false (d + 1) (zhd 233) [.ref 0, .int x_hh, .int x_mm] h Kp := by
  refine syf_ok (mi := 233) (fun i => [(k : Int), mm].getD i 0) (zall_r krL0_b h_k) (fun _ _ hc _ => nomatch hc) hd ⟨_, _, rfl, rfl, ⟨_, _, rfl, ⟨x_hh, rfl, by show (k : Int) ≤ x_hh.toInt; omega, by show x_hh.toInt ≤ (k : Int); omega⟩, ⟨_, _, rfl, ⟨x_mm, rfl, by show (-2147483648) ≤ x_mm.toInt; omega, by show x_mm.toInt ≤ 2147483647; omega⟩, rfl⟩⟩⟩ ⟨rfl, ⟨x_hh, rfl, e_hh, by show (k : Int) ≤ (k : Int); omega, by show (k : Int) ≤ (k : Int); omega⟩, ⟨x_mm, rfl, e_mm, by show (-2147483648) ≤ mm; omega, by show mm ≤ 2147483647; omega⟩, trivial⟩ ⟨(fun _ hc => nomatch hc), (fun _ hc => nomatch hc), (fun _ hc => nomatch hc), Or.inl rfl⟩ trivial trivial (fun _ hc => nomatch hc) hi ?_ ?_
  · intro e he lo' st' h' hp hi' hm
    rcases List.mem_cons.mp he with rfl | he
    · obtain ⟨p1, p2, -, hz⟩ := hp
      obtain ⟨⟨z1, z2, z3, z4⟩, z5, z6⟩ := hz
      have o0 : zget lo' 0 = some (.ref 0) := locR (p2 (0, .inr (.inl 0)) (List.mem_of_getElem? (i := 0) rfl))
      have o1 : zI lo' 1 (k : Int) := zI_of (p2 (1, .inl sf32) (List.mem_of_getElem? (i := 1) rfl)) (z3 (1, ([], (k : Int))) (List.mem_of_getElem? (i := 0) rfl)) (show 0 + (k : Int) = (k : Int) from by omega)
      have o2 : zI lo' 2 mm := zI_of (p2 (2, .inl sf32) (List.mem_of_getElem? (i := 2) rfl)) (z3 (2, ([(1, 1)], 0)) (List.mem_of_getElem? (i := 1) rfl)) (show (1 * mm + 0) + 0 = mm from by omega)
      have o3 : zI lo' 3 0 := zI_of (p2 (3, .inl sf32) (List.mem_of_getElem? (i := 3) rfl)) (z3 (3, ([], 0)) (List.mem_of_getElem? (i := 2) rfl)) (show 0 + 0 = 0 from by omega)
      have o4 : zI lo' 4 0 := zI_of (p2 (4, .inl sf32) (List.mem_of_getElem? (i := 4) rfl)) (z3 (4, ([], 0)) (List.mem_of_getElem? (i := 3) rfl)) (show 0 + 0 = 0 from by omega)
      have p1 : _ = [] := p1
      subst p1
      exact hE0 lo' h' hi' hm o0 o1 o2 o3 o4
    cases he
  · intro e he r' h' hp hi' hm
    cases he
def krL1_L (g : Nat) (k : Nat) : List (Nat × sT) := [(0, .inr (.inl 0)), (1, .inl ((k : Int), (k : Int))), (2, .inl sf32), (3, .inl (0, 15984)), (4, .inl ((g : Int), (g : Int)))]
def krL1_S (g : Nat) (k : Nat) : List sT := []
def krL1_A (g : Nat) (k : Nat) : sAs := ([], [], [], [])
def krL1_P (g : Nat) (k : Nat) : List sP0 := [(0, (none, 13), (((g : Int) + 1), 8)), (7, (none, ((g : Nat) : Int)), sf32), (29, (none, (((g + 8 * k) : Nat) : Int)), (0, 999)), (30, (none, (((g + 8 * k) : Nat) : Int)), (0, 999))]
def krL1_G (g : Nat) (k : Nat) : List sP0 := []
def krL1_B (g : Nat) (k : Nat) : List (Nat × Nat × Int) := []
def krL1_m (g : Nat) (k : Nat) : sM := []
def krL1_e0 (g : Nat) (k : Nat) : sXe := (5, [], [(0, .inr (.inl 0)), (1, .inl sf32), (2, .inl sf32), (3, .inl sf32), (4, .inl sf32)], sA0, [], ([], [], [(1, ([], (k : Int))), (2, ([(1, 1)], 0)), (3, ([(2, 1), (6, 1), (7, 1)], 0)), (4, ([], ((g : Int) + 1)))], [([(1, (-1)), (5, 1)], 0), ([(1, 1), (5, (-1))], 0)]), [], [])
def krL1_e1 (g : Nat) (k : Nat) : sXe := (5, [], [(0, .inr (.inl 0)), (1, .inl sf32), (2, .inl sf32), (3, .inl sf32), (4, .inl sf32)], sA0, [], ([], [], [(1, ([], (k : Int))), (2, ([(1, 1)], 0)), (3, ([(2, 1)], 0)), (4, ([], ((g : Int) + 1)))], []), [(([(5, 1)], 0), ([(1, 1)], 0))], [])
theorem krL1_b : ((List.range 8).all fun g => ((List.range 2).all fun k => syeB swM sT0 (krL1_m g k) 400 0 233 (krL1_L g k) (krL1_S g k) (krL1_A g k) (krL1_P g k) (krL1_G g k) (krL1_B g k) 5 [krL1_e0 g k, krL1_e1 g k] [])) = true := by decide +kernel
theorem krL1 {l : Launch} {Γ : zG} {d : Nat} (hd : 0 ≤ d) {Kp : Option Value → zH → Prop} {lo : zL} {h : zH} {g : Nat} (h_g : g < 8) {k : Nat} (h_k : k < 2) {mm ac n who ab bl : Int} (hi : sInv swM h) (b_mm : (-2147483648) ≤ mm ∧ mm ≤ 2147483647) (b_ac : 0 ≤ ac ∧ ac ≤ 15984) (b_n : ((g : Int) + 1) ≤ n ∧ n ≤ 8) (b_who : (-2147483648) ≤ who ∧ who ≤ 2147483647) (b_ab : 0 ≤ ab ∧ ab ≤ 999) (b_bl : 0 ≤ bl ∧ bl ≤ 999) (l0 : zget lo 0 = some (.ref 0)) (l1 : zI lo 1 (k : Int)) (l2 : zI lo 2 mm) (l3 : zI lo 3 ac) (l4 : zI lo 4 (g : Int)) (p_n : pI h 0 13 = n) (p_who : pI h 7 g = who) (p_ab : pI h 29 (g + 8 * k) = ab) (p_bl : pI h 30 (g + 8 * k) = bl)
    (hE0 : ∀ (lo' : zL) (h' : zH), sInv swM h' → sMd (krL1_m g k) h h' → who = mm → zget lo' 0 = some (.ref 0) → zI lo' 1 (k : Int) → zI lo' 2 mm → zI lo' 3 (ac + ab + bl) → zI lo' 4 ((g : Int) + 1) → zX l Γ false (d + 1) (zhd 233) (zMQ' Γ false (zhd 233) Kp) 0 0 5 lo' [] h')
    (hE1 : ∀ (lo' : zL) (h' : zH), sInv swM h' → sMd (krL1_m g k) h h' → who ≠ mm → zget lo' 0 = some (.ref 0) → zI lo' 1 (k : Int) → zI lo' 2 mm → zI lo' 3 ac → zI lo' 4 ((g : Int) + 1) → zX l Γ false (d + 1) (zhd 233) (zMQ' Γ false (zhd 233) Kp) 0 0 5 lo' [] h') : zX l Γ false (d + 1) (zhd 233) (zMQ' Γ false (zhd 233) Kp) 0 0 5 lo [] h := by
  refine sye_ok (mi := 233) (pc := 5) (fun i => [(k : Int), mm, ac, (g : Int), n, who, ab, bl].getD i 0) (zall_r (zall_r krL1_b h_g) h_k) (fun _ _ hc _ => nomatch hc) hd ⟨l0, zIm l1 (by show (k : Int) ≤ (k : Int); omega) (by show (k : Int) ≤ (k : Int); omega), zIm l2 (by show (-2147483648) ≤ mm; omega) (by show mm ≤ 2147483647; omega), zIm l3 (by show 0 ≤ ac; omega) (by show ac ≤ 15984; omega), zIm l4 (by show (g : Int) ≤ (g : Int); omega) (by show (g : Int) ≤ (g : Int); omega), trivial⟩ rfl ⟨(fun _ hc => nomatch hc), (fun _ hc => nomatch hc), (fun _ hc => nomatch hc), Or.inl rfl⟩ ⟨⟨p_n, by show ((g : Int) + 1) ≤ n; omega, by show n ≤ 8; omega⟩, ⟨p_who, by show (-2147483648) ≤ who; omega, by show who ≤ 2147483647; omega⟩, ⟨p_ab, by show 0 ≤ ab; omega, by show ab ≤ 999; omega⟩, ⟨p_bl, by show 0 ≤ bl; omega, by show bl ≤ 999; omega⟩, trivial⟩ trivial (fun _ hc => nomatch hc) hi ?_ ?_
  · intro e he lo' st' h' hp hi' hm
    rcases List.mem_cons.mp he with rfl | he
    · obtain ⟨p1, p2, -, hz⟩ := hp
      obtain ⟨⟨z1, z2, z3, z4⟩, z5, z6⟩ := hz
      have c0 : who = mm := by have q_ : (0 : Int) ≤ ((-1) * mm + (1 * who + 0)) + 0 := z4 ([(1, (-1)), (5, 1)], 0) (List.mem_of_getElem? (i := 0) rfl); have q2_ : (0 : Int) ≤ (1 * mm + ((-1) * who + 0)) + 0 := z4 ([(1, 1), (5, (-1))], 0) (List.mem_of_getElem? (i := 1) rfl); omega
      have o0 : zget lo' 0 = some (.ref 0) := locR (p2 (0, .inr (.inl 0)) (List.mem_of_getElem? (i := 0) rfl))
      have o1 : zI lo' 1 (k : Int) := zI_of (p2 (1, .inl sf32) (List.mem_of_getElem? (i := 1) rfl)) (z3 (1, ([], (k : Int))) (List.mem_of_getElem? (i := 0) rfl)) (show 0 + (k : Int) = (k : Int) from by omega)
      have o2 : zI lo' 2 mm := zI_of (p2 (2, .inl sf32) (List.mem_of_getElem? (i := 2) rfl)) (z3 (2, ([(1, 1)], 0)) (List.mem_of_getElem? (i := 1) rfl)) (show (1 * mm + 0) + 0 = mm from by omega)
      have o3 : zI lo' 3 (ac + ab + bl) := zI_of (p2 (3, .inl sf32) (List.mem_of_getElem? (i := 3) rfl)) (z3 (3, ([(2, 1), (6, 1), (7, 1)], 0)) (List.mem_of_getElem? (i := 2) rfl)) (show (1 * ac + (1 * ab + (1 * bl + 0))) + 0 = ac + ab + bl from by omega)
      have o4 : zI lo' 4 ((g : Int) + 1) := zI_of (p2 (4, .inl sf32) (List.mem_of_getElem? (i := 4) rfl)) (z3 (4, ([], ((g : Int) + 1))) (List.mem_of_getElem? (i := 3) rfl)) (show 0 + ((g : Int) + 1) = ((g : Int) + 1) from by omega)
      have p1 : _ = [] := p1
      subst p1
      exact hE0 lo' h' hi' hm c0 o0 o1 o2 o3 o4
    rcases List.mem_cons.mp he with rfl | he
    · obtain ⟨p1, p2, -, hz⟩ := hp
      obtain ⟨⟨z1, z2, z3, z4⟩, z5, z6⟩ := hz
      have n0 : who ≠ mm := fun e_ => z5 (([(5, 1)], 0), ([(1, 1)], 0)) (List.mem_of_getElem? (i := 0) rfl) (by show (1 * who + 0) + 0 = (1 * mm + 0) + 0; omega)
      have o0 : zget lo' 0 = some (.ref 0) := locR (p2 (0, .inr (.inl 0)) (List.mem_of_getElem? (i := 0) rfl))
      have o1 : zI lo' 1 (k : Int) := zI_of (p2 (1, .inl sf32) (List.mem_of_getElem? (i := 1) rfl)) (z3 (1, ([], (k : Int))) (List.mem_of_getElem? (i := 0) rfl)) (show 0 + (k : Int) = (k : Int) from by omega)
      have o2 : zI lo' 2 mm := zI_of (p2 (2, .inl sf32) (List.mem_of_getElem? (i := 2) rfl)) (z3 (2, ([(1, 1)], 0)) (List.mem_of_getElem? (i := 1) rfl)) (show (1 * mm + 0) + 0 = mm from by omega)
      have o3 : zI lo' 3 ac := zI_of (p2 (3, .inl sf32) (List.mem_of_getElem? (i := 3) rfl)) (z3 (3, ([(2, 1)], 0)) (List.mem_of_getElem? (i := 2) rfl)) (show (1 * ac + 0) + 0 = ac from by omega)
      have o4 : zI lo' 4 ((g : Int) + 1) := zI_of (p2 (4, .inl sf32) (List.mem_of_getElem? (i := 4) rfl)) (z3 (4, ([], ((g : Int) + 1))) (List.mem_of_getElem? (i := 3) rfl)) (show 0 + ((g : Int) + 1) = ((g : Int) + 1) from by omega)
      have p1 : _ = [] := p1
      subst p1
      exact hE1 lo' h' hi' hm n0 o0 o1 o2 o3 o4
    cases he
  · intro e he r' h' hp hi' hm
    cases he
def krL2_L (g : Nat) (k : Nat) : List (Nat × sT) := [(0, .inr (.inl 0)), (1, .inl ((k : Int), (k : Int))), (2, .inl sf32), (3, .inl (0, 15984)), (4, .inl ((g : Int), (g : Int)))]
def krL2_S (g : Nat) (k : Nat) : List sT := []
def krL2_A (g : Nat) (k : Nat) : sAs := ([], [], [], [])
def krL2_P (g : Nat) (k : Nat) : List sP0 := [(0, (none, 13), (0, (g : Int)))]
def krL2_G (g : Nat) (k : Nat) : List sP0 := []
def krL2_B (g : Nat) (k : Nat) : List (Nat × Nat × Int) := []
def krL2_m (g : Nat) (k : Nat) : sM := []
def krL2_r0 (g : Nat) (k : Nat) : sXr := (some (.inl sf32), sA0, [], ([], [(0, ([(2, 1)], 0))], [], []), [], [])
theorem krL2_b : ((List.range 9).all fun g => ((List.range 2).all fun k => syeB swM sT0 (krL2_m g k) 400 0 233 (krL2_L g k) (krL2_S g k) (krL2_A g k) (krL2_P g k) (krL2_G g k) (krL2_B g k) 5 [] [krL2_r0 g k])) = true := by decide +kernel
theorem krL2 {l : Launch} {Γ : zG} {d : Nat} (hd : 0 ≤ d) {Kp : Option Value → zH → Prop} {lo : zL} {h : zH} {g : Nat} (h_g : g < 9) {k : Nat} (h_k : k < 2) {mm ac n : Int} (hi : sInv swM h) (b_mm : (-2147483648) ≤ mm ∧ mm ≤ 2147483647) (b_ac : 0 ≤ ac ∧ ac ≤ 15984) (b_n : 0 ≤ n ∧ n ≤ (g : Int)) (l0 : zget lo 0 = some (.ref 0)) (l1 : zI lo 1 (k : Int)) (l2 : zI lo 2 mm) (l3 : zI lo 3 ac) (l4 : zI lo 4 (g : Int)) (p_n : pI h 0 13 = n)
    (hR0 : ∀ (h' : zH) (r_ : Int32), sInv swM h' → sMd (krL2_m g k) h h' → r_.toInt = ac → Kp (some (.int r_)) h') : zX l Γ false (d + 1) (zhd 233) (zMQ' Γ false (zhd 233) Kp) 0 0 5 lo [] h := by
  refine sye_ok (mi := 233) (pc := 5) (fun i => [(k : Int), mm, ac, (g : Int), n].getD i 0) (zall_r (zall_r krL2_b h_g) h_k) (fun _ _ hc _ => nomatch hc) hd ⟨l0, zIm l1 (by show (k : Int) ≤ (k : Int); omega) (by show (k : Int) ≤ (k : Int); omega), zIm l2 (by show (-2147483648) ≤ mm; omega) (by show mm ≤ 2147483647; omega), zIm l3 (by show 0 ≤ ac; omega) (by show ac ≤ 15984; omega), zIm l4 (by show (g : Int) ≤ (g : Int); omega) (by show (g : Int) ≤ (g : Int); omega), trivial⟩ rfl ⟨(fun _ hc => nomatch hc), (fun _ hc => nomatch hc), (fun _ hc => nomatch hc), Or.inl rfl⟩ ⟨⟨p_n, by show 0 ≤ n; omega, by show n ≤ (g : Int); omega⟩, trivial⟩ trivial (fun _ hc => nomatch hc) hi ?_ ?_
  · intro e he lo' st' h' hp hi' hm
    cases he
  · intro e he r' h' hp hi' hm
    rcases List.mem_cons.mp he with rfl | he
    · obtain ⟨p1, -, hz⟩ := hp
      obtain ⟨⟨z1, z2, z3, z4⟩, z5, z6⟩ := hz
      obtain ⟨r_, rfl, hv⟩ := ansI p1 (z2 (0, ([(2, 1)], 0)) (List.mem_of_getElem? (i := 0) rfl))
      have s0 : r_.toInt = ac := (show r_.toInt = (1 * ac + 0) + 0 from hv).trans (by omega)
      exact hR0 h' r_ hi' hm s0
    cases he
def kqE0_L (t : Nat) : List sT := [.inr (.inl 0), .inl sf32, .inl sf32]
def kqE0_A (t : Nat) : sAs := ([], [(0, 5, (17 * t + 9))], [], [])
def kqE0_P (t : Nat) : List sP0 := [((17 * t + 10), (none, 3), (0, 5))]
def kqE0_G (t : Nat) : List sP0 := []
def kqE0_B (t : Nat) : List (Nat × Nat × Int) := []
def kqE0_m (t : Nat) : sM := []
def kqE0_e0 (t : Nat) : sXe := (34, [.inl sf32, .inr (.inl (17 * t + 9)), .inr (.inl 43)], [(0, .inr (.inl 0)), (2, .inl sf32)], sA0, [], ([], [(0, ([(0, 1)], 0))], [(2, ([(1, 1)], 0))], [([(0, 1)], 0), ([(0, (-1)), (2, 1)], (-1)), ([(1, 1)], 0), ([(1, (-1)), (2, 1)], (-1))]), [(([(0, 1)], 0), ([(1, 1)], 0))], [])
def kqE0_r0 (t : Nat) : sXr := (some (.inl sf32), sA0, [], ([], [(0, ([], (-2147483648)))], [], [([(0, (-1))], (-1))]), [], [])
def kqE0_r1 (t : Nat) : sXr := (some (.inl sf32), sA0, [], ([], [(0, ([], (-2147483648)))], [], [([(0, 1)], 0), ([(0, (-1)), (2, 1)], (-1)), ([(1, (-1))], (-1))]), [], [])
def kqE0_r2 (t : Nat) : sXr := (some (.inl sf32), sA0, [], ([], [(0, ([], (-2147483648)))], [], [([(0, 1)], 0), ([(0, (-1)), (2, 1)], (-1)), ([(1, 1)], 0), ([(1, (-1)), (2, 1)], (-1)), ([(0, 1), (1, (-1))], 0), ([(0, (-1)), (1, 1)], 0)]), [], [])
def kqE0_r3 (t : Nat) : sXr := (some (.inl sf32), sA0, [], ([], [(0, ([], (-2147483648)))], [], [([(0, 1)], 0), ([(0, (-1)), (2, 1)], (-1)), ([(1, 1)], 0), ([(1, 1), (2, (-1))], 0)]), [], [])
def kqE0_r4 (t : Nat) : sXr := (some (.inl sf32), sA0, [], ([], [(0, ([], (-2147483648)))], [], [([(0, 1)], 0), ([(0, 1), (2, (-1))], 0)]), [], [])
theorem kqE0_b : ((List.range 2).all fun t => syfB swC sT0 (kqE0_m t) 400 1 138 (kqE0_L t) (kqE0_A t) (kqE0_P t) (kqE0_G t) (kqE0_B t) [kqE0_e0 t] [kqE0_r0 t, kqE0_r1 t, kqE0_r2 t, kqE0_r3 t, kqE0_r4 t]) = true := by decide +kernel
theorem kqE0 {l : Launch} {Γ : zG} {d : Nat} (hd : 1 ≤ d) {Kp : Option Value → zH → Prop} {h : zH} {t : Nat} (h_t : t < 2) {x y n : Int} (hi : sInv swC h) (b_x : (-2147483648) ≤ x ∧ x ≤ 2147483647) (b_y : (-2147483648) ≤ y ∧ y ≤ 2147483647) (b_n : 0 ≤ n ∧ n ≤ 5) {x_x : Int32} (e_x : x_x.toInt = x) {x_y : Int32} (e_y : x_y.toInt = y) (p_n : pI h (17 * t + 10) 3 = n) (q0 : h.2.2.2 0 5 = some (17 * t + 9))
    (hE0 : ∀ (lo' : zL) (h' : zH) (y0 : Int32), sInv swC h' → sMd (kqE0_m t) h h' → 0 ≤ x → 0 ≤ -x + n - 1 → 0 ≤ y → 0 ≤ -y + n - 1 → x ≠ y → zget lo' 0 = some (.ref 0) → zI lo' 2 y → y0.toInt = x → zX l Γ false (d + 1) (zhd 138) (zMQ' Γ false (zhd 138) Kp) 0 0 34 lo' [.int y0, .ref (17 * t + 9), .ref 43] h')
    (hR0 : ∀ (h' : zH) (r_ : Int32), sInv swC h' → sMd (kqE0_m t) h h' → 0 ≤ -x - 1 → r_.toInt = (-2147483648) → Kp (some (.int r_)) h')
    (hR1 : ∀ (h' : zH) (r_ : Int32), sInv swC h' → sMd (kqE0_m t) h h' → 0 ≤ x → 0 ≤ -x + n - 1 → 0 ≤ -y - 1 → r_.toInt = (-2147483648) → Kp (some (.int r_)) h')
    (hR2 : ∀ (h' : zH) (r_ : Int32), sInv swC h' → sMd (kqE0_m t) h h' → 0 ≤ x → 0 ≤ -x + n - 1 → 0 ≤ y → 0 ≤ -y + n - 1 → x = y → r_.toInt = (-2147483648) → Kp (some (.int r_)) h')
    (hR3 : ∀ (h' : zH) (r_ : Int32), sInv swC h' → sMd (kqE0_m t) h h' → 0 ≤ x → 0 ≤ -x + n - 1 → 0 ≤ y → 0 ≤ y - n → r_.toInt = (-2147483648) → Kp (some (.int r_)) h')
    (hR4 : ∀ (h' : zH) (r_ : Int32), sInv swC h' → sMd (kqE0_m t) h h' → 0 ≤ x → 0 ≤ x - n → r_.toInt = (-2147483648) → Kp (some (.int r_)) h') : zSem l Γ false (d + 1) (zhd 138) [.ref 0, .int x_x, .int x_y] h Kp := by
  refine syf_ok (mi := 138) (fun i => [x, y, n].getD i 0) (zall_r kqE0_b h_t) (fun _ _ hc _ => nomatch hc) hd ⟨_, _, rfl, rfl, ⟨_, _, rfl, ⟨x_x, rfl, by show (-2147483648) ≤ x_x.toInt; omega, by show x_x.toInt ≤ 2147483647; omega⟩, ⟨_, _, rfl, ⟨x_y, rfl, by show (-2147483648) ≤ x_y.toInt; omega, by show x_y.toInt ≤ 2147483647; omega⟩, rfl⟩⟩⟩ ⟨rfl, ⟨x_x, rfl, e_x, by show (-2147483648) ≤ x; omega, by show x ≤ 2147483647; omega⟩, ⟨x_y, rfl, e_y, by show (-2147483648) ≤ y; omega, by show y ≤ 2147483647; omega⟩, trivial⟩ ⟨(fun _ hc => nomatch hc), (sfm q0 (fun _ hc => nomatch hc)), (fun _ hc => nomatch hc), Or.inl rfl⟩ ⟨⟨p_n, by show 0 ≤ n; omega, by show n ≤ 5; omega⟩, trivial⟩ trivial (fun _ hc => nomatch hc) hi ?_ ?_
  · intro e he lo' st' h' hp hi' hm
    rcases List.mem_cons.mp he with rfl | he
    · obtain ⟨p1, p2, -, hz⟩ := hp
      obtain ⟨⟨z1, z2, z3, z4⟩, z5, z6⟩ := hz
      have c0 : 0 ≤ x := by have q_ : (0 : Int) ≤ (1 * x + 0) + 0 := z4 ([(0, 1)], 0) (List.mem_of_getElem? (i := 0) rfl); omega
      have c1 : 0 ≤ -x + n - 1 := by have q_ : (0 : Int) ≤ ((-1) * x + (1 * n + 0)) + (-1) := z4 ([(0, (-1)), (2, 1)], (-1)) (List.mem_of_getElem? (i := 1) rfl); omega
      have c2 : 0 ≤ y := by have q_ : (0 : Int) ≤ (1 * y + 0) + 0 := z4 ([(1, 1)], 0) (List.mem_of_getElem? (i := 2) rfl); omega
      have c3 : 0 ≤ -y + n - 1 := by have q_ : (0 : Int) ≤ ((-1) * y + (1 * n + 0)) + (-1) := z4 ([(1, (-1)), (2, 1)], (-1)) (List.mem_of_getElem? (i := 3) rfl); omega
      have n0 : x ≠ y := fun e_ => z5 (([(0, 1)], 0), ([(1, 1)], 0)) (List.mem_of_getElem? (i := 0) rfl) (by show (1 * x + 0) + 0 = (1 * y + 0) + 0; omega)
      have o0 : zget lo' 0 = some (.ref 0) := locR (p2 (0, .inr (.inl 0)) (List.mem_of_getElem? (i := 0) rfl))
      have o2 : zI lo' 2 y := zI_of (p2 (2, .inl sf32) (List.mem_of_getElem? (i := 1) rfl)) (z3 (2, ([(1, 1)], 0)) (List.mem_of_getElem? (i := 0) rfl)) (show (1 * y + 0) + 0 = y from by omega)
      obtain ⟨_, _, rfl, ⟨y0, rfl, -⟩, p1⟩ := p1
      obtain ⟨_, _, rfl, hr, p1⟩ := p1
      have hr : _ = Value.ref (17 * t + 9) := hr
      subst hr
      obtain ⟨_, _, rfl, hr, p1⟩ := p1
      have hr : _ = Value.ref 43 := hr
      subst hr
      have p1 : _ = [] := p1
      subst p1
      obtain ⟨v_, ev, hv⟩ := z2 (0, ([(0, 1)], 0)) (List.mem_of_getElem? (i := 0) rfl)
      cases ev
      have s0 : y0.toInt = x := (show y0.toInt = (1 * x + 0) + 0 from hv).trans (by omega)
      exact hE0 lo' h' y0 hi' hm c0 c1 c2 c3 n0 o0 o2 s0
    cases he
  · intro e he r' h' hp hi' hm
    rcases List.mem_cons.mp he with rfl | he
    · obtain ⟨p1, -, hz⟩ := hp
      obtain ⟨⟨z1, z2, z3, z4⟩, z5, z6⟩ := hz
      have c0 : 0 ≤ -x - 1 := by have q_ : (0 : Int) ≤ ((-1) * x + 0) + (-1) := z4 ([(0, (-1))], (-1)) (List.mem_of_getElem? (i := 0) rfl); omega
      obtain ⟨r_, rfl, hv⟩ := ansI p1 (z2 (0, ([], (-2147483648))) (List.mem_of_getElem? (i := 0) rfl))
      have s0 : r_.toInt = (-2147483648) := (show r_.toInt = 0 + (-2147483648) from hv).trans (by omega)
      exact hR0 h' r_ hi' hm c0 s0
    rcases List.mem_cons.mp he with rfl | he
    · obtain ⟨p1, -, hz⟩ := hp
      obtain ⟨⟨z1, z2, z3, z4⟩, z5, z6⟩ := hz
      have c0 : 0 ≤ x := by have q_ : (0 : Int) ≤ (1 * x + 0) + 0 := z4 ([(0, 1)], 0) (List.mem_of_getElem? (i := 0) rfl); omega
      have c1 : 0 ≤ -x + n - 1 := by have q_ : (0 : Int) ≤ ((-1) * x + (1 * n + 0)) + (-1) := z4 ([(0, (-1)), (2, 1)], (-1)) (List.mem_of_getElem? (i := 1) rfl); omega
      have c2 : 0 ≤ -y - 1 := by have q_ : (0 : Int) ≤ ((-1) * y + 0) + (-1) := z4 ([(1, (-1))], (-1)) (List.mem_of_getElem? (i := 2) rfl); omega
      obtain ⟨r_, rfl, hv⟩ := ansI p1 (z2 (0, ([], (-2147483648))) (List.mem_of_getElem? (i := 0) rfl))
      have s0 : r_.toInt = (-2147483648) := (show r_.toInt = 0 + (-2147483648) from hv).trans (by omega)
      exact hR1 h' r_ hi' hm c0 c1 c2 s0
    rcases List.mem_cons.mp he with rfl | he
    · obtain ⟨p1, -, hz⟩ := hp
      obtain ⟨⟨z1, z2, z3, z4⟩, z5, z6⟩ := hz
      have c0 : 0 ≤ x := by have q_ : (0 : Int) ≤ (1 * x + 0) + 0 := z4 ([(0, 1)], 0) (List.mem_of_getElem? (i := 0) rfl); omega
      have c1 : 0 ≤ -x + n - 1 := by have q_ : (0 : Int) ≤ ((-1) * x + (1 * n + 0)) + (-1) := z4 ([(0, (-1)), (2, 1)], (-1)) (List.mem_of_getElem? (i := 1) rfl); omega
      have c2 : 0 ≤ y := by have q_ : (0 : Int) ≤ (1 * y + 0) + 0 := z4 ([(1, 1)], 0) (List.mem_of_getElem? (i := 2) rfl); omega
      have c3 : 0 ≤ -y + n - 1 := by have q_ : (0 : Int) ≤ ((-1) * y + (1 * n + 0)) + (-1) := z4 ([(1, (-1)), (2, 1)], (-1)) (List.mem_of_getElem? (i := 3) rfl); omega
      have c4 : x = y := by have q_ : (0 : Int) ≤ (1 * x + ((-1) * y + 0)) + 0 := z4 ([(0, 1), (1, (-1))], 0) (List.mem_of_getElem? (i := 4) rfl); have q2_ : (0 : Int) ≤ ((-1) * x + (1 * y + 0)) + 0 := z4 ([(0, (-1)), (1, 1)], 0) (List.mem_of_getElem? (i := 5) rfl); omega
      obtain ⟨r_, rfl, hv⟩ := ansI p1 (z2 (0, ([], (-2147483648))) (List.mem_of_getElem? (i := 0) rfl))
      have s0 : r_.toInt = (-2147483648) := (show r_.toInt = 0 + (-2147483648) from hv).trans (by omega)
      exact hR2 h' r_ hi' hm c0 c1 c2 c3 c4 s0
    rcases List.mem_cons.mp he with rfl | he
    · obtain ⟨p1, -, hz⟩ := hp
      obtain ⟨⟨z1, z2, z3, z4⟩, z5, z6⟩ := hz
      have c0 : 0 ≤ x := by have q_ : (0 : Int) ≤ (1 * x + 0) + 0 := z4 ([(0, 1)], 0) (List.mem_of_getElem? (i := 0) rfl); omega
      have c1 : 0 ≤ -x + n - 1 := by have q_ : (0 : Int) ≤ ((-1) * x + (1 * n + 0)) + (-1) := z4 ([(0, (-1)), (2, 1)], (-1)) (List.mem_of_getElem? (i := 1) rfl); omega
      have c2 : 0 ≤ y := by have q_ : (0 : Int) ≤ (1 * y + 0) + 0 := z4 ([(1, 1)], 0) (List.mem_of_getElem? (i := 2) rfl); omega
      have c3 : 0 ≤ y - n := by have q_ : (0 : Int) ≤ (1 * y + ((-1) * n + 0)) + 0 := z4 ([(1, 1), (2, (-1))], 0) (List.mem_of_getElem? (i := 3) rfl); omega
      obtain ⟨r_, rfl, hv⟩ := ansI p1 (z2 (0, ([], (-2147483648))) (List.mem_of_getElem? (i := 0) rfl))
      have s0 : r_.toInt = (-2147483648) := (show r_.toInt = 0 + (-2147483648) from hv).trans (by omega)
      exact hR3 h' r_ hi' hm c0 c1 c2 c3 s0
    rcases List.mem_cons.mp he with rfl | he
    · obtain ⟨p1, -, hz⟩ := hp
      obtain ⟨⟨z1, z2, z3, z4⟩, z5, z6⟩ := hz
      have c0 : 0 ≤ x := by have q_ : (0 : Int) ≤ (1 * x + 0) + 0 := z4 ([(0, 1)], 0) (List.mem_of_getElem? (i := 0) rfl); omega
      have c1 : 0 ≤ x - n := by have q_ : (0 : Int) ≤ (1 * x + ((-1) * n + 0)) + 0 := z4 ([(0, 1), (2, (-1))], 0) (List.mem_of_getElem? (i := 1) rfl); omega
      obtain ⟨r_, rfl, hv⟩ := ansI p1 (z2 (0, ([], (-2147483648))) (List.mem_of_getElem? (i := 0) rfl))
      have s0 : r_.toInt = (-2147483648) := (show r_.toInt = 0 + (-2147483648) from hv).trans (by omega)
      exact hR4 h' r_ hi' hm c0 c1 s0
    cases he
def kqE1_L (t : Nat) : List (Nat × sT) := [(0, .inr (.inl 0)), (2, .inl sf32)]
def kqE1_S (t : Nat) : List sT := [.inl (0, 15984)]
def kqE1_A (t : Nat) : sAs := ([], [(0, 5, (17 * t + 9))], [], [])
def kqE1_P (t : Nat) : List sP0 := []
def kqE1_G (t : Nat) : List sP0 := []
def kqE1_B (t : Nat) : List (Nat × Nat × Int) := []
def kqE1_m (t : Nat) : sM := []
def kqE1_e0 (t : Nat) : sXe := (46, [.inl sf32, .inr (.inl (17 * t + 9)), .inr (.inl 43), .inl sf32], [], sA0, [], ([], [(0, ([(0, 1)], 0)), (3, ([(1, 1)], 0))], [], []), [], [])
theorem kqE1_b : ((List.range 2).all fun t => syeB swC sT0 (kqE1_m t) 400 0 138 (kqE1_L t) (kqE1_S t) (kqE1_A t) (kqE1_P t) (kqE1_G t) (kqE1_B t) 37 [kqE1_e0 t] []) = true := by decide +kernel
theorem kqE1 {l : Launch} {Γ : zG} {d : Nat} (hd : 0 ≤ d) {Kp : Option Value → zH → Prop} {lo : zL} {h : zH} {t : Nat} (h_t : t < 2) {y v1 : Int} (hi : sInv swC h) (b_y : (-2147483648) ≤ y ∧ y ≤ 2147483647) (b_v1 : 0 ≤ v1 ∧ v1 ≤ 15984) (l0 : zget lo 0 = some (.ref 0)) (l2 : zI lo 2 y) {x_v1 : Int32} (e_v1 : x_v1.toInt = v1) (q0 : h.2.2.2 0 5 = some (17 * t + 9))
    (hE0 : ∀ (lo' : zL) (h' : zH) (y0 : Int32) (y3 : Int32), sInv swC h' → sMd (kqE1_m t) h h' → y0.toInt = y → y3.toInt = v1 → zX l Γ false (d + 1) (zhd 138) (zMQ' Γ false (zhd 138) Kp) 0 0 46 lo' [.int y0, .ref (17 * t + 9), .ref 43, .int y3] h') : zX l Γ false (d + 1) (zhd 138) (zMQ' Γ false (zhd 138) Kp) 0 0 37 lo [.int x_v1] h := by
  refine sye_ok (mi := 138) (pc := 37) (fun i => [y, v1].getD i 0) (zall_r kqE1_b h_t) (fun _ _ hc _ => nomatch hc) hd ⟨l0, zIm l2 (by show (-2147483648) ≤ y; omega) (by show y ≤ 2147483647; omega), trivial⟩ ⟨x_v1, _, rfl, e_v1, ⟨by show 0 ≤ v1; omega, by show v1 ≤ 15984; omega⟩, rfl⟩ ⟨(fun _ hc => nomatch hc), (sfm q0 (fun _ hc => nomatch hc)), (fun _ hc => nomatch hc), Or.inl rfl⟩ trivial trivial (fun _ hc => nomatch hc) hi ?_ ?_
  · intro e he lo' st' h' hp hi' hm
    rcases List.mem_cons.mp he with rfl | he
    · obtain ⟨p1, p2, -, hz⟩ := hp
      obtain ⟨⟨z1, z2, z3, z4⟩, z5, z6⟩ := hz
      obtain ⟨_, _, rfl, ⟨y0, rfl, -⟩, p1⟩ := p1
      obtain ⟨_, _, rfl, hr, p1⟩ := p1
      have hr : _ = Value.ref (17 * t + 9) := hr
      subst hr
      obtain ⟨_, _, rfl, hr, p1⟩ := p1
      have hr : _ = Value.ref 43 := hr
      subst hr
      obtain ⟨_, _, rfl, ⟨y3, rfl, -⟩, p1⟩ := p1
      have p1 : _ = [] := p1
      subst p1
      obtain ⟨v_, ev, hv⟩ := z2 (0, ([(0, 1)], 0)) (List.mem_of_getElem? (i := 0) rfl)
      cases ev
      have s0 : y0.toInt = y := (show y0.toInt = (1 * y + 0) + 0 from hv).trans (by omega)
      obtain ⟨v_, ev, hv⟩ := z2 (3, ([(1, 1)], 0)) (List.mem_of_getElem? (i := 1) rfl)
      cases ev
      have s3 : y3.toInt = v1 := (show y3.toInt = (1 * v1 + 0) + 0 from hv).trans (by omega)
      exact hE0 lo' h' y0 y3 hi' hm s0 s3
    cases he
  · intro e he r' h' hp hi' hm
    cases he
def kqE2_L : List (Nat × sT) := []
def kqE2_S : List sT := [.inl (0, 15984), .inl (0, 15984)]
def kqE2_A : sAs := ([], [], [], [])
def kqE2_P : List sP0 := []
def kqE2_G : List sP0 := []
def kqE2_B : List (Nat × Nat × Int) := []
def kqE2_m : sM := []
def kqE2_r0 : sXr := (some (.inl sf32), sA0, [(0, 7, ([(0, (-1)), (1, 1)], 0), ([], 2))], ([], [(0, ([(2, 1)], 0))], [], []), [], [])
theorem kqE2_b : syeB swC sT0 kqE2_m 400 0 138 kqE2_L kqE2_S kqE2_A kqE2_P kqE2_G kqE2_B 49 [] [kqE2_r0] = true := by decide +kernel
theorem kqE2 {l : Launch} {Γ : zG} {d : Nat} (hd : 0 ≤ d) {Kp : Option Value → zH → Prop} {lo : zL} {h : zH} {v2 v1 : Int} (hi : sInv swC h) (b_v2 : 0 ≤ v2 ∧ v2 ≤ 15984) (b_v1 : 0 ≤ v1 ∧ v1 ≤ 15984) {x_v2 : Int32} (e_v2 : x_v2.toInt = v2) {x_v1 : Int32} (e_v1 : x_v1.toInt = v1)
    (hR0 : ∀ (h' : zH) (w0 : Int) (r_ : Int32), sInv swC h' → sMd kqE2_m h h' → w0 = sgfn 7 (-v2 + v1) 2 → r_.toInt = w0 → Kp (some (.int r_)) h') : zX l Γ false (d + 1) (zhd 138) (zMQ' Γ false (zhd 138) Kp) 0 0 49 lo [.int x_v2, .int x_v1] h := by
  refine sye_ok (mi := 138) (pc := 49) (fun i => [v2, v1].getD i 0) kqE2_b (fun _ _ hc _ => nomatch hc) hd trivial ⟨x_v2, _, rfl, e_v2, ⟨by show 0 ≤ v2; omega, by show v2 ≤ 15984; omega⟩, ⟨x_v1, _, rfl, e_v1, ⟨by show 0 ≤ v1; omega, by show v1 ≤ 15984; omega⟩, rfl⟩⟩ ⟨(fun _ hc => nomatch hc), (fun _ hc => nomatch hc), (fun _ hc => nomatch hc), Or.inl rfl⟩ trivial trivial (fun _ hc => nomatch hc) hi ?_ ?_
  · intro e he lo' st' h' hp hi' hm
    cases he
  · intro e he r' h' hp hi' hm
    rcases List.mem_cons.mp he with rfl | he
    · obtain ⟨p1, -, hz⟩ := hp
      obtain ⟨w0, f0, hz⟩ := hz
      obtain ⟨⟨z1, z2, z3, z4⟩, z5, z6⟩ := hz
      have g0 : w0 = sgfn 7 (-v2 + v1) 2 := (show w0 = sgfn 7 (((-1) * v2 + (1 * v1 + 0)) + 0) (0 + 2) from f0).trans (sgfn_c (by omega) (by omega))
      obtain ⟨r_, rfl, hv⟩ := ansI p1 (z2 (0, ([(2, 1)], 0)) (List.mem_of_getElem? (i := 0) rfl))
      have s0 : r_.toInt = w0 := (show r_.toInt = (1 * w0 + 0) + 0 from hv).trans (by omega)
      exact hR0 h' w0 r_ hi' hm g0 s0
    cases he
def krE0_L : List sT := [.inr (.inl 0), .inl sf32, .inl sf32]
def krE0_A : sAs := ([], [], [], [])
def krE0_P : List sP0 := [(0, (none, 12), (0, 5))]
def krE0_G : List sP0 := []
def krE0_B : List (Nat × Nat × Int) := []
def krE0_m : sM := [(0, 2, 3)]
def krE0_e0 : sXe := (29, [.inl sf32, .inl sf32, .inr (.inl 0)], [(0, .inr (.inl 0)), (2, .inl sf32)], sA0, [], ([(0, (none, 2), ([], 0))], [(0, ([(0, 1)], 0)), (1, ([], 0))], [(2, ([(1, 1)], 0))], [([(0, 1)], 0), ([(0, (-1)), (2, 1)], (-1)), ([(1, 1)], 0), ([(1, (-1)), (2, 1)], (-1))]), [(([(0, 1)], 0), ([(1, 1)], 0))], [])
def krE0_r0 : sXr := (some (.inl sf32), sA0, [], ([(0, (none, 2), ([], 0))], [(0, ([], (-2147483648)))], [], [([(0, (-1))], (-1))]), [], [])
def krE0_r1 : sXr := (some (.inl sf32), sA0, [], ([(0, (none, 2), ([], 0))], [(0, ([], (-2147483648)))], [], [([(0, 1)], 0), ([(0, 1), (2, (-1))], 0)]), [], [])
def krE0_r2 : sXr := (some (.inl sf32), sA0, [], ([(0, (none, 2), ([], 0))], [(0, ([], (-2147483648)))], [], [([(0, 1)], 0), ([(0, (-1)), (2, 1)], (-1)), ([(1, (-1))], (-1))]), [], [])
def krE0_r3 : sXr := (some (.inl sf32), sA0, [], ([(0, (none, 2), ([], 0))], [(0, ([], (-2147483648)))], [], [([(0, 1)], 0), ([(0, (-1)), (2, 1)], (-1)), ([(1, 1)], 0), ([(1, 1), (2, (-1))], 0)]), [], [])
def krE0_r4 : sXr := (some (.inl sf32), sA0, [], ([(0, (none, 2), ([], 0))], [(0, ([], (-2147483648)))], [], [([(0, 1)], 0), ([(0, (-1)), (2, 1)], (-1)), ([(1, 1)], 0), ([(1, (-1)), (2, 1)], (-1)), ([(0, 1), (1, (-1))], 0), ([(0, (-1)), (1, 1)], 0)]), [], [])
theorem krE0_b : syfB swM sT0 krE0_m 400 1 277 krE0_L krE0_A krE0_P krE0_G krE0_B [krE0_e0] [krE0_r0, krE0_r1, krE0_r2, krE0_r3, krE0_r4] = true := by decide +kernel
theorem krE0 {l : Launch} {Γ : zG} {d : Nat} (hd : 1 ≤ d) {Kp : Option Value → zH → Prop} {h : zH} {x y n : Int} (hi : sInv swM h) (b_x : (-2147483648) ≤ x ∧ x ≤ 2147483647) (b_y : (-2147483648) ≤ y ∧ y ≤ 2147483647) (b_n : 0 ≤ n ∧ n ≤ 5) {x_x : Int32} (e_x : x_x.toInt = x) {x_y : Int32} (e_y : x_y.toInt = y) (p_n : pI h 0 12 = n)
    (hE0 : ∀ (lo' : zL) (h' : zH) (y0 : Int32) (y1 : Int32), sInv swM h' → sMd krE0_m h h' → 0 ≤ x → 0 ≤ -x + n - 1 → 0 ≤ y → 0 ≤ -y + n - 1 → x ≠ y → pI h' 0 2 = 0 → zget lo' 0 = some (.ref 0) → zI lo' 2 y → y0.toInt = x → y1.toInt = 0 → zX l Γ false (d + 1) (zhd 277) (zMQ' Γ false (zhd 277) Kp) 0 0 29 lo' [.int y0, .int y1, .ref 0] h')
    (hR0 : ∀ (h' : zH) (r_ : Int32), sInv swM h' → sMd krE0_m h h' → 0 ≤ -x - 1 → pI h' 0 2 = 0 → r_.toInt = (-2147483648) → Kp (some (.int r_)) h')
    (hR1 : ∀ (h' : zH) (r_ : Int32), sInv swM h' → sMd krE0_m h h' → 0 ≤ x → 0 ≤ x - n → pI h' 0 2 = 0 → r_.toInt = (-2147483648) → Kp (some (.int r_)) h')
    (hR2 : ∀ (h' : zH) (r_ : Int32), sInv swM h' → sMd krE0_m h h' → 0 ≤ x → 0 ≤ -x + n - 1 → 0 ≤ -y - 1 → pI h' 0 2 = 0 → r_.toInt = (-2147483648) → Kp (some (.int r_)) h')
    (hR3 : ∀ (h' : zH) (r_ : Int32), sInv swM h' → sMd krE0_m h h' → 0 ≤ x → 0 ≤ -x + n - 1 → 0 ≤ y → 0 ≤ y - n → pI h' 0 2 = 0 → r_.toInt = (-2147483648) → Kp (some (.int r_)) h')
    (hR4 : ∀ (h' : zH) (r_ : Int32), sInv swM h' → sMd krE0_m h h' → 0 ≤ x → 0 ≤ -x + n - 1 → 0 ≤ y → 0 ≤ -y + n - 1 → x = y → pI h' 0 2 = 0 → r_.toInt = (-2147483648) → Kp (some (.int r_)) h') : zSem l Γ false (d + 1) (zhd 277) [.ref 0, .int x_x, .int x_y] h Kp := by
  refine syf_ok (mi := 277) (fun i => [x, y, n].getD i 0) krE0_b (fun _ _ hc _ => nomatch hc) hd ⟨_, _, rfl, rfl, ⟨_, _, rfl, ⟨x_x, rfl, by show (-2147483648) ≤ x_x.toInt; omega, by show x_x.toInt ≤ 2147483647; omega⟩, ⟨_, _, rfl, ⟨x_y, rfl, by show (-2147483648) ≤ x_y.toInt; omega, by show x_y.toInt ≤ 2147483647; omega⟩, rfl⟩⟩⟩ ⟨rfl, ⟨x_x, rfl, e_x, by show (-2147483648) ≤ x; omega, by show x ≤ 2147483647; omega⟩, ⟨x_y, rfl, e_y, by show (-2147483648) ≤ y; omega, by show y ≤ 2147483647; omega⟩, trivial⟩ ⟨(fun _ hc => nomatch hc), (fun _ hc => nomatch hc), (fun _ hc => nomatch hc), Or.inl rfl⟩ ⟨⟨p_n, by show 0 ≤ n; omega, by show n ≤ 5; omega⟩, trivial⟩ trivial (fun _ hc => nomatch hc) hi ?_ ?_
  · intro e he lo' st' h' hp hi' hm
    rcases List.mem_cons.mp he with rfl | he
    · obtain ⟨p1, p2, -, hz⟩ := hp
      obtain ⟨⟨z1, z2, z3, z4⟩, z5, z6⟩ := hz
      have c0 : 0 ≤ x := by have q_ : (0 : Int) ≤ (1 * x + 0) + 0 := z4 ([(0, 1)], 0) (List.mem_of_getElem? (i := 0) rfl); omega
      have c1 : 0 ≤ -x + n - 1 := by have q_ : (0 : Int) ≤ ((-1) * x + (1 * n + 0)) + (-1) := z4 ([(0, (-1)), (2, 1)], (-1)) (List.mem_of_getElem? (i := 1) rfl); omega
      have c2 : 0 ≤ y := by have q_ : (0 : Int) ≤ (1 * y + 0) + 0 := z4 ([(1, 1)], 0) (List.mem_of_getElem? (i := 2) rfl); omega
      have c3 : 0 ≤ -y + n - 1 := by have q_ : (0 : Int) ≤ ((-1) * y + (1 * n + 0)) + (-1) := z4 ([(1, (-1)), (2, 1)], (-1)) (List.mem_of_getElem? (i := 3) rfl); omega
      have n0 : x ≠ y := fun e_ => z5 (([(0, 1)], 0), ([(1, 1)], 0)) (List.mem_of_getElem? (i := 0) rfl) (by show (1 * x + 0) + 0 = (1 * y + 0) + 0; omega)
      have k0 : pI h' 0 2 = 0 := (show pI h' 0 2 = 0 + 0 from z1 (0, (none, 2), ([], 0)) (List.mem_of_getElem? (i := 0) rfl)).trans (by omega)
      have o0 : zget lo' 0 = some (.ref 0) := locR (p2 (0, .inr (.inl 0)) (List.mem_of_getElem? (i := 0) rfl))
      have o2 : zI lo' 2 y := zI_of (p2 (2, .inl sf32) (List.mem_of_getElem? (i := 1) rfl)) (z3 (2, ([(1, 1)], 0)) (List.mem_of_getElem? (i := 0) rfl)) (show (1 * y + 0) + 0 = y from by omega)
      obtain ⟨_, _, rfl, ⟨y0, rfl, -⟩, p1⟩ := p1
      obtain ⟨_, _, rfl, ⟨y1, rfl, -⟩, p1⟩ := p1
      obtain ⟨_, _, rfl, hr, p1⟩ := p1
      have hr : _ = Value.ref 0 := hr
      subst hr
      have p1 : _ = [] := p1
      subst p1
      obtain ⟨v_, ev, hv⟩ := z2 (0, ([(0, 1)], 0)) (List.mem_of_getElem? (i := 0) rfl)
      cases ev
      have s0 : y0.toInt = x := (show y0.toInt = (1 * x + 0) + 0 from hv).trans (by omega)
      obtain ⟨v_, ev, hv⟩ := z2 (1, ([], 0)) (List.mem_of_getElem? (i := 1) rfl)
      cases ev
      have s1 : y1.toInt = 0 := (show y1.toInt = 0 + 0 from hv).trans (by omega)
      exact hE0 lo' h' y0 y1 hi' hm c0 c1 c2 c3 n0 k0 o0 o2 s0 s1
    cases he
  · intro e he r' h' hp hi' hm
    rcases List.mem_cons.mp he with rfl | he
    · obtain ⟨p1, -, hz⟩ := hp
      obtain ⟨⟨z1, z2, z3, z4⟩, z5, z6⟩ := hz
      have c0 : 0 ≤ -x - 1 := by have q_ : (0 : Int) ≤ ((-1) * x + 0) + (-1) := z4 ([(0, (-1))], (-1)) (List.mem_of_getElem? (i := 0) rfl); omega
      have k0 : pI h' 0 2 = 0 := (show pI h' 0 2 = 0 + 0 from z1 (0, (none, 2), ([], 0)) (List.mem_of_getElem? (i := 0) rfl)).trans (by omega)
      obtain ⟨r_, rfl, hv⟩ := ansI p1 (z2 (0, ([], (-2147483648))) (List.mem_of_getElem? (i := 0) rfl))
      have s0 : r_.toInt = (-2147483648) := (show r_.toInt = 0 + (-2147483648) from hv).trans (by omega)
      exact hR0 h' r_ hi' hm c0 k0 s0
    rcases List.mem_cons.mp he with rfl | he
    · obtain ⟨p1, -, hz⟩ := hp
      obtain ⟨⟨z1, z2, z3, z4⟩, z5, z6⟩ := hz
      have c0 : 0 ≤ x := by have q_ : (0 : Int) ≤ (1 * x + 0) + 0 := z4 ([(0, 1)], 0) (List.mem_of_getElem? (i := 0) rfl); omega
      have c1 : 0 ≤ x - n := by have q_ : (0 : Int) ≤ (1 * x + ((-1) * n + 0)) + 0 := z4 ([(0, 1), (2, (-1))], 0) (List.mem_of_getElem? (i := 1) rfl); omega
      have k0 : pI h' 0 2 = 0 := (show pI h' 0 2 = 0 + 0 from z1 (0, (none, 2), ([], 0)) (List.mem_of_getElem? (i := 0) rfl)).trans (by omega)
      obtain ⟨r_, rfl, hv⟩ := ansI p1 (z2 (0, ([], (-2147483648))) (List.mem_of_getElem? (i := 0) rfl))
      have s0 : r_.toInt = (-2147483648) := (show r_.toInt = 0 + (-2147483648) from hv).trans (by omega)
      exact hR1 h' r_ hi' hm c0 c1 k0 s0
    rcases List.mem_cons.mp he with rfl | he
    · obtain ⟨p1, -, hz⟩ := hp
      obtain ⟨⟨z1, z2, z3, z4⟩, z5, z6⟩ := hz
      have c0 : 0 ≤ x := by have q_ : (0 : Int) ≤ (1 * x + 0) + 0 := z4 ([(0, 1)], 0) (List.mem_of_getElem? (i := 0) rfl); omega
      have c1 : 0 ≤ -x + n - 1 := by have q_ : (0 : Int) ≤ ((-1) * x + (1 * n + 0)) + (-1) := z4 ([(0, (-1)), (2, 1)], (-1)) (List.mem_of_getElem? (i := 1) rfl); omega
      have c2 : 0 ≤ -y - 1 := by have q_ : (0 : Int) ≤ ((-1) * y + 0) + (-1) := z4 ([(1, (-1))], (-1)) (List.mem_of_getElem? (i := 2) rfl); omega
      have k0 : pI h' 0 2 = 0 := (show pI h' 0 2 = 0 + 0 from z1 (0, (none, 2), ([], 0)) (List.mem_of_getElem? (i := 0) rfl)).trans (by omega)
      obtain ⟨r_, rfl, hv⟩ := ansI p1 (z2 (0, ([], (-2147483648))) (List.mem_of_getElem? (i := 0) rfl))
      have s0 : r_.toInt = (-2147483648) := (show r_.toInt = 0 + (-2147483648) from hv).trans (by omega)
      exact hR2 h' r_ hi' hm c0 c1 c2 k0 s0
    rcases List.mem_cons.mp he with rfl | he
    · obtain ⟨p1, -, hz⟩ := hp
      obtain ⟨⟨z1, z2, z3, z4⟩, z5, z6⟩ := hz
      have c0 : 0 ≤ x := by have q_ : (0 : Int) ≤ (1 * x + 0) + 0 := z4 ([(0, 1)], 0) (List.mem_of_getElem? (i := 0) rfl); omega
      have c1 : 0 ≤ -x + n - 1 := by have q_ : (0 : Int) ≤ ((-1) * x + (1 * n + 0)) + (-1) := z4 ([(0, (-1)), (2, 1)], (-1)) (List.mem_of_getElem? (i := 1) rfl); omega
      have c2 : 0 ≤ y := by have q_ : (0 : Int) ≤ (1 * y + 0) + 0 := z4 ([(1, 1)], 0) (List.mem_of_getElem? (i := 2) rfl); omega
      have c3 : 0 ≤ y - n := by have q_ : (0 : Int) ≤ (1 * y + ((-1) * n + 0)) + 0 := z4 ([(1, 1), (2, (-1))], 0) (List.mem_of_getElem? (i := 3) rfl); omega
      have k0 : pI h' 0 2 = 0 := (show pI h' 0 2 = 0 + 0 from z1 (0, (none, 2), ([], 0)) (List.mem_of_getElem? (i := 0) rfl)).trans (by omega)
      obtain ⟨r_, rfl, hv⟩ := ansI p1 (z2 (0, ([], (-2147483648))) (List.mem_of_getElem? (i := 0) rfl))
      have s0 : r_.toInt = (-2147483648) := (show r_.toInt = 0 + (-2147483648) from hv).trans (by omega)
      exact hR3 h' r_ hi' hm c0 c1 c2 c3 k0 s0
    rcases List.mem_cons.mp he with rfl | he
    · obtain ⟨p1, -, hz⟩ := hp
      obtain ⟨⟨z1, z2, z3, z4⟩, z5, z6⟩ := hz
      have c0 : 0 ≤ x := by have q_ : (0 : Int) ≤ (1 * x + 0) + 0 := z4 ([(0, 1)], 0) (List.mem_of_getElem? (i := 0) rfl); omega
      have c1 : 0 ≤ -x + n - 1 := by have q_ : (0 : Int) ≤ ((-1) * x + (1 * n + 0)) + (-1) := z4 ([(0, (-1)), (2, 1)], (-1)) (List.mem_of_getElem? (i := 1) rfl); omega
      have c2 : 0 ≤ y := by have q_ : (0 : Int) ≤ (1 * y + 0) + 0 := z4 ([(1, 1)], 0) (List.mem_of_getElem? (i := 2) rfl); omega
      have c3 : 0 ≤ -y + n - 1 := by have q_ : (0 : Int) ≤ ((-1) * y + (1 * n + 0)) + (-1) := z4 ([(1, (-1)), (2, 1)], (-1)) (List.mem_of_getElem? (i := 3) rfl); omega
      have c4 : x = y := by have q_ : (0 : Int) ≤ (1 * x + ((-1) * y + 0)) + 0 := z4 ([(0, 1), (1, (-1))], 0) (List.mem_of_getElem? (i := 4) rfl); have q2_ : (0 : Int) ≤ ((-1) * x + (1 * y + 0)) + 0 := z4 ([(0, (-1)), (1, 1)], 0) (List.mem_of_getElem? (i := 5) rfl); omega
      have k0 : pI h' 0 2 = 0 := (show pI h' 0 2 = 0 + 0 from z1 (0, (none, 2), ([], 0)) (List.mem_of_getElem? (i := 0) rfl)).trans (by omega)
      obtain ⟨r_, rfl, hv⟩ := ansI p1 (z2 (0, ([], (-2147483648))) (List.mem_of_getElem? (i := 0) rfl))
      have s0 : r_.toInt = (-2147483648) := (show r_.toInt = 0 + (-2147483648) from hv).trans (by omega)
      exact hR4 h' r_ hi' hm c0 c1 c2 c3 c4 k0 s0
    cases he
def krE1_L : List (Nat × sT) := [(0, .inr (.inl 0)), (2, .inl sf32)]
def krE1_S : List sT := [.inl (0, 15984)]
def krE1_A : sAs := ([], [], [], [])
def krE1_P : List sP0 := []
def krE1_G : List sP0 := []
def krE1_B : List (Nat × Nat × Int) := []
def krE1_m : sM := []
def krE1_e0 : sXe := (35, [.inl sf32, .inl sf32, .inr (.inl 0), .inl sf32], [], sA0, [], ([], [(0, ([(0, 1)], 0)), (1, ([], 0)), (3, ([(1, 1)], 0))], [], []), [], [])
theorem krE1_b : syeB swM sT0 krE1_m 400 0 277 krE1_L krE1_S krE1_A krE1_P krE1_G krE1_B 32 [krE1_e0] [] = true := by decide +kernel
theorem krE1 {l : Launch} {Γ : zG} {d : Nat} (hd : 0 ≤ d) {Kp : Option Value → zH → Prop} {lo : zL} {h : zH} {y v1 : Int} (hi : sInv swM h) (b_y : (-2147483648) ≤ y ∧ y ≤ 2147483647) (b_v1 : 0 ≤ v1 ∧ v1 ≤ 15984) (l0 : zget lo 0 = some (.ref 0)) (l2 : zI lo 2 y) {x_v1 : Int32} (e_v1 : x_v1.toInt = v1)
    (hE0 : ∀ (lo' : zL) (h' : zH) (y0 : Int32) (y1 : Int32) (y3 : Int32), sInv swM h' → sMd krE1_m h h' → y0.toInt = y → y1.toInt = 0 → y3.toInt = v1 → zX l Γ false (d + 1) (zhd 277) (zMQ' Γ false (zhd 277) Kp) 0 0 35 lo' [.int y0, .int y1, .ref 0, .int y3] h') : zX l Γ false (d + 1) (zhd 277) (zMQ' Γ false (zhd 277) Kp) 0 0 32 lo [.int x_v1] h := by
  refine sye_ok (mi := 277) (pc := 32) (fun i => [y, v1].getD i 0) krE1_b (fun _ _ hc _ => nomatch hc) hd ⟨l0, zIm l2 (by show (-2147483648) ≤ y; omega) (by show y ≤ 2147483647; omega), trivial⟩ ⟨x_v1, _, rfl, e_v1, ⟨by show 0 ≤ v1; omega, by show v1 ≤ 15984; omega⟩, rfl⟩ ⟨(fun _ hc => nomatch hc), (fun _ hc => nomatch hc), (fun _ hc => nomatch hc), Or.inl rfl⟩ trivial trivial (fun _ hc => nomatch hc) hi ?_ ?_
  · intro e he lo' st' h' hp hi' hm
    rcases List.mem_cons.mp he with rfl | he
    · obtain ⟨p1, p2, -, hz⟩ := hp
      obtain ⟨⟨z1, z2, z3, z4⟩, z5, z6⟩ := hz
      obtain ⟨_, _, rfl, ⟨y0, rfl, -⟩, p1⟩ := p1
      obtain ⟨_, _, rfl, ⟨y1, rfl, -⟩, p1⟩ := p1
      obtain ⟨_, _, rfl, hr, p1⟩ := p1
      have hr : _ = Value.ref 0 := hr
      subst hr
      obtain ⟨_, _, rfl, ⟨y3, rfl, -⟩, p1⟩ := p1
      have p1 : _ = [] := p1
      subst p1
      obtain ⟨v_, ev, hv⟩ := z2 (0, ([(0, 1)], 0)) (List.mem_of_getElem? (i := 0) rfl)
      cases ev
      have s0 : y0.toInt = y := (show y0.toInt = (1 * y + 0) + 0 from hv).trans (by omega)
      obtain ⟨v_, ev, hv⟩ := z2 (1, ([], 0)) (List.mem_of_getElem? (i := 1) rfl)
      cases ev
      have s1 : y1.toInt = 0 := (show y1.toInt = 0 + 0 from hv).trans (by omega)
      obtain ⟨v_, ev, hv⟩ := z2 (3, ([(1, 1)], 0)) (List.mem_of_getElem? (i := 2) rfl)
      cases ev
      have s3 : y3.toInt = v1 := (show y3.toInt = (1 * v1 + 0) + 0 from hv).trans (by omega)
      exact hE0 lo' h' y0 y1 y3 hi' hm s0 s1 s3
    cases he
  · intro e he r' h' hp hi' hm
    cases he
def krE2_L : List (Nat × sT) := []
def krE2_S : List sT := [.inl (0, 15984), .inl (0, 15984)]
def krE2_A : sAs := ([], [], [], [])
def krE2_P : List sP0 := []
def krE2_G : List sP0 := []
def krE2_B : List (Nat × Nat × Int) := []
def krE2_m : sM := []
def krE2_r0 : sXr := (some (.inl sf32), sA0, [(0, 7, ([(0, (-1)), (1, 1)], 0), ([], 2))], ([], [(0, ([(2, 1)], 0))], [], []), [], [])
theorem krE2_b : syeB swM sT0 krE2_m 400 0 277 krE2_L krE2_S krE2_A krE2_P krE2_G krE2_B 38 [] [krE2_r0] = true := by decide +kernel
theorem krE2 {l : Launch} {Γ : zG} {d : Nat} (hd : 0 ≤ d) {Kp : Option Value → zH → Prop} {lo : zL} {h : zH} {v2 v1 : Int} (hi : sInv swM h) (b_v2 : 0 ≤ v2 ∧ v2 ≤ 15984) (b_v1 : 0 ≤ v1 ∧ v1 ≤ 15984) {x_v2 : Int32} (e_v2 : x_v2.toInt = v2) {x_v1 : Int32} (e_v1 : x_v1.toInt = v1)
    (hR0 : ∀ (h' : zH) (w0 : Int) (r_ : Int32), sInv swM h' → sMd krE2_m h h' → w0 = sgfn 7 (-v2 + v1) 2 → r_.toInt = w0 → Kp (some (.int r_)) h') : zX l Γ false (d + 1) (zhd 277) (zMQ' Γ false (zhd 277) Kp) 0 0 38 lo [.int x_v2, .int x_v1] h := by
  refine sye_ok (mi := 277) (pc := 38) (fun i => [v2, v1].getD i 0) krE2_b (fun _ _ hc _ => nomatch hc) hd trivial ⟨x_v2, _, rfl, e_v2, ⟨by show 0 ≤ v2; omega, by show v2 ≤ 15984; omega⟩, ⟨x_v1, _, rfl, e_v1, ⟨by show 0 ≤ v1; omega, by show v1 ≤ 15984; omega⟩, rfl⟩⟩ ⟨(fun _ hc => nomatch hc), (fun _ hc => nomatch hc), (fun _ hc => nomatch hc), Or.inl rfl⟩ trivial trivial (fun _ hc => nomatch hc) hi ?_ ?_
  · intro e he lo' st' h' hp hi' hm
    cases he
  · intro e he r' h' hp hi' hm
    rcases List.mem_cons.mp he with rfl | he
    · obtain ⟨p1, -, hz⟩ := hp
      obtain ⟨w0, f0, hz⟩ := hz
      obtain ⟨⟨z1, z2, z3, z4⟩, z5, z6⟩ := hz
      have g0 : w0 = sgfn 7 (-v2 + v1) 2 := (show w0 = sgfn 7 (((-1) * v2 + (1 * v1 + 0)) + 0) (0 + 2) from f0).trans (sgfn_c (by omega) (by omega))
      obtain ⟨r_, rfl, hv⟩ := ansI p1 (z2 (0, ([(2, 1)], 0)) (List.mem_of_getElem? (i := 0) rfl))
      have s0 : r_.toInt = w0 := (show r_.toInt = (1 * w0 + 0) + 0 from hv).trans (by omega)
      exact hR0 h' w0 r_ hi' hm g0 s0
    cases he
