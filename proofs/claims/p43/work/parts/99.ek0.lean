def cmC0_L (t : Nat) : List sT := [.inr (.inl 79), .inr (.inl (17 * t + 9)), .inl (0, 7)]
def cmC0_A (t : Nat) : sAs := ([], [], [], [])
def cmC0_P (t : Nat) : List sP0 := []
def cmC0_G (t : Nat) : List sP0 := []
def cmC0_B (t : Nat) : List (Nat × Nat × Int) := []
def cmC0_m (t : Nat) : sM := []
def cmC0_e0 (t : Nat) : sXe := (7, [], [(0, .inr (.inl 79)), (1, .inr (.inl (17 * t + 9))), (3, .inl sf32), (4, .inl sf32)], sA0, [(0, 3, ([], 1), ([(0, 1)], 0))], ([], [], [(3, ([(1, 1)], 0)), (4, ([], 0))], []), [], [])
theorem cmC0_b : ((List.range 2).all fun t => syfB swC sT0 (cmC0_m t) 400 0 137 (cmC0_L t) (cmC0_A t) (cmC0_P t) (cmC0_G t) (cmC0_B t) [cmC0_e0 t] []) = true := by decide +kernel
theorem cmC0 {l : Launch} {Γ : zG} {d : Nat} (hd : 0 ≤ d) {Kp : Option Value → zH → Prop} {h : zH} {t : Nat} (h_t : t < 2) {g : Int} (hi : sInv swC h) (b_g : 0 ≤ g ∧ g ≤ 7) {x_g : Int32} (e_g : x_g.toInt = g)
    (hE0 : ∀ (lo' : zL) (h' : zH) (w0 : Int), sInv swC h' → sMd (cmC0_m t) h h' → w0 = sgfn 3 1 g → zget lo' 0 = some (.ref 79) → zget lo' 1 = some (.ref (17 * t + 9)) → zI lo' 3 w0 → zI lo' 4 0 → zX l Γ false (d + 1) (zhd 137) (zMQ' Γ false (zhd 137) Kp) 0 0 7 lo' [] h') : zSem l Γ false (d + 1) (zhd 137) [.ref 79, .ref (17 * t + 9), .int x_g] h Kp := by
  refine syf_ok (mi := 137) (fun i => [g].getD i 0) (zall_r cmC0_b h_t) (fun _ _ hc _ => nomatch hc) hd ⟨_, _, rfl, rfl, ⟨_, _, rfl, rfl, ⟨_, _, rfl, ⟨x_g, rfl, by show 0 ≤ x_g.toInt; omega, by show x_g.toInt ≤ 7; omega⟩, rfl⟩⟩⟩ ⟨rfl, rfl, ⟨x_g, rfl, e_g, by show 0 ≤ g; omega, by show g ≤ 7; omega⟩, trivial⟩ ⟨(fun _ hc => nomatch hc), (fun _ hc => nomatch hc), (fun _ hc => nomatch hc), Or.inl rfl⟩ trivial trivial (fun _ hc => nomatch hc) hi ?_ ?_
  · intro e he lo' st' h' hp hi' hm
    rcases List.mem_cons.mp he with rfl | he
    · obtain ⟨p1, p2, -, hz⟩ := hp
      obtain ⟨w0, f0, hz⟩ := hz
      obtain ⟨⟨z1, z2, z3, z4⟩, z5, z6⟩ := hz
      have g0 : w0 = sgfn 3 1 g := (show w0 = sgfn 3 (0 + 1) ((1 * g + 0) + 0) from f0).trans (sgfn_c (by omega) (by omega))
      have o0 : zget lo' 0 = some (.ref 79) := locR (p2 (0, .inr (.inl 79)) (List.mem_of_getElem? (i := 0) rfl))
      have o1 : zget lo' 1 = some (.ref (17 * t + 9)) := locR (p2 (1, .inr (.inl (17 * t + 9))) (List.mem_of_getElem? (i := 1) rfl))
      have o3 : zI lo' 3 w0 := zI_of (p2 (3, .inl sf32) (List.mem_of_getElem? (i := 2) rfl)) (z3 (3, ([(1, 1)], 0)) (List.mem_of_getElem? (i := 0) rfl)) (show (1 * w0 + 0) + 0 = w0 from by omega)
      have o4 : zI lo' 4 0 := zI_of (p2 (4, .inl sf32) (List.mem_of_getElem? (i := 3) rfl)) (z3 (4, ([], 0)) (List.mem_of_getElem? (i := 1) rfl)) (show 0 + 0 = 0 from by omega)
      have p1 : _ = [] := p1
      subst p1
      exact hE0 lo' h' w0 hi' hm g0 o0 o1 o3 o4
    cases he
  · intro e he r' h' hp hi' hm
    cases he
def cmC1_L (t : Nat) : List (Nat × sT) := [(0, .inr (.inl 79)), (1, .inr (.inl (17 * t + 9))), (3, .inl sf32), (4, .inl (0, 8))]
def cmC1_S (t : Nat) : List sT := []
def cmC1_A (t : Nat) : sAs := ([], [], [], [])
def cmC1_P (t : Nat) : List sP0 := []
def cmC1_G (t : Nat) : List sP0 := []
def cmC1_B (t : Nat) : List (Nat × Nat × Int) := []
def cmC1_m (t : Nat) : sM := []
def cmC1_e0 (t : Nat) : sXe := (17, [], [(0, .inr (.inl 79)), (1, .inr (.inl (17 * t + 9))), (3, .inl sf32), (4, .inl sf32), (5, .inl sf32)], sA0, [], ([], [], [(3, ([(0, 1)], 0)), (4, ([(1, 1)], 0)), (5, ([], 0))], [([(1, (-1))], 7)]), [], [])
def cmC1_r0 (t : Nat) : sXr := (some (.inl sf32), sA0, [], ([], [(0, ([(0, 1)], 0))], [], [([(1, 1)], (-8))]), [], [])
theorem cmC1_b : ((List.range 2).all fun t => syeB swC sT0 (cmC1_m t) 400 0 137 (cmC1_L t) (cmC1_S t) (cmC1_A t) (cmC1_P t) (cmC1_G t) (cmC1_B t) 7 [cmC1_e0 t] [cmC1_r0 t]) = true := by decide +kernel
theorem cmC1 {l : Launch} {Γ : zG} {d : Nat} (hd : 0 ≤ d) {Kp : Option Value → zH → Prop} {lo : zL} {h : zH} {t : Nat} (h_t : t < 2) {b k : Int} (hi : sInv swC h) (b_b : (-2147483648) ≤ b ∧ b ≤ 2147483647) (b_k : 0 ≤ k ∧ k ≤ 8) (l0 : zget lo 0 = some (.ref 79)) (l1 : zget lo 1 = some (.ref (17 * t + 9))) (l3 : zI lo 3 b) (l4 : zI lo 4 k)
    (hE0 : ∀ (lo' : zL) (h' : zH), sInv swC h' → sMd (cmC1_m t) h h' → 0 ≤ -k + 7 → zget lo' 0 = some (.ref 79) → zget lo' 1 = some (.ref (17 * t + 9)) → zI lo' 3 b → zI lo' 4 k → zI lo' 5 0 → zX l Γ false (d + 1) (zhd 137) (zMQ' Γ false (zhd 137) Kp) 0 0 17 lo' [] h')
    (hR0 : ∀ (h' : zH) (r_ : Int32), sInv swC h' → sMd (cmC1_m t) h h' → 0 ≤ k - 8 → r_.toInt = b → Kp (some (.int r_)) h') : zX l Γ false (d + 1) (zhd 137) (zMQ' Γ false (zhd 137) Kp) 0 0 7 lo [] h := by
  refine sye_ok (mi := 137) (pc := 7) (fun i => [b, k].getD i 0) (zall_r cmC1_b h_t) (fun _ _ hc _ => nomatch hc) hd ⟨l0, l1, zIm l3 (by show (-2147483648) ≤ b; omega) (by show b ≤ 2147483647; omega), zIm l4 (by show 0 ≤ k; omega) (by show k ≤ 8; omega), trivial⟩ rfl ⟨(fun _ hc => nomatch hc), (fun _ hc => nomatch hc), (fun _ hc => nomatch hc), Or.inl rfl⟩ trivial trivial (fun _ hc => nomatch hc) hi ?_ ?_
  · intro e he lo' st' h' hp hi' hm
    rcases List.mem_cons.mp he with rfl | he
    · obtain ⟨p1, p2, -, hz⟩ := hp
      obtain ⟨⟨z1, z2, z3, z4⟩, z5, z6⟩ := hz
      have c0 : 0 ≤ -k + 7 := by have q_ : (0 : Int) ≤ ((-1) * k + 0) + 7 := z4 ([(1, (-1))], 7) (List.mem_of_getElem? (i := 0) rfl); omega
      have o0 : zget lo' 0 = some (.ref 79) := locR (p2 (0, .inr (.inl 79)) (List.mem_of_getElem? (i := 0) rfl))
      have o1 : zget lo' 1 = some (.ref (17 * t + 9)) := locR (p2 (1, .inr (.inl (17 * t + 9))) (List.mem_of_getElem? (i := 1) rfl))
      have o3 : zI lo' 3 b := zI_of (p2 (3, .inl sf32) (List.mem_of_getElem? (i := 2) rfl)) (z3 (3, ([(0, 1)], 0)) (List.mem_of_getElem? (i := 0) rfl)) (show (1 * b + 0) + 0 = b from by omega)
      have o4 : zI lo' 4 k := zI_of (p2 (4, .inl sf32) (List.mem_of_getElem? (i := 3) rfl)) (z3 (4, ([(1, 1)], 0)) (List.mem_of_getElem? (i := 1) rfl)) (show (1 * k + 0) + 0 = k from by omega)
      have o5 : zI lo' 5 0 := zI_of (p2 (5, .inl sf32) (List.mem_of_getElem? (i := 4) rfl)) (z3 (5, ([], 0)) (List.mem_of_getElem? (i := 2) rfl)) (show 0 + 0 = 0 from by omega)
      have p1 : _ = [] := p1
      subst p1
      exact hE0 lo' h' hi' hm c0 o0 o1 o3 o4 o5
    cases he
  · intro e he r' h' hp hi' hm
    rcases List.mem_cons.mp he with rfl | he
    · obtain ⟨p1, -, hz⟩ := hp
      obtain ⟨⟨z1, z2, z3, z4⟩, z5, z6⟩ := hz
      have c0 : 0 ≤ k - 8 := by have q_ : (0 : Int) ≤ (1 * k + 0) + (-8) := z4 ([(1, 1)], (-8)) (List.mem_of_getElem? (i := 0) rfl); omega
      obtain ⟨r_, rfl, hv⟩ := ansI p1 (z2 (0, ([(0, 1)], 0)) (List.mem_of_getElem? (i := 0) rfl))
      have s0 : r_.toInt = b := (show r_.toInt = (1 * b + 0) + 0 from hv).trans (by omega)
      exact hR0 h' r_ hi' hm c0 s0
    cases he
def cmC2_L (p : Nat) (t : Nat) : List (Nat × sT) := [(0, .inr (.inl 79)), (1, .inr (.inl (17 * t + 9))), (3, .inl sf32), (4, .inl (0, 7)), (5, .inl ((p : Int), (p : Int)))]
def cmC2_S (p : Nat) (t : Nat) : List sT := []
def cmC2_A (p : Nat) (t : Nat) : sAs := ([], [], [], [])
def cmC2_P (p : Nat) (t : Nat) : List sP0 := [((17 * t + 16), (none, 3), (((p : Int) + 1), 10)), ((17 * t + 17), (none, ((4 * p : Nat) : Int)), sf32), ((17 * t + 17), (none, (((4 * p + 1) : Nat) : Int)), sf32)]
def cmC2_G (p : Nat) (t : Nat) : List sP0 := []
def cmC2_B (p : Nat) (t : Nat) : List (Nat × Nat × Int) := []
def cmC2_m (p : Nat) (t : Nat) : sM := []
def cmC2_e0 (p : Nat) (t : Nat) : sXe := (17, [], [(0, .inr (.inl 79)), (1, .inr (.inl (17 * t + 9))), (3, .inl sf32), (4, .inl sf32), (5, .inl sf32)], sA0, [(0, 3, ([], 1), ([(5, 1)], 0)), (0, 0, ([(0, 1)], 0), ([(6, 1)], 0)), (0, 4, ([(0, 1)], 0), ([(4, 1)], 0)), (0, 2, ([(8, 1)], 0), ([], 1))], ([], [], [(3, ([(7, 1)], 0)), (4, ([(1, 1)], 0)), (5, ([], ((p : Int) + 1)))], [([(9, 1)], (-1)), ([(9, (-1))], 1)]), [], [])
def cmC2_e1 (p : Nat) (t : Nat) : sXe := (17, [], [(0, .inr (.inl 79)), (1, .inr (.inl (17 * t + 9))), (3, .inl sf32), (4, .inl sf32), (5, .inl sf32)], sA0, [(0, 4, ([(0, 1)], 0), ([(4, 1)], 0)), (0, 2, ([(6, 1)], 0), ([], 1))], ([], [], [(3, ([(0, 1)], 0)), (4, ([(1, 1)], 0)), (5, ([], ((p : Int) + 1)))], []), [(([(7, 1)], 0), ([], 1))], [])
theorem cmC2_b : ((List.range 10).all fun p => ((List.range 2).all fun t => syeB swC sT0 (cmC2_m p t) 400 1 137 (cmC2_L p t) (cmC2_S p t) (cmC2_A p t) (cmC2_P p t) (cmC2_G p t) (cmC2_B p t) 17 [cmC2_e0 p t, cmC2_e1 p t] [])) = true := by decide +kernel
theorem cmC2 {l : Launch} {Γ : zG} {d : Nat} (hd : 1 ≤ d) {Kp : Option Value → zH → Prop} {lo : zL} {h : zH} {p : Nat} (h_p : p < 10) {t : Nat} (h_t : t < 2) {b k n f o : Int} (hi : sInv swC h) (b_b : (-2147483648) ≤ b ∧ b ≤ 2147483647) (b_k : 0 ≤ k ∧ k ≤ 7) (b_n : ((p : Int) + 1) ≤ n ∧ n ≤ 10) (b_f : (-2147483648) ≤ f ∧ f ≤ 2147483647) (b_o : (-2147483648) ≤ o ∧ o ≤ 2147483647) (l0 : zget lo 0 = some (.ref 79)) (l1 : zget lo 1 = some (.ref (17 * t + 9))) (l3 : zI lo 3 b) (l4 : zI lo 4 k) (l5 : zI lo 5 (p : Int)) (p_n : pI h (17 * t + 16) 3 = n) (p_f : pI h (17 * t + 17) (4 * p) = f) (p_o : pI h (17 * t + 17) (4 * p + 1) = o)
    (hE0 : ∀ (lo' : zL) (h' : zH) (w0 w1 w2 w3 : Int), sInv swC h' → sMd (cmC2_m p t) h h' → w0 = sgfn 3 1 o → w1 = sgfn 0 b w0 → w2 = sgfn 4 b f → w3 = sgfn 2 w2 1 → w3 = 1 → zget lo' 0 = some (.ref 79) → zget lo' 1 = some (.ref (17 * t + 9)) → zI lo' 3 w1 → zI lo' 4 k → zI lo' 5 ((p : Int) + 1) → zX l Γ false (d + 1) (zhd 137) (zMQ' Γ false (zhd 137) Kp) 0 0 17 lo' [] h')
    (hE1 : ∀ (lo' : zL) (h' : zH) (w0 w1 : Int), sInv swC h' → sMd (cmC2_m p t) h h' → w0 = sgfn 4 b f → w1 = sgfn 2 w0 1 → w1 ≠ 1 → zget lo' 0 = some (.ref 79) → zget lo' 1 = some (.ref (17 * t + 9)) → zI lo' 3 b → zI lo' 4 k → zI lo' 5 ((p : Int) + 1) → zX l Γ false (d + 1) (zhd 137) (zMQ' Γ false (zhd 137) Kp) 0 0 17 lo' [] h') : zX l Γ false (d + 1) (zhd 137) (zMQ' Γ false (zhd 137) Kp) 0 0 17 lo [] h := by
  refine sye_ok (mi := 137) (pc := 17) (fun i => [b, k, (p : Int), n, f, o].getD i 0) (zall_r (zall_r cmC2_b h_p) h_t) (fun _ _ hc _ => nomatch hc) hd ⟨l0, l1, zIm l3 (by show (-2147483648) ≤ b; omega) (by show b ≤ 2147483647; omega), zIm l4 (by show 0 ≤ k; omega) (by show k ≤ 7; omega), zIm l5 (by show (p : Int) ≤ (p : Int); omega) (by show (p : Int) ≤ (p : Int); omega), trivial⟩ rfl ⟨(fun _ hc => nomatch hc), (fun _ hc => nomatch hc), (fun _ hc => nomatch hc), Or.inl rfl⟩ ⟨⟨p_n, by show ((p : Int) + 1) ≤ n; omega, by show n ≤ 10; omega⟩, ⟨p_f, by show (-2147483648) ≤ f; omega, by show f ≤ 2147483647; omega⟩, ⟨p_o, by show (-2147483648) ≤ o; omega, by show o ≤ 2147483647; omega⟩, trivial⟩ trivial (fun _ hc => nomatch hc) hi ?_ ?_
  · intro e he lo' st' h' hp hi' hm
    rcases List.mem_cons.mp he with rfl | he
    · obtain ⟨p1, p2, -, hz⟩ := hp
      obtain ⟨w0, f0, hz⟩ := hz
      obtain ⟨w1, f1, hz⟩ := hz
      obtain ⟨w2, f2, hz⟩ := hz
      obtain ⟨w3, f3, hz⟩ := hz
      obtain ⟨⟨z1, z2, z3, z4⟩, z5, z6⟩ := hz
      have g0 : w0 = sgfn 3 1 o := (show w0 = sgfn 3 (0 + 1) ((1 * o + 0) + 0) from f0).trans (sgfn_c (by omega) (by omega))
      have g1 : w1 = sgfn 0 b w0 := (show w1 = sgfn 0 ((1 * b + 0) + 0) ((1 * w0 + 0) + 0) from f1).trans (sgfn_c (by omega) (by omega))
      have g2 : w2 = sgfn 4 b f := (show w2 = sgfn 4 ((1 * b + 0) + 0) ((1 * f + 0) + 0) from f2).trans (sgfn_c (by omega) (by omega))
      have g3 : w3 = sgfn 2 w2 1 := (show w3 = sgfn 2 ((1 * w2 + 0) + 0) (0 + 1) from f3).trans (sgfn_c (by omega) (by omega))
      have c0 : w3 = 1 := by have q_ : (0 : Int) ≤ (1 * w3 + 0) + (-1) := z4 ([(9, 1)], (-1)) (List.mem_of_getElem? (i := 0) rfl); have q2_ : (0 : Int) ≤ ((-1) * w3 + 0) + 1 := z4 ([(9, (-1))], 1) (List.mem_of_getElem? (i := 1) rfl); omega
      have o0 : zget lo' 0 = some (.ref 79) := locR (p2 (0, .inr (.inl 79)) (List.mem_of_getElem? (i := 0) rfl))
      have o1 : zget lo' 1 = some (.ref (17 * t + 9)) := locR (p2 (1, .inr (.inl (17 * t + 9))) (List.mem_of_getElem? (i := 1) rfl))
      have o3 : zI lo' 3 w1 := zI_of (p2 (3, .inl sf32) (List.mem_of_getElem? (i := 2) rfl)) (z3 (3, ([(7, 1)], 0)) (List.mem_of_getElem? (i := 0) rfl)) (show (1 * w1 + 0) + 0 = w1 from by omega)
      have o4 : zI lo' 4 k := zI_of (p2 (4, .inl sf32) (List.mem_of_getElem? (i := 3) rfl)) (z3 (4, ([(1, 1)], 0)) (List.mem_of_getElem? (i := 1) rfl)) (show (1 * k + 0) + 0 = k from by omega)
      have o5 : zI lo' 5 ((p : Int) + 1) := zI_of (p2 (5, .inl sf32) (List.mem_of_getElem? (i := 4) rfl)) (z3 (5, ([], ((p : Int) + 1))) (List.mem_of_getElem? (i := 2) rfl)) (show 0 + ((p : Int) + 1) = ((p : Int) + 1) from by omega)
      have p1 : _ = [] := p1
      subst p1
      exact hE0 lo' h' w0 w1 w2 w3 hi' hm g0 g1 g2 g3 c0 o0 o1 o3 o4 o5
    rcases List.mem_cons.mp he with rfl | he
    · obtain ⟨p1, p2, -, hz⟩ := hp
      obtain ⟨w0, f0, hz⟩ := hz
      obtain ⟨w1, f1, hz⟩ := hz
      obtain ⟨⟨z1, z2, z3, z4⟩, z5, z6⟩ := hz
      have g0 : w0 = sgfn 4 b f := (show w0 = sgfn 4 ((1 * b + 0) + 0) ((1 * f + 0) + 0) from f0).trans (sgfn_c (by omega) (by omega))
      have g1 : w1 = sgfn 2 w0 1 := (show w1 = sgfn 2 ((1 * w0 + 0) + 0) (0 + 1) from f1).trans (sgfn_c (by omega) (by omega))
      have n0 : w1 ≠ 1 := fun e_ => z5 (([(7, 1)], 0), ([], 1)) (List.mem_of_getElem? (i := 0) rfl) (by show (1 * w1 + 0) + 0 = 0 + 1; omega)
      have o0 : zget lo' 0 = some (.ref 79) := locR (p2 (0, .inr (.inl 79)) (List.mem_of_getElem? (i := 0) rfl))
      have o1 : zget lo' 1 = some (.ref (17 * t + 9)) := locR (p2 (1, .inr (.inl (17 * t + 9))) (List.mem_of_getElem? (i := 1) rfl))
      have o3 : zI lo' 3 b := zI_of (p2 (3, .inl sf32) (List.mem_of_getElem? (i := 2) rfl)) (z3 (3, ([(0, 1)], 0)) (List.mem_of_getElem? (i := 0) rfl)) (show (1 * b + 0) + 0 = b from by omega)
      have o4 : zI lo' 4 k := zI_of (p2 (4, .inl sf32) (List.mem_of_getElem? (i := 3) rfl)) (z3 (4, ([(1, 1)], 0)) (List.mem_of_getElem? (i := 1) rfl)) (show (1 * k + 0) + 0 = k from by omega)
      have o5 : zI lo' 5 ((p : Int) + 1) := zI_of (p2 (5, .inl sf32) (List.mem_of_getElem? (i := 4) rfl)) (z3 (5, ([], ((p : Int) + 1))) (List.mem_of_getElem? (i := 2) rfl)) (show 0 + ((p : Int) + 1) = ((p : Int) + 1) from by omega)
      have p1 : _ = [] := p1
      subst p1
      exact hE1 lo' h' w0 w1 hi' hm g0 g1 n0 o0 o1 o3 o4 o5
    cases he
  · intro e he r' h' hp hi' hm
    cases he
def cmC3_L (t : Nat) : List (Nat × sT) := [(0, .inr (.inl 79)), (1, .inr (.inl (17 * t + 9))), (3, .inl sf32), (4, .inl (0, 7)), (5, .inl (0, 10))]
def cmC3_S (t : Nat) : List sT := []
def cmC3_A (t : Nat) : sAs := ([], [], [], [])
def cmC3_P (t : Nat) : List sP0 := [((17 * t + 16), (none, 3), (0, 10))]
def cmC3_G (t : Nat) : List sP0 := []
def cmC3_B (t : Nat) : List (Nat × Nat × Int) := [(2, 3, 0)]
def cmC3_m (t : Nat) : sM := []
def cmC3_e0 (t : Nat) : sXe := (7, [], [(0, .inr (.inl 79)), (1, .inr (.inl (17 * t + 9))), (3, .inl sf32), (4, .inl sf32)], sA0, [], ([], [], [(3, ([(0, 1)], 0)), (4, ([(1, 1)], 1))], []), [], [])
theorem cmC3_b : ((List.range 2).all fun t => syeB swC sT0 (cmC3_m t) 400 0 137 (cmC3_L t) (cmC3_S t) (cmC3_A t) (cmC3_P t) (cmC3_G t) (cmC3_B t) 17 [cmC3_e0 t] []) = true := by decide +kernel
theorem cmC3 {l : Launch} {Γ : zG} {d : Nat} (hd : 0 ≤ d) {Kp : Option Value → zH → Prop} {lo : zL} {h : zH} {t : Nat} (h_t : t < 2) {b k q n : Int} (hi : sInv swC h) (b_b : (-2147483648) ≤ b ∧ b ≤ 2147483647) (b_k : 0 ≤ k ∧ k ≤ 7) (b_q : 0 ≤ q ∧ q ≤ 10) (b_n : 0 ≤ n ∧ n ≤ 10) (l0 : zget lo 0 = some (.ref 79)) (l1 : zget lo 1 = some (.ref (17 * t + 9))) (l3 : zI lo 3 b) (l4 : zI lo 4 k) (l5 : zI lo 5 q) (p_n : pI h (17 * t + 16) 3 = n) (d0 : 0 ≤ q - n)
    (hE0 : ∀ (lo' : zL) (h' : zH), sInv swC h' → sMd (cmC3_m t) h h' → zget lo' 0 = some (.ref 79) → zget lo' 1 = some (.ref (17 * t + 9)) → zI lo' 3 b → zI lo' 4 (k + 1) → zX l Γ false (d + 1) (zhd 137) (zMQ' Γ false (zhd 137) Kp) 0 0 7 lo' [] h') : zX l Γ false (d + 1) (zhd 137) (zMQ' Γ false (zhd 137) Kp) 0 0 17 lo [] h := by
  refine sye_ok (mi := 137) (pc := 17) (fun i => [b, k, q, n].getD i 0) (zall_r cmC3_b h_t) (fun _ _ hc _ => nomatch hc) hd ⟨l0, l1, zIm l3 (by show (-2147483648) ≤ b; omega) (by show b ≤ 2147483647; omega), zIm l4 (by show 0 ≤ k; omega) (by show k ≤ 7; omega), zIm l5 (by show 0 ≤ q; omega) (by show q ≤ 10; omega), trivial⟩ rfl ⟨(fun _ hc => nomatch hc), (fun _ hc => nomatch hc), (fun _ hc => nomatch hc), Or.inl rfl⟩ ⟨⟨p_n, by show 0 ≤ n; omega, by show n ≤ 10; omega⟩, trivial⟩ trivial (sfm d0 (fun _ hc => nomatch hc)) hi ?_ ?_
  · intro e he lo' st' h' hp hi' hm
    rcases List.mem_cons.mp he with rfl | he
    · obtain ⟨p1, p2, -, hz⟩ := hp
      obtain ⟨⟨z1, z2, z3, z4⟩, z5, z6⟩ := hz
      have o0 : zget lo' 0 = some (.ref 79) := locR (p2 (0, .inr (.inl 79)) (List.mem_of_getElem? (i := 0) rfl))
      have o1 : zget lo' 1 = some (.ref (17 * t + 9)) := locR (p2 (1, .inr (.inl (17 * t + 9))) (List.mem_of_getElem? (i := 1) rfl))
      have o3 : zI lo' 3 b := zI_of (p2 (3, .inl sf32) (List.mem_of_getElem? (i := 2) rfl)) (z3 (3, ([(0, 1)], 0)) (List.mem_of_getElem? (i := 0) rfl)) (show (1 * b + 0) + 0 = b from by omega)
      have o4 : zI lo' 4 (k + 1) := zI_of (p2 (4, .inl sf32) (List.mem_of_getElem? (i := 3) rfl)) (z3 (4, ([(1, 1)], 1)) (List.mem_of_getElem? (i := 1) rfl)) (show (1 * k + 0) + 1 = k + 1 from by omega)
      have p1 : _ = [] := p1
      subst p1
      exact hE0 lo' h' hi' hm o0 o1 o3 o4
    cases he
  · intro e he r' h' hp hi' hm
    cases he
def cmT0_L (t : Nat) : List sT := [.inr (.inl 0), .inl sf32]
def cmT0_A (t : Nat) : sAs := ([], [(0, 5, (17 * t + 9))], [], [])
def cmT0_P (t : Nat) : List sP0 := [((17 * t + 12), (none, 3), (0, 8))]
def cmT0_G (t : Nat) : List sP0 := []
def cmT0_B (t : Nat) : List (Nat × Nat × Int) := []
def cmT0_m (t : Nat) : sM := []
def cmT0_e0 (t : Nat) : sXe := (19, [.inl sf32, .inr (.inl (17 * t + 9)), .inr (.inl 79)], [], sA0, [], ([], [(0, ([(0, 1)], 0))], [], [([(0, 1)], 0), ([(0, (-1))], 7), ([(0, (-1)), (1, 1)], (-1))]), [], [])
def cmT0_r0 (t : Nat) : sXr := (some (.inl sf32), sA0, [], ([], [(0, ([], (-1)))], [], [([(0, (-1))], (-1))]), [], [])
def cmT0_r1 (t : Nat) : sXr := (some (.inl sf32), sA0, [], ([], [(0, ([], (-1)))], [], [([(0, 1)], 0), ([(0, 1)], (-8))]), [], [])
def cmT0_r2 (t : Nat) : sXr := (some (.inl sf32), sA0, [], ([], [(0, ([], (-1)))], [], [([(0, 1)], 0), ([(0, (-1))], 7), ([(0, 1), (1, (-1))], 0)]), [], [])
theorem cmT0_b : ((List.range 2).all fun t => syfB swC sT0 (cmT0_m t) 400 1 136 (cmT0_L t) (cmT0_A t) (cmT0_P t) (cmT0_G t) (cmT0_B t) [cmT0_e0 t] [cmT0_r0 t, cmT0_r1 t, cmT0_r2 t]) = true := by decide +kernel
theorem cmT0 {l : Launch} {Γ : zG} {d : Nat} (hd : 1 ≤ d) {Kp : Option Value → zH → Prop} {h : zH} {t : Nat} (h_t : t < 2) {x n : Int} (hi : sInv swC h) (b_x : (-2147483648) ≤ x ∧ x ≤ 2147483647) (b_n : 0 ≤ n ∧ n ≤ 8) {x_x : Int32} (e_x : x_x.toInt = x) (p_n : pI h (17 * t + 12) 3 = n) (q0 : h.2.2.2 0 5 = some (17 * t + 9))
    (hE0 : ∀ (lo' : zL) (h' : zH) (y0 : Int32), sInv swC h' → sMd (cmT0_m t) h h' → 0 ≤ x → 0 ≤ -x + 7 → 0 ≤ -x + n - 1 → y0.toInt = x → zX l Γ false (d + 1) (zhd 136) (zMQ' Γ false (zhd 136) Kp) 0 0 19 lo' [.int y0, .ref (17 * t + 9), .ref 79] h')
    (hR0 : ∀ (h' : zH) (r_ : Int32), sInv swC h' → sMd (cmT0_m t) h h' → 0 ≤ -x - 1 → r_.toInt = (-1) → Kp (some (.int r_)) h')
    (hR1 : ∀ (h' : zH) (r_ : Int32), sInv swC h' → sMd (cmT0_m t) h h' → 0 ≤ x → 0 ≤ x - 8 → r_.toInt = (-1) → Kp (some (.int r_)) h')
    (hR2 : ∀ (h' : zH) (r_ : Int32), sInv swC h' → sMd (cmT0_m t) h h' → 0 ≤ x → 0 ≤ -x + 7 → 0 ≤ x - n → r_.toInt = (-1) → Kp (some (.int r_)) h') : zSem l Γ false (d + 1) (zhd 136) [.ref 0, .int x_x] h Kp := by
  refine syf_ok (mi := 136) (fun i => [x, n].getD i 0) (zall_r cmT0_b h_t) (fun _ _ hc _ => nomatch hc) hd ⟨_, _, rfl, rfl, ⟨_, _, rfl, ⟨x_x, rfl, by show (-2147483648) ≤ x_x.toInt; omega, by show x_x.toInt ≤ 2147483647; omega⟩, rfl⟩⟩ ⟨rfl, ⟨x_x, rfl, e_x, by show (-2147483648) ≤ x; omega, by show x ≤ 2147483647; omega⟩, trivial⟩ ⟨(fun _ hc => nomatch hc), (sfm q0 (fun _ hc => nomatch hc)), (fun _ hc => nomatch hc), Or.inl rfl⟩ ⟨⟨p_n, by show 0 ≤ n; omega, by show n ≤ 8; omega⟩, trivial⟩ trivial (fun _ hc => nomatch hc) hi ?_ ?_
  · intro e he lo' st' h' hp hi' hm
    rcases List.mem_cons.mp he with rfl | he
    · obtain ⟨p1, p2, -, hz⟩ := hp
      obtain ⟨⟨z1, z2, z3, z4⟩, z5, z6⟩ := hz
      have c0 : 0 ≤ x := by have q_ : (0 : Int) ≤ (1 * x + 0) + 0 := z4 ([(0, 1)], 0) (List.mem_of_getElem? (i := 0) rfl); omega
      have c1 : 0 ≤ -x + 7 := by have q_ : (0 : Int) ≤ ((-1) * x + 0) + 7 := z4 ([(0, (-1))], 7) (List.mem_of_getElem? (i := 1) rfl); omega
      have c2 : 0 ≤ -x + n - 1 := by have q_ : (0 : Int) ≤ ((-1) * x + (1 * n + 0)) + (-1) := z4 ([(0, (-1)), (1, 1)], (-1)) (List.mem_of_getElem? (i := 2) rfl); omega
      obtain ⟨_, _, rfl, ⟨y0, rfl, -⟩, p1⟩ := p1
      obtain ⟨_, _, rfl, hr, p1⟩ := p1
      have hr : _ = Value.ref (17 * t + 9) := hr
      subst hr
      obtain ⟨_, _, rfl, hr, p1⟩ := p1
      have hr : _ = Value.ref 79 := hr
      subst hr
      have p1 : _ = [] := p1
      subst p1
      obtain ⟨v_, ev, hv⟩ := z2 (0, ([(0, 1)], 0)) (List.mem_of_getElem? (i := 0) rfl)
      cases ev
      have s0 : y0.toInt = x := (show y0.toInt = (1 * x + 0) + 0 from hv).trans (by omega)
      exact hE0 lo' h' y0 hi' hm c0 c1 c2 s0
    cases he
  · intro e he r' h' hp hi' hm
    rcases List.mem_cons.mp he with rfl | he
    · obtain ⟨p1, -, hz⟩ := hp
      obtain ⟨⟨z1, z2, z3, z4⟩, z5, z6⟩ := hz
      have c0 : 0 ≤ -x - 1 := by have q_ : (0 : Int) ≤ ((-1) * x + 0) + (-1) := z4 ([(0, (-1))], (-1)) (List.mem_of_getElem? (i := 0) rfl); omega
      obtain ⟨r_, rfl, hv⟩ := ansI p1 (z2 (0, ([], (-1))) (List.mem_of_getElem? (i := 0) rfl))
      have s0 : r_.toInt = (-1) := (show r_.toInt = 0 + (-1) from hv).trans (by omega)
      exact hR0 h' r_ hi' hm c0 s0
    rcases List.mem_cons.mp he with rfl | he
    · obtain ⟨p1, -, hz⟩ := hp
      obtain ⟨⟨z1, z2, z3, z4⟩, z5, z6⟩ := hz
      have c0 : 0 ≤ x := by have q_ : (0 : Int) ≤ (1 * x + 0) + 0 := z4 ([(0, 1)], 0) (List.mem_of_getElem? (i := 0) rfl); omega
      have c1 : 0 ≤ x - 8 := by have q_ : (0 : Int) ≤ (1 * x + 0) + (-8) := z4 ([(0, 1)], (-8)) (List.mem_of_getElem? (i := 1) rfl); omega
      obtain ⟨r_, rfl, hv⟩ := ansI p1 (z2 (0, ([], (-1))) (List.mem_of_getElem? (i := 0) rfl))
      have s0 : r_.toInt = (-1) := (show r_.toInt = 0 + (-1) from hv).trans (by omega)
      exact hR1 h' r_ hi' hm c0 c1 s0
    rcases List.mem_cons.mp he with rfl | he
    · obtain ⟨p1, -, hz⟩ := hp
      obtain ⟨⟨z1, z2, z3, z4⟩, z5, z6⟩ := hz
      have c0 : 0 ≤ x := by have q_ : (0 : Int) ≤ (1 * x + 0) + 0 := z4 ([(0, 1)], 0) (List.mem_of_getElem? (i := 0) rfl); omega
      have c1 : 0 ≤ -x + 7 := by have q_ : (0 : Int) ≤ ((-1) * x + 0) + 7 := z4 ([(0, (-1))], 7) (List.mem_of_getElem? (i := 1) rfl); omega
      have c2 : 0 ≤ x - n := by have q_ : (0 : Int) ≤ (1 * x + ((-1) * n + 0)) + 0 := z4 ([(0, 1), (1, (-1))], 0) (List.mem_of_getElem? (i := 2) rfl); omega
      obtain ⟨r_, rfl, hv⟩ := ansI p1 (z2 (0, ([], (-1))) (List.mem_of_getElem? (i := 0) rfl))
      have s0 : r_.toInt = (-1) := (show r_.toInt = 0 + (-1) from hv).trans (by omega)
      exact hR2 h' r_ hi' hm c0 c1 c2 s0
    cases he
def cmT1_L : List (Nat × sT) := []
def cmT1_S : List sT := [.inl sf32]
def cmT1_A : sAs := ([], [], [], [])
def cmT1_P : List sP0 := []
def cmT1_G : List sP0 := []
def cmT1_B : List (Nat × Nat × Int) := []
def cmT1_m : sM := []
def cmT1_r0 : sXr := (some (.inl sf32), sA0, [], ([], [(0, ([(0, 1)], 0))], [], []), [], [])
theorem cmT1_b : syeB swC sT0 cmT1_m 400 0 136 cmT1_L cmT1_S cmT1_A cmT1_P cmT1_G cmT1_B 22 [] [cmT1_r0] = true := by decide +kernel
theorem cmT1 {l : Launch} {Γ : zG} {d : Nat} (hd : 0 ≤ d) {Kp : Option Value → zH → Prop} {lo : zL} {h : zH} {y : Int} (hi : sInv swC h) (b_y : (-2147483648) ≤ y ∧ y ≤ 2147483647) {x_y : Int32} (e_y : x_y.toInt = y)
    (hR0 : ∀ (h' : zH) (r_ : Int32), sInv swC h' → sMd cmT1_m h h' → r_.toInt = y → Kp (some (.int r_)) h') : zX l Γ false (d + 1) (zhd 136) (zMQ' Γ false (zhd 136) Kp) 0 0 22 lo [.int x_y] h := by
  refine sye_ok (mi := 136) (pc := 22) (fun i => [y].getD i 0) cmT1_b (fun _ _ hc _ => nomatch hc) hd trivial ⟨x_y, _, rfl, e_y, ⟨by show (-2147483648) ≤ y; omega, by show y ≤ 2147483647; omega⟩, rfl⟩ ⟨(fun _ hc => nomatch hc), (fun _ hc => nomatch hc), (fun _ hc => nomatch hc), Or.inl rfl⟩ trivial trivial (fun _ hc => nomatch hc) hi ?_ ?_
  · intro e he lo' st' h' hp hi' hm
    cases he
  · intro e he r' h' hp hi' hm
    rcases List.mem_cons.mp he with rfl | he
    · obtain ⟨p1, -, hz⟩ := hp
      obtain ⟨⟨z1, z2, z3, z4⟩, z5, z6⟩ := hz
      obtain ⟨r_, rfl, hv⟩ := ansI p1 (z2 (0, ([(0, 1)], 0)) (List.mem_of_getElem? (i := 0) rfl))
      have s0 : r_.toInt = y := (show r_.toInt = (1 * y + 0) + 0 from hv).trans (by omega)
      exact hR0 h' r_ hi' hm s0
    cases he
def cmU0_L : List sT := [.inr (.inl 0), .inl sf32]
def cmU0_A : sAs := ([], [], [], [])
def cmU0_P : List sP0 := [(0, (none, 13), (0, 8))]
def cmU0_G : List sP0 := []
def cmU0_B : List (Nat × Nat × Int) := []
def cmU0_m : sM := [(0, 2, 3)]
def cmU0_e0 : sXe := (21, [], [(0, .inr (.inl 0)), (2, .inl sf32), (3, .inl sf32)], sA0, [(0, 3, ([], 1), ([(0, 1)], 0))], ([(0, (none, 2), ([], 0))], [], [(2, ([(2, 1)], 0)), (3, ([], 0))], [([(0, 1)], 0), ([(0, (-1)), (1, 1)], (-1))]), [], [])
def cmU0_r0 : sXr := (some (.inl sf32), sA0, [], ([(0, (none, 2), ([], 0))], [(0, ([], (-1)))], [], [([(0, (-1))], (-1))]), [], [])
def cmU0_r1 : sXr := (some (.inl sf32), sA0, [], ([(0, (none, 2), ([], 0))], [(0, ([], (-1)))], [], [([(0, 1)], 0), ([(0, 1), (1, (-1))], 0)]), [], [])
theorem cmU0_b : syfB swM sT0 cmU0_m 400 1 276 cmU0_L cmU0_A cmU0_P cmU0_G cmU0_B [cmU0_e0] [cmU0_r0, cmU0_r1] = true := by decide +kernel
theorem cmU0 {l : Launch} {Γ : zG} {d : Nat} (hd : 1 ≤ d) {Kp : Option Value → zH → Prop} {h : zH} {x n : Int} (hi : sInv swM h) (b_x : (-2147483648) ≤ x ∧ x ≤ 2147483647) (b_n : 0 ≤ n ∧ n ≤ 8) {x_x : Int32} (e_x : x_x.toInt = x) (p_n : pI h 0 13 = n)
    (hE0 : ∀ (lo' : zL) (h' : zH) (w0 : Int), sInv swM h' → sMd cmU0_m h h' → w0 = sgfn 3 1 x → 0 ≤ x → 0 ≤ -x + n - 1 → pI h' 0 2 = 0 → zget lo' 0 = some (.ref 0) → zI lo' 2 w0 → zI lo' 3 0 → zX l Γ false (d + 1) (zhd 276) (zMQ' Γ false (zhd 276) Kp) 0 0 21 lo' [] h')
    (hR0 : ∀ (h' : zH) (r_ : Int32), sInv swM h' → sMd cmU0_m h h' → 0 ≤ -x - 1 → pI h' 0 2 = 0 → r_.toInt = (-1) → Kp (some (.int r_)) h')
    (hR1 : ∀ (h' : zH) (r_ : Int32), sInv swM h' → sMd cmU0_m h h' → 0 ≤ x → 0 ≤ x - n → pI h' 0 2 = 0 → r_.toInt = (-1) → Kp (some (.int r_)) h') : zSem l Γ false (d + 1) (zhd 276) [.ref 0, .int x_x] h Kp := by
  refine syf_ok (mi := 276) (fun i => [x, n].getD i 0) cmU0_b (fun _ _ hc _ => nomatch hc) hd ⟨_, _, rfl, rfl, ⟨_, _, rfl, ⟨x_x, rfl, by show (-2147483648) ≤ x_x.toInt; omega, by show x_x.toInt ≤ 2147483647; omega⟩, rfl⟩⟩ ⟨rfl, ⟨x_x, rfl, e_x, by show (-2147483648) ≤ x; omega, by show x ≤ 2147483647; omega⟩, trivial⟩ ⟨(fun _ hc => nomatch hc), (fun _ hc => nomatch hc), (fun _ hc => nomatch hc), Or.inl rfl⟩ ⟨⟨p_n, by show 0 ≤ n; omega, by show n ≤ 8; omega⟩, trivial⟩ trivial (fun _ hc => nomatch hc) hi ?_ ?_
  · intro e he lo' st' h' hp hi' hm
    rcases List.mem_cons.mp he with rfl | he
    · obtain ⟨p1, p2, -, hz⟩ := hp
      obtain ⟨w0, f0, hz⟩ := hz
      obtain ⟨⟨z1, z2, z3, z4⟩, z5, z6⟩ := hz
      have g0 : w0 = sgfn 3 1 x := (show w0 = sgfn 3 (0 + 1) ((1 * x + 0) + 0) from f0).trans (sgfn_c (by omega) (by omega))
      have c0 : 0 ≤ x := by have q_ : (0 : Int) ≤ (1 * x + 0) + 0 := z4 ([(0, 1)], 0) (List.mem_of_getElem? (i := 0) rfl); omega
      have c1 : 0 ≤ -x + n - 1 := by have q_ : (0 : Int) ≤ ((-1) * x + (1 * n + 0)) + (-1) := z4 ([(0, (-1)), (1, 1)], (-1)) (List.mem_of_getElem? (i := 1) rfl); omega
      have k0 : pI h' 0 2 = 0 := (show pI h' 0 2 = 0 + 0 from z1 (0, (none, 2), ([], 0)) (List.mem_of_getElem? (i := 0) rfl)).trans (by omega)
      have o0 : zget lo' 0 = some (.ref 0) := locR (p2 (0, .inr (.inl 0)) (List.mem_of_getElem? (i := 0) rfl))
      have o2 : zI lo' 2 w0 := zI_of (p2 (2, .inl sf32) (List.mem_of_getElem? (i := 1) rfl)) (z3 (2, ([(2, 1)], 0)) (List.mem_of_getElem? (i := 0) rfl)) (show (1 * w0 + 0) + 0 = w0 from by omega)
      have o3 : zI lo' 3 0 := zI_of (p2 (3, .inl sf32) (List.mem_of_getElem? (i := 2) rfl)) (z3 (3, ([], 0)) (List.mem_of_getElem? (i := 1) rfl)) (show 0 + 0 = 0 from by omega)
      have p1 : _ = [] := p1
      subst p1
      exact hE0 lo' h' w0 hi' hm g0 c0 c1 k0 o0 o2 o3
    cases he
  · intro e he r' h' hp hi' hm
    rcases List.mem_cons.mp he with rfl | he
    · obtain ⟨p1, -, hz⟩ := hp
      obtain ⟨⟨z1, z2, z3, z4⟩, z5, z6⟩ := hz
      have c0 : 0 ≤ -x - 1 := by have q_ : (0 : Int) ≤ ((-1) * x + 0) + (-1) := z4 ([(0, (-1))], (-1)) (List.mem_of_getElem? (i := 0) rfl); omega
      have k0 : pI h' 0 2 = 0 := (show pI h' 0 2 = 0 + 0 from z1 (0, (none, 2), ([], 0)) (List.mem_of_getElem? (i := 0) rfl)).trans (by omega)
      obtain ⟨r_, rfl, hv⟩ := ansI p1 (z2 (0, ([], (-1))) (List.mem_of_getElem? (i := 0) rfl))
      have s0 : r_.toInt = (-1) := (show r_.toInt = 0 + (-1) from hv).trans (by omega)
      exact hR0 h' r_ hi' hm c0 k0 s0
    rcases List.mem_cons.mp he with rfl | he
    · obtain ⟨p1, -, hz⟩ := hp
      obtain ⟨⟨z1, z2, z3, z4⟩, z5, z6⟩ := hz
      have c0 : 0 ≤ x := by have q_ : (0 : Int) ≤ (1 * x + 0) + 0 := z4 ([(0, 1)], 0) (List.mem_of_getElem? (i := 0) rfl); omega
      have c1 : 0 ≤ x - n := by have q_ : (0 : Int) ≤ (1 * x + ((-1) * n + 0)) + 0 := z4 ([(0, 1), (1, (-1))], 0) (List.mem_of_getElem? (i := 1) rfl); omega
      have k0 : pI h' 0 2 = 0 := (show pI h' 0 2 = 0 + 0 from z1 (0, (none, 2), ([], 0)) (List.mem_of_getElem? (i := 0) rfl)).trans (by omega)
      obtain ⟨r_, rfl, hv⟩ := ansI p1 (z2 (0, ([], (-1))) (List.mem_of_getElem? (i := 0) rfl))
      have s0 : r_.toInt = (-1) := (show r_.toInt = 0 + (-1) from hv).trans (by omega)
      exact hR1 h' r_ hi' hm c0 c1 k0 s0
    cases he
def cmM1_L : List (Nat × sT) := [(0, .inr (.inl 0)), (2, .inl sf32), (3, .inl (0, 8))]
def cmM1_S : List sT := []
def cmM1_A : sAs := ([], [], [], [])
def cmM1_P : List sP0 := []
def cmM1_G : List sP0 := []
def cmM1_B : List (Nat × Nat × Int) := []
def cmM1_m : sM := []
def cmM1_e0 : sXe := (30, [], [(0, .inr (.inl 0)), (2, .inl sf32), (3, .inl sf32), (4, .inl sf32)], sA0, [], ([], [], [(2, ([(0, 1)], 0)), (3, ([(1, 1)], 0)), (4, ([], 0))], [([(1, (-1))], 7)]), [], [])
def cmM1_r0 : sXr := (some (.inl sf32), sA0, [], ([], [(0, ([(0, 1)], 0))], [], [([(1, 1)], (-8))]), [], [])
theorem cmM1_b : syeB swM sT0 cmM1_m 400 0 276 cmM1_L cmM1_S cmM1_A cmM1_P cmM1_G cmM1_B 21 [cmM1_e0] [cmM1_r0] = true := by decide +kernel
theorem cmM1 {l : Launch} {Γ : zG} {d : Nat} (hd : 0 ≤ d) {Kp : Option Value → zH → Prop} {lo : zL} {h : zH} {b k : Int} (hi : sInv swM h) (b_b : (-2147483648) ≤ b ∧ b ≤ 2147483647) (b_k : 0 ≤ k ∧ k ≤ 8) (l0 : zget lo 0 = some (.ref 0)) (l2 : zI lo 2 b) (l3 : zI lo 3 k)
    (hE0 : ∀ (lo' : zL) (h' : zH), sInv swM h' → sMd cmM1_m h h' → 0 ≤ -k + 7 → zget lo' 0 = some (.ref 0) → zI lo' 2 b → zI lo' 3 k → zI lo' 4 0 → zX l Γ false (d + 1) (zhd 276) (zMQ' Γ false (zhd 276) Kp) 0 0 30 lo' [] h')
    (hR0 : ∀ (h' : zH) (r_ : Int32), sInv swM h' → sMd cmM1_m h h' → 0 ≤ k - 8 → r_.toInt = b → Kp (some (.int r_)) h') : zX l Γ false (d + 1) (zhd 276) (zMQ' Γ false (zhd 276) Kp) 0 0 21 lo [] h := by
  refine sye_ok (mi := 276) (pc := 21) (fun i => [b, k].getD i 0) cmM1_b (fun _ _ hc _ => nomatch hc) hd ⟨l0, zIm l2 (by show (-2147483648) ≤ b; omega) (by show b ≤ 2147483647; omega), zIm l3 (by show 0 ≤ k; omega) (by show k ≤ 8; omega), trivial⟩ rfl ⟨(fun _ hc => nomatch hc), (fun _ hc => nomatch hc), (fun _ hc => nomatch hc), Or.inl rfl⟩ trivial trivial (fun _ hc => nomatch hc) hi ?_ ?_
  · intro e he lo' st' h' hp hi' hm
    rcases List.mem_cons.mp he with rfl | he
    · obtain ⟨p1, p2, -, hz⟩ := hp
      obtain ⟨⟨z1, z2, z3, z4⟩, z5, z6⟩ := hz
      have c0 : 0 ≤ -k + 7 := by have q_ : (0 : Int) ≤ ((-1) * k + 0) + 7 := z4 ([(1, (-1))], 7) (List.mem_of_getElem? (i := 0) rfl); omega
      have o0 : zget lo' 0 = some (.ref 0) := locR (p2 (0, .inr (.inl 0)) (List.mem_of_getElem? (i := 0) rfl))
      have o2 : zI lo' 2 b := zI_of (p2 (2, .inl sf32) (List.mem_of_getElem? (i := 1) rfl)) (z3 (2, ([(0, 1)], 0)) (List.mem_of_getElem? (i := 0) rfl)) (show (1 * b + 0) + 0 = b from by omega)
      have o3 : zI lo' 3 k := zI_of (p2 (3, .inl sf32) (List.mem_of_getElem? (i := 2) rfl)) (z3 (3, ([(1, 1)], 0)) (List.mem_of_getElem? (i := 1) rfl)) (show (1 * k + 0) + 0 = k from by omega)
      have o4 : zI lo' 4 0 := zI_of (p2 (4, .inl sf32) (List.mem_of_getElem? (i := 3) rfl)) (z3 (4, ([], 0)) (List.mem_of_getElem? (i := 2) rfl)) (show 0 + 0 = 0 from by omega)
      have p1 : _ = [] := p1
      subst p1
      exact hE0 lo' h' hi' hm c0 o0 o2 o3 o4
    cases he
  · intro e he r' h' hp hi' hm
    rcases List.mem_cons.mp he with rfl | he
    · obtain ⟨p1, -, hz⟩ := hp
      obtain ⟨⟨z1, z2, z3, z4⟩, z5, z6⟩ := hz
      have c0 : 0 ≤ k - 8 := by have q_ : (0 : Int) ≤ (1 * k + 0) + (-8) := z4 ([(1, 1)], (-8)) (List.mem_of_getElem? (i := 0) rfl); omega
      obtain ⟨r_, rfl, hv⟩ := ansI p1 (z2 (0, ([(0, 1)], 0)) (List.mem_of_getElem? (i := 0) rfl))
      have s0 : r_.toInt = b := (show r_.toInt = (1 * b + 0) + 0 from hv).trans (by omega)
      exact hR0 h' r_ hi' hm c0 s0
    cases he
def cmM2_L (p : Nat) : List (Nat × sT) := [(0, .inr (.inl 0)), (2, .inl sf32), (3, .inl (0, 7)), (4, .inl ((p : Int), (p : Int)))]
def cmM2_S (p : Nat) : List sT := []
def cmM2_A (p : Nat) : sAs := ([], [], [], [])
def cmM2_P (p : Nat) : List sP0 := [(0, (none, 15), (((p : Int) + 1), 10)), (14, (none, ((p : Nat) : Int)), sf32), (15, (none, ((p : Nat) : Int)), sf32)]
def cmM2_G (p : Nat) : List sP0 := []
def cmM2_B (p : Nat) : List (Nat × Nat × Int) := []
def cmM2_m (p : Nat) : sM := []
def cmM2_e0 (p : Nat) : sXe := (30, [], [(0, .inr (.inl 0)), (2, .inl sf32), (3, .inl sf32), (4, .inl sf32)], sA0, [(0, 3, ([], 1), ([(5, 1)], 0)), (0, 0, ([(0, 1)], 0), ([(6, 1)], 0)), (0, 4, ([(0, 1)], 0), ([(4, 1)], 0)), (0, 2, ([(8, 1)], 0), ([], 1))], ([], [], [(2, ([(7, 1)], 0)), (3, ([(1, 1)], 0)), (4, ([], ((p : Int) + 1)))], [([(9, 1)], (-1)), ([(9, (-1))], 1)]), [], [])
def cmM2_e1 (p : Nat) : sXe := (30, [], [(0, .inr (.inl 0)), (2, .inl sf32), (3, .inl sf32), (4, .inl sf32)], sA0, [(0, 0, ([(0, 1)], 0), ([], 0)), (0, 4, ([(0, 1)], 0), ([(4, 1)], 0)), (0, 2, ([(7, 1)], 0), ([], 1))], ([], [], [(2, ([(6, 1)], 0)), (3, ([(1, 1)], 0)), (4, ([], ((p : Int) + 1)))], []), [(([(8, 1)], 0), ([], 1))], [])
theorem cmM2_b : ((List.range 10).all fun p => syeB swM sT0 (cmM2_m p) 400 1 276 (cmM2_L p) (cmM2_S p) (cmM2_A p) (cmM2_P p) (cmM2_G p) (cmM2_B p) 30 [cmM2_e0 p, cmM2_e1 p] []) = true := by decide +kernel
theorem cmM2 {l : Launch} {Γ : zG} {d : Nat} (hd : 1 ≤ d) {Kp : Option Value → zH → Prop} {lo : zL} {h : zH} {p : Nat} (h_p : p < 10) {b k n f o : Int} (hi : sInv swM h) (b_b : (-2147483648) ≤ b ∧ b ≤ 2147483647) (b_k : 0 ≤ k ∧ k ≤ 7) (b_n : ((p : Int) + 1) ≤ n ∧ n ≤ 10) (b_f : (-2147483648) ≤ f ∧ f ≤ 2147483647) (b_o : (-2147483648) ≤ o ∧ o ≤ 2147483647) (l0 : zget lo 0 = some (.ref 0)) (l2 : zI lo 2 b) (l3 : zI lo 3 k) (l4 : zI lo 4 (p : Int)) (p_n : pI h 0 15 = n) (p_f : pI h 14 p = f) (p_o : pI h 15 p = o)
    (hE0 : ∀ (lo' : zL) (h' : zH) (w0 w1 w2 w3 : Int), sInv swM h' → sMd (cmM2_m p) h h' → w0 = sgfn 3 1 o → w1 = sgfn 0 b w0 → w2 = sgfn 4 b f → w3 = sgfn 2 w2 1 → w3 = 1 → zget lo' 0 = some (.ref 0) → zI lo' 2 w1 → zI lo' 3 k → zI lo' 4 ((p : Int) + 1) → zX l Γ false (d + 1) (zhd 276) (zMQ' Γ false (zhd 276) Kp) 0 0 30 lo' [] h')
    (hE1 : ∀ (lo' : zL) (h' : zH) (w0 w1 w2 : Int), sInv swM h' → sMd (cmM2_m p) h h' → w0 = sgfn 0 b 0 → w1 = sgfn 4 b f → w2 = sgfn 2 w1 1 → w2 ≠ 1 → zget lo' 0 = some (.ref 0) → zI lo' 2 w0 → zI lo' 3 k → zI lo' 4 ((p : Int) + 1) → zX l Γ false (d + 1) (zhd 276) (zMQ' Γ false (zhd 276) Kp) 0 0 30 lo' [] h') : zX l Γ false (d + 1) (zhd 276) (zMQ' Γ false (zhd 276) Kp) 0 0 30 lo [] h := by
  refine sye_ok (mi := 276) (pc := 30) (fun i => [b, k, (p : Int), n, f, o].getD i 0) (zall_r cmM2_b h_p) (fun _ _ hc _ => nomatch hc) hd ⟨l0, zIm l2 (by show (-2147483648) ≤ b; omega) (by show b ≤ 2147483647; omega), zIm l3 (by show 0 ≤ k; omega) (by show k ≤ 7; omega), zIm l4 (by show (p : Int) ≤ (p : Int); omega) (by show (p : Int) ≤ (p : Int); omega), trivial⟩ rfl ⟨(fun _ hc => nomatch hc), (fun _ hc => nomatch hc), (fun _ hc => nomatch hc), Or.inl rfl⟩ ⟨⟨p_n, by show ((p : Int) + 1) ≤ n; omega, by show n ≤ 10; omega⟩, ⟨p_f, by show (-2147483648) ≤ f; omega, by show f ≤ 2147483647; omega⟩, ⟨p_o, by show (-2147483648) ≤ o; omega, by show o ≤ 2147483647; omega⟩, trivial⟩ trivial (fun _ hc => nomatch hc) hi ?_ ?_
  · intro e he lo' st' h' hp hi' hm
    rcases List.mem_cons.mp he with rfl | he
    · obtain ⟨p1, p2, -, hz⟩ := hp
      obtain ⟨w0, f0, hz⟩ := hz
      obtain ⟨w1, f1, hz⟩ := hz
      obtain ⟨w2, f2, hz⟩ := hz
      obtain ⟨w3, f3, hz⟩ := hz
      obtain ⟨⟨z1, z2, z3, z4⟩, z5, z6⟩ := hz
      have g0 : w0 = sgfn 3 1 o := (show w0 = sgfn 3 (0 + 1) ((1 * o + 0) + 0) from f0).trans (sgfn_c (by omega) (by omega))
      have g1 : w1 = sgfn 0 b w0 := (show w1 = sgfn 0 ((1 * b + 0) + 0) ((1 * w0 + 0) + 0) from f1).trans (sgfn_c (by omega) (by omega))
      have g2 : w2 = sgfn 4 b f := (show w2 = sgfn 4 ((1 * b + 0) + 0) ((1 * f + 0) + 0) from f2).trans (sgfn_c (by omega) (by omega))
      have g3 : w3 = sgfn 2 w2 1 := (show w3 = sgfn 2 ((1 * w2 + 0) + 0) (0 + 1) from f3).trans (sgfn_c (by omega) (by omega))
      have c0 : w3 = 1 := by have q_ : (0 : Int) ≤ (1 * w3 + 0) + (-1) := z4 ([(9, 1)], (-1)) (List.mem_of_getElem? (i := 0) rfl); have q2_ : (0 : Int) ≤ ((-1) * w3 + 0) + 1 := z4 ([(9, (-1))], 1) (List.mem_of_getElem? (i := 1) rfl); omega
      have o0 : zget lo' 0 = some (.ref 0) := locR (p2 (0, .inr (.inl 0)) (List.mem_of_getElem? (i := 0) rfl))
      have o2 : zI lo' 2 w1 := zI_of (p2 (2, .inl sf32) (List.mem_of_getElem? (i := 1) rfl)) (z3 (2, ([(7, 1)], 0)) (List.mem_of_getElem? (i := 0) rfl)) (show (1 * w1 + 0) + 0 = w1 from by omega)
      have o3 : zI lo' 3 k := zI_of (p2 (3, .inl sf32) (List.mem_of_getElem? (i := 2) rfl)) (z3 (3, ([(1, 1)], 0)) (List.mem_of_getElem? (i := 1) rfl)) (show (1 * k + 0) + 0 = k from by omega)
      have o4 : zI lo' 4 ((p : Int) + 1) := zI_of (p2 (4, .inl sf32) (List.mem_of_getElem? (i := 3) rfl)) (z3 (4, ([], ((p : Int) + 1))) (List.mem_of_getElem? (i := 2) rfl)) (show 0 + ((p : Int) + 1) = ((p : Int) + 1) from by omega)
      have p1 : _ = [] := p1
      subst p1
      exact hE0 lo' h' w0 w1 w2 w3 hi' hm g0 g1 g2 g3 c0 o0 o2 o3 o4
    rcases List.mem_cons.mp he with rfl | he
    · obtain ⟨p1, p2, -, hz⟩ := hp
      obtain ⟨w0, f0, hz⟩ := hz
      obtain ⟨w1, f1, hz⟩ := hz
      obtain ⟨w2, f2, hz⟩ := hz
      obtain ⟨⟨z1, z2, z3, z4⟩, z5, z6⟩ := hz
      have g0 : w0 = sgfn 0 b 0 := (show w0 = sgfn 0 ((1 * b + 0) + 0) (0 + 0) from f0).trans (sgfn_c (by omega) (by omega))
      have g1 : w1 = sgfn 4 b f := (show w1 = sgfn 4 ((1 * b + 0) + 0) ((1 * f + 0) + 0) from f1).trans (sgfn_c (by omega) (by omega))
      have g2 : w2 = sgfn 2 w1 1 := (show w2 = sgfn 2 ((1 * w1 + 0) + 0) (0 + 1) from f2).trans (sgfn_c (by omega) (by omega))
      have n0 : w2 ≠ 1 := fun e_ => z5 (([(8, 1)], 0), ([], 1)) (List.mem_of_getElem? (i := 0) rfl) (by show (1 * w2 + 0) + 0 = 0 + 1; omega)
      have o0 : zget lo' 0 = some (.ref 0) := locR (p2 (0, .inr (.inl 0)) (List.mem_of_getElem? (i := 0) rfl))
      have o2 : zI lo' 2 w0 := zI_of (p2 (2, .inl sf32) (List.mem_of_getElem? (i := 1) rfl)) (z3 (2, ([(6, 1)], 0)) (List.mem_of_getElem? (i := 0) rfl)) (show (1 * w0 + 0) + 0 = w0 from by omega)
      have o3 : zI lo' 3 k := zI_of (p2 (3, .inl sf32) (List.mem_of_getElem? (i := 2) rfl)) (z3 (3, ([(1, 1)], 0)) (List.mem_of_getElem? (i := 1) rfl)) (show (1 * k + 0) + 0 = k from by omega)
      have o4 : zI lo' 4 ((p : Int) + 1) := zI_of (p2 (4, .inl sf32) (List.mem_of_getElem? (i := 3) rfl)) (z3 (4, ([], ((p : Int) + 1))) (List.mem_of_getElem? (i := 2) rfl)) (show 0 + ((p : Int) + 1) = ((p : Int) + 1) from by omega)
      have p1 : _ = [] := p1
      subst p1
      exact hE1 lo' h' w0 w1 w2 hi' hm g0 g1 g2 n0 o0 o2 o3 o4
    cases he
  · intro e he r' h' hp hi' hm
    cases he
def cmM3_L : List (Nat × sT) := [(0, .inr (.inl 0)), (2, .inl sf32), (3, .inl (0, 7)), (4, .inl (0, 10))]
def cmM3_S : List sT := []
def cmM3_A : sAs := ([], [], [], [])
def cmM3_P : List sP0 := [(0, (none, 15), (0, 10))]
def cmM3_G : List sP0 := []
def cmM3_B : List (Nat × Nat × Int) := [(2, 3, 0)]
def cmM3_m : sM := []
def cmM3_e0 : sXe := (21, [], [(0, .inr (.inl 0)), (2, .inl sf32), (3, .inl sf32)], sA0, [], ([], [], [(2, ([(0, 1)], 0)), (3, ([(1, 1)], 1))], []), [], [])
theorem cmM3_b : syeB swM sT0 cmM3_m 400 0 276 cmM3_L cmM3_S cmM3_A cmM3_P cmM3_G cmM3_B 30 [cmM3_e0] [] = true := by decide +kernel
theorem cmM3 {l : Launch} {Γ : zG} {d : Nat} (hd : 0 ≤ d) {Kp : Option Value → zH → Prop} {lo : zL} {h : zH} {b k q n : Int} (hi : sInv swM h) (b_b : (-2147483648) ≤ b ∧ b ≤ 2147483647) (b_k : 0 ≤ k ∧ k ≤ 7) (b_q : 0 ≤ q ∧ q ≤ 10) (b_n : 0 ≤ n ∧ n ≤ 10) (l0 : zget lo 0 = some (.ref 0)) (l2 : zI lo 2 b) (l3 : zI lo 3 k) (l4 : zI lo 4 q) (p_n : pI h 0 15 = n) (d0 : 0 ≤ q - n)
    (hE0 : ∀ (lo' : zL) (h' : zH), sInv swM h' → sMd cmM3_m h h' → zget lo' 0 = some (.ref 0) → zI lo' 2 b → zI lo' 3 (k + 1) → zX l Γ false (d + 1) (zhd 276) (zMQ' Γ false (zhd 276) Kp) 0 0 21 lo' [] h') : zX l Γ false (d + 1) (zhd 276) (zMQ' Γ false (zhd 276) Kp) 0 0 30 lo [] h := by
  refine sye_ok (mi := 276) (pc := 30) (fun i => [b, k, q, n].getD i 0) cmM3_b (fun _ _ hc _ => nomatch hc) hd ⟨l0, zIm l2 (by show (-2147483648) ≤ b; omega) (by show b ≤ 2147483647; omega), zIm l3 (by show 0 ≤ k; omega) (by show k ≤ 7; omega), zIm l4 (by show 0 ≤ q; omega) (by show q ≤ 10; omega), trivial⟩ rfl ⟨(fun _ hc => nomatch hc), (fun _ hc => nomatch hc), (fun _ hc => nomatch hc), Or.inl rfl⟩ ⟨⟨p_n, by show 0 ≤ n; omega, by show n ≤ 10; omega⟩, trivial⟩ trivial (sfm d0 (fun _ hc => nomatch hc)) hi ?_ ?_
  · intro e he lo' st' h' hp hi' hm
    rcases List.mem_cons.mp he with rfl | he
    · obtain ⟨p1, p2, -, hz⟩ := hp
      obtain ⟨⟨z1, z2, z3, z4⟩, z5, z6⟩ := hz
      have o0 : zget lo' 0 = some (.ref 0) := locR (p2 (0, .inr (.inl 0)) (List.mem_of_getElem? (i := 0) rfl))
      have o2 : zI lo' 2 b := zI_of (p2 (2, .inl sf32) (List.mem_of_getElem? (i := 1) rfl)) (z3 (2, ([(0, 1)], 0)) (List.mem_of_getElem? (i := 0) rfl)) (show (1 * b + 0) + 0 = b from by omega)
      have o3 : zI lo' 3 (k + 1) := zI_of (p2 (3, .inl sf32) (List.mem_of_getElem? (i := 2) rfl)) (z3 (3, ([(1, 1)], 1)) (List.mem_of_getElem? (i := 1) rfl)) (show (1 * k + 0) + 1 = k + 1 from by omega)
      have p1 : _ = [] := p1
      subst p1
      exact hE0 lo' h' hi' hm o0 o2 o3
    cases he
  · intro e he r' h' hp hi' hm
    cases he
