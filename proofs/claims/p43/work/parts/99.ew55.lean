def kqR0_L (t : Nat) : List sT := [.inr (.inl 0)]
def kqR0_A (t : Nat) : sAs := ([], [(0, 5, (17 * t + 9))], [], [])
def kqR0_P (t : Nat) : List sP0 := []
def kqR0_G (t : Nat) : List sP0 := []
def kqR0_B (t : Nat) : List (Nat × Nat × Int) := []
def kqR0_m (t : Nat) : sM := []
def kqR0_e0 (t : Nat) : sXe := (8, [.inr (.inl (17 * t + 9)), .inr (.inl 43)], [], sA0, [], ([], [], [], []), [], [])
theorem kqR0_b : ((List.range 2).all fun t => syfB swC sT0 (kqR0_m t) 400 0 141 (kqR0_L t) (kqR0_A t) (kqR0_P t) (kqR0_G t) (kqR0_B t) [kqR0_e0 t] []) = true := by decide +kernel
theorem kqR0 {l : Launch} {Γ : zG} {d : Nat} (hd : 0 ≤ d) {Kp : Option Value → zH → Prop} {h : zH} {t : Nat} (h_t : t < 2) (hi : sInv swC h) (q0 : h.2.2.2 0 5 = some (17 * t + 9))
    (hE0 : ∀ (lo' : zL) (h' : zH), sInv swC h' → sMd (kqR0_m t) h h' → zX l Γ false (d + 1) (zhd 141) (zMQ' Γ false (zhd 141) Kp) 0 0 8 lo' [.ref (17 * t + 9), .ref 43] h') : zSem l Γ false (d + 1) (zhd 141) [.ref 0] h Kp := by
  refine syf_ok (mi := 141) (fun i => [].getD i 0) (zall_r kqR0_b h_t) (fun _ _ hc _ => nomatch hc) hd ⟨_, _, rfl, rfl, rfl⟩ ⟨rfl, trivial⟩ ⟨(fun _ hc => nomatch hc), (sfm q0 (fun _ hc => nomatch hc)), (fun _ hc => nomatch hc), Or.inl rfl⟩ trivial trivial (fun _ hc => nomatch hc) hi ?_ ?_
  · intro e he lo' st' h' hp hi' hm
    rcases List.mem_cons.mp he with rfl | he
    · obtain ⟨p1, p2, -, hz⟩ := hp
      obtain ⟨⟨z1, z2, z3, z4⟩, z5, z6⟩ := hz
      obtain ⟨_, _, rfl, hr, p1⟩ := p1
      have hr : _ = Value.ref (17 * t + 9) := hr
      subst hr
      obtain ⟨_, _, rfl, hr, p1⟩ := p1
      have hr : _ = Value.ref 43 := hr
      subst hr
      have p1 : _ = [] := p1
      subst p1
      exact hE0 lo' h' hi' hm
    cases he
  · intro e he r' h' hp hi' hm
    cases he
def kqR1_L : List (Nat × sT) := []
def kqR1_S : List sT := [.inl sf32]
def kqR1_A : sAs := ([], [], [], [])
def kqR1_P : List sP0 := []
def kqR1_G : List sP0 := []
def kqR1_B : List (Nat × Nat × Int) := []
def kqR1_m : sM := []
def kqR1_r0 : sXr := (some (.inl sf32), sA0, [], ([], [(0, ([(0, 1)], 0))], [], []), [], [])
theorem kqR1_b : syeB swC sT0 kqR1_m 400 0 141 kqR1_L kqR1_S kqR1_A kqR1_P kqR1_G kqR1_B 11 [] [kqR1_r0] = true := by decide +kernel
theorem kqR1 {l : Launch} {Γ : zG} {d : Nat} (hd : 0 ≤ d) {Kp : Option Value → zH → Prop} {lo : zL} {h : zH} {v : Int} (hi : sInv swC h) (b_v : (-2147483648) ≤ v ∧ v ≤ 2147483647) {x_v : Int32} (e_v : x_v.toInt = v)
    (hR0 : ∀ (h' : zH) (r_ : Int32), sInv swC h' → sMd kqR1_m h h' → r_.toInt = v → Kp (some (.int r_)) h') : zX l Γ false (d + 1) (zhd 141) (zMQ' Γ false (zhd 141) Kp) 0 0 11 lo [.int x_v] h := by
  refine sye_ok (mi := 141) (pc := 11) (fun i => [v].getD i 0) kqR1_b (fun _ _ hc _ => nomatch hc) hd trivial ⟨x_v, _, rfl, e_v, ⟨by show (-2147483648) ≤ v; omega, by show v ≤ 2147483647; omega⟩, rfl⟩ ⟨(fun _ hc => nomatch hc), (fun _ hc => nomatch hc), (fun _ hc => nomatch hc), Or.inl rfl⟩ trivial trivial (fun _ hc => nomatch hc) hi ?_ ?_
  · intro e he lo' st' h' hp hi' hm
    cases he
  · intro e he r' h' hp hi' hm
    rcases List.mem_cons.mp he with rfl | he
    · obtain ⟨p1, -, hz⟩ := hp
      obtain ⟨⟨z1, z2, z3, z4⟩, z5, z6⟩ := hz
      obtain ⟨r_, rfl, hv⟩ := ansI p1 (z2 (0, ([(0, 1)], 0)) (List.mem_of_getElem? (i := 0) rfl))
      have s0 : r_.toInt = v := (show r_.toInt = (1 * v + 0) + 0 from hv).trans (by omega)
      exact hR0 h' r_ hi' hm s0
    cases he
def kqM0_L (t : Nat) (u : Nat) : List sT := [.inr (.inl (12 * u + 43)), .inr (.inl (17 * t + 9))]
def kqM0_A (t : Nat) (u : Nat) : sAs := ([], [], [], [])
def kqM0_P (t : Nat) (u : Nat) : List sP0 := []
def kqM0_G (t : Nat) (u : Nat) : List sP0 := []
def kqM0_B (t : Nat) (u : Nat) : List (Nat × Nat × Int) := []
def kqM0_m (t : Nat) (u : Nat) : sM := []
def kqM0_e0 (t : Nat) (u : Nat) : sXe := (7, [], [(0, .inr (.inl (12 * u + 43))), (1, .inr (.inl (17 * t + 9))), (2, .inl sf32), (3, .inl sf32), (4, .inl sf32)], sA0, [], ([], [], [(2, ([], (-1))), (3, ([], (-1))), (4, ([], 0))], []), [], [])
theorem kqM0_b : ((List.range 2).all fun t => ((List.range 2).all fun u => syfB swC sT0 (kqM0_m t u) 400 0 142 (kqM0_L t u) (kqM0_A t u) (kqM0_P t u) (kqM0_G t u) (kqM0_B t u) [kqM0_e0 t u] [])) = true := by decide +kernel
theorem kqM0 {l : Launch} {Γ : zG} {d : Nat} (hd : 0 ≤ d) {Kp : Option Value → zH → Prop} {h : zH} {t : Nat} (h_t : t < 2) {u : Nat} (h_u : u < 2) (hi : sInv swC h) 
    (hE0 : ∀ (lo' : zL) (h' : zH), sInv swC h' → sMd (kqM0_m t u) h h' → zget lo' 0 = some (.ref (12 * u + 43)) → zget lo' 1 = some (.ref (17 * t + 9)) → zI lo' 2 (-1) → zI lo' 3 (-1) → zI lo' 4 0 → zX l Γ false (d + 1) (zhd 142) (zMQ' Γ false (zhd 142) Kp) 0 0 7 lo' [] h') : zSem l Γ false (d + 1) (zhd 142) [.ref (12 * u + 43), .ref (17 * t + 9)] h Kp := by
  refine syf_ok (mi := 142) (fun i => [].getD i 0) (zall_r (zall_r kqM0_b h_t) h_u) (fun _ _ hc _ => nomatch hc) hd ⟨_, _, rfl, rfl, ⟨_, _, rfl, rfl, rfl⟩⟩ ⟨rfl, rfl, trivial⟩ ⟨(fun _ hc => nomatch hc), (fun _ hc => nomatch hc), (fun _ hc => nomatch hc), Or.inl rfl⟩ trivial trivial (fun _ hc => nomatch hc) hi ?_ ?_
  · intro e he lo' st' h' hp hi' hm
    rcases List.mem_cons.mp he with rfl | he
    · obtain ⟨p1, p2, -, hz⟩ := hp
      obtain ⟨⟨z1, z2, z3, z4⟩, z5, z6⟩ := hz
      have o0 : zget lo' 0 = some (.ref (12 * u + 43)) := locR (p2 (0, .inr (.inl (12 * u + 43))) (List.mem_of_getElem? (i := 0) rfl))
      have o1 : zget lo' 1 = some (.ref (17 * t + 9)) := locR (p2 (1, .inr (.inl (17 * t + 9))) (List.mem_of_getElem? (i := 1) rfl))
      have o2 : zI lo' 2 (-1) := zI_of (p2 (2, .inl sf32) (List.mem_of_getElem? (i := 2) rfl)) (z3 (2, ([], (-1))) (List.mem_of_getElem? (i := 0) rfl)) (show 0 + (-1) = (-1) from by omega)
      have o3 : zI lo' 3 (-1) := zI_of (p2 (3, .inl sf32) (List.mem_of_getElem? (i := 3) rfl)) (z3 (3, ([], (-1))) (List.mem_of_getElem? (i := 1) rfl)) (show 0 + (-1) = (-1) from by omega)
      have o4 : zI lo' 4 0 := zI_of (p2 (4, .inl sf32) (List.mem_of_getElem? (i := 4) rfl)) (z3 (4, ([], 0)) (List.mem_of_getElem? (i := 2) rfl)) (show 0 + 0 = 0 from by omega)
      have p1 : _ = [] := p1
      subst p1
      exact hE0 lo' h' hi' hm o0 o1 o2 o3 o4
    cases he
  · intro e he r' h' hp hi' hm
    cases he
def kqM1_L (p : Nat) (t : Nat) (u : Nat) : List (Nat × sT) := [(0, .inr (.inl (12 * u + 43))), (1, .inr (.inl (17 * t + 9))), (2, .inl ((-1), 4)), (3, .inl ((-1), 15984)), (4, .inl ((p : Int), (p : Int)))]
def kqM1_S (p : Nat) (t : Nat) (u : Nat) : List sT := []
def kqM1_A (p : Nat) (t : Nat) (u : Nat) : sAs := ([], [], [], [])
def kqM1_P (p : Nat) (t : Nat) (u : Nat) : List sP0 := [((17 * t + 10), (none, 3), (((p : Int) + 1), 5))]
def kqM1_G (p : Nat) (t : Nat) (u : Nat) : List sP0 := []
def kqM1_B (p : Nat) (t : Nat) (u : Nat) : List (Nat × Nat × Int) := []
def kqM1_m (p : Nat) (t : Nat) (u : Nat) : sM := []
def kqM1_e0 (p : Nat) (t : Nat) (u : Nat) : sXe := (23, [.inl sf32, .inr (.inl (17 * t + 9)), .inr (.inl (12 * u + 43))], [(0, .inr (.inl (12 * u + 43))), (1, .inr (.inl (17 * t + 9))), (2, .inl sf32), (3, .inl sf32), (4, .inl sf32)], sA0, [], ([], [(0, ([], (p : Int)))], [(2, ([(0, 1)], 0)), (3, ([(1, 1)], 0)), (4, ([], (p : Int)))], []), [], [])
theorem kqM1_b : ((List.range 5).all fun p => ((List.range 2).all fun t => ((List.range 2).all fun u => syeB swC sT0 (kqM1_m p t u) 400 0 142 (kqM1_L p t u) (kqM1_S p t u) (kqM1_A p t u) (kqM1_P p t u) (kqM1_G p t u) (kqM1_B p t u) 7 [kqM1_e0 p t u] []))) = true := by decide +kernel
theorem kqM1 {l : Launch} {Γ : zG} {d : Nat} (hd : 0 ≤ d) {Kp : Option Value → zH → Prop} {lo : zL} {h : zH} {p : Nat} (h_p : p < 5) {t : Nat} (h_t : t < 2) {u : Nat} (h_u : u < 2) {bb bv n : Int} (hi : sInv swC h) (b_bb : (-1) ≤ bb ∧ bb ≤ 4) (b_bv : (-1) ≤ bv ∧ bv ≤ 15984) (b_n : ((p : Int) + 1) ≤ n ∧ n ≤ 5) (l0 : zget lo 0 = some (.ref (12 * u + 43))) (l1 : zget lo 1 = some (.ref (17 * t + 9))) (l2 : zI lo 2 bb) (l3 : zI lo 3 bv) (l4 : zI lo 4 (p : Int)) (p_n : pI h (17 * t + 10) 3 = n)
    (hE0 : ∀ (lo' : zL) (h' : zH) (y0 : Int32), sInv swC h' → sMd (kqM1_m p t u) h h' → zget lo' 0 = some (.ref (12 * u + 43)) → zget lo' 1 = some (.ref (17 * t + 9)) → zI lo' 2 bb → zI lo' 3 bv → zI lo' 4 (p : Int) → y0.toInt = (p : Int) → zX l Γ false (d + 1) (zhd 142) (zMQ' Γ false (zhd 142) Kp) 0 0 23 lo' [.int y0, .ref (17 * t + 9), .ref (12 * u + 43)] h') : zX l Γ false (d + 1) (zhd 142) (zMQ' Γ false (zhd 142) Kp) 0 0 7 lo [] h := by
  refine sye_ok (mi := 142) (pc := 7) (fun i => [bb, bv, (p : Int), n].getD i 0) (zall_r (zall_r (zall_r kqM1_b h_p) h_t) h_u) (fun _ _ hc _ => nomatch hc) hd ⟨l0, l1, zIm l2 (by show (-1) ≤ bb; omega) (by show bb ≤ 4; omega), zIm l3 (by show (-1) ≤ bv; omega) (by show bv ≤ 15984; omega), zIm l4 (by show (p : Int) ≤ (p : Int); omega) (by show (p : Int) ≤ (p : Int); omega), trivial⟩ rfl ⟨(fun _ hc => nomatch hc), (fun _ hc => nomatch hc), (fun _ hc => nomatch hc), Or.inl rfl⟩ ⟨⟨p_n, by show ((p : Int) + 1) ≤ n; omega, by show n ≤ 5; omega⟩, trivial⟩ trivial (fun _ hc => nomatch hc) hi ?_ ?_
  · intro e he lo' st' h' hp hi' hm
    rcases List.mem_cons.mp he with rfl | he
    · obtain ⟨p1, p2, -, hz⟩ := hp
      obtain ⟨⟨z1, z2, z3, z4⟩, z5, z6⟩ := hz
      have o0 : zget lo' 0 = some (.ref (12 * u + 43)) := locR (p2 (0, .inr (.inl (12 * u + 43))) (List.mem_of_getElem? (i := 0) rfl))
      have o1 : zget lo' 1 = some (.ref (17 * t + 9)) := locR (p2 (1, .inr (.inl (17 * t + 9))) (List.mem_of_getElem? (i := 1) rfl))
      have o2 : zI lo' 2 bb := zI_of (p2 (2, .inl sf32) (List.mem_of_getElem? (i := 2) rfl)) (z3 (2, ([(0, 1)], 0)) (List.mem_of_getElem? (i := 0) rfl)) (show (1 * bb + 0) + 0 = bb from by omega)
      have o3 : zI lo' 3 bv := zI_of (p2 (3, .inl sf32) (List.mem_of_getElem? (i := 3) rfl)) (z3 (3, ([(1, 1)], 0)) (List.mem_of_getElem? (i := 1) rfl)) (show (1 * bv + 0) + 0 = bv from by omega)
      have o4 : zI lo' 4 (p : Int) := zI_of (p2 (4, .inl sf32) (List.mem_of_getElem? (i := 4) rfl)) (z3 (4, ([], (p : Int))) (List.mem_of_getElem? (i := 2) rfl)) (show 0 + (p : Int) = (p : Int) from by omega)
      obtain ⟨_, _, rfl, ⟨y0, rfl, -⟩, p1⟩ := p1
      obtain ⟨_, _, rfl, hr, p1⟩ := p1
      have hr : _ = Value.ref (17 * t + 9) := hr
      subst hr
      obtain ⟨_, _, rfl, hr, p1⟩ := p1
      have hr : _ = Value.ref (12 * u + 43) := hr
      subst hr
      have p1 : _ = [] := p1
      subst p1
      obtain ⟨v_, ev, hv⟩ := z2 (0, ([], (p : Int))) (List.mem_of_getElem? (i := 0) rfl)
      cases ev
      have s0 : y0.toInt = (p : Int) := (show y0.toInt = 0 + (p : Int) from hv).trans (by omega)
      exact hE0 lo' h' y0 hi' hm o0 o1 o2 o3 o4 s0
    cases he
  · intro e he r' h' hp hi' hm
    cases he
def kqM2_L (p : Nat) (t : Nat) (u : Nat) : List (Nat × sT) := [(0, .inr (.inl (12 * u + 43))), (1, .inr (.inl (17 * t + 9))), (2, .inl ((-1), 4)), (3, .inl ((-1), 15984)), (4, .inl ((p : Int), (p : Int)))]
def kqM2_S (p : Nat) (t : Nat) (u : Nat) : List sT := [.inl (0, 15984)]
def kqM2_A (p : Nat) (t : Nat) (u : Nat) : sAs := ([], [], [], [])
def kqM2_P (p : Nat) (t : Nat) (u : Nat) : List sP0 := []
def kqM2_G (p : Nat) (t : Nat) (u : Nat) : List sP0 := []
def kqM2_B (p : Nat) (t : Nat) (u : Nat) : List (Nat × Nat × Int) := []
def kqM2_m (p : Nat) (t : Nat) (u : Nat) : sM := []
def kqM2_e0 (p : Nat) (t : Nat) (u : Nat) : sXe := (7, [], [(0, .inr (.inl (12 * u + 43))), (1, .inr (.inl (17 * t + 9))), (2, .inl sf32), (3, .inl sf32), (4, .inl sf32)], sA0, [], ([], [], [(2, ([(0, 1)], 0)), (3, ([(1, 1)], 0)), (4, ([], ((p : Int) + 1)))], [([(1, 1), (3, (-1))], 0)]), [], [])
def kqM2_e1 (p : Nat) (t : Nat) (u : Nat) : sXe := (7, [], [(0, .inr (.inl (12 * u + 43))), (1, .inr (.inl (17 * t + 9))), (2, .inl sf32), (3, .inl sf32), (4, .inl sf32)], sA0, [], ([], [], [(2, ([], (p : Int))), (3, ([(3, 1)], 0)), (4, ([], ((p : Int) + 1)))], [([(1, (-1)), (3, 1)], (-1))]), [], [])
theorem kqM2_b : ((List.range 5).all fun p => ((List.range 2).all fun t => ((List.range 2).all fun u => syeB swC sT0 (kqM2_m p t u) 400 0 142 (kqM2_L p t u) (kqM2_S p t u) (kqM2_A p t u) (kqM2_P p t u) (kqM2_G p t u) (kqM2_B p t u) 26 [kqM2_e0 p t u, kqM2_e1 p t u] []))) = true := by decide +kernel
theorem kqM2 {l : Launch} {Γ : zG} {d : Nat} (hd : 0 ≤ d) {Kp : Option Value → zH → Prop} {lo : zL} {h : zH} {p : Nat} (h_p : p < 5) {t : Nat} (h_t : t < 2) {u : Nat} (h_u : u < 2) {bb bv v : Int} (hi : sInv swC h) (b_bb : (-1) ≤ bb ∧ bb ≤ 4) (b_bv : (-1) ≤ bv ∧ bv ≤ 15984) (b_v : 0 ≤ v ∧ v ≤ 15984) (l0 : zget lo 0 = some (.ref (12 * u + 43))) (l1 : zget lo 1 = some (.ref (17 * t + 9))) (l2 : zI lo 2 bb) (l3 : zI lo 3 bv) (l4 : zI lo 4 (p : Int)) {x_v : Int32} (e_v : x_v.toInt = v)
    (hE0 : ∀ (lo' : zL) (h' : zH), sInv swC h' → sMd (kqM2_m p t u) h h' → 0 ≤ bv - v → zget lo' 0 = some (.ref (12 * u + 43)) → zget lo' 1 = some (.ref (17 * t + 9)) → zI lo' 2 bb → zI lo' 3 bv → zI lo' 4 ((p : Int) + 1) → zX l Γ false (d + 1) (zhd 142) (zMQ' Γ false (zhd 142) Kp) 0 0 7 lo' [] h')
    (hE1 : ∀ (lo' : zL) (h' : zH), sInv swC h' → sMd (kqM2_m p t u) h h' → 0 ≤ -bv + v - 1 → zget lo' 0 = some (.ref (12 * u + 43)) → zget lo' 1 = some (.ref (17 * t + 9)) → zI lo' 2 (p : Int) → zI lo' 3 v → zI lo' 4 ((p : Int) + 1) → zX l Γ false (d + 1) (zhd 142) (zMQ' Γ false (zhd 142) Kp) 0 0 7 lo' [] h') : zX l Γ false (d + 1) (zhd 142) (zMQ' Γ false (zhd 142) Kp) 0 0 26 lo [.int x_v] h := by
  refine sye_ok (mi := 142) (pc := 26) (fun i => [bb, bv, (p : Int), v].getD i 0) (zall_r (zall_r (zall_r kqM2_b h_p) h_t) h_u) (fun _ _ hc _ => nomatch hc) hd ⟨l0, l1, zIm l2 (by show (-1) ≤ bb; omega) (by show bb ≤ 4; omega), zIm l3 (by show (-1) ≤ bv; omega) (by show bv ≤ 15984; omega), zIm l4 (by show (p : Int) ≤ (p : Int); omega) (by show (p : Int) ≤ (p : Int); omega), trivial⟩ ⟨x_v, _, rfl, e_v, ⟨by show 0 ≤ v; omega, by show v ≤ 15984; omega⟩, rfl⟩ ⟨(fun _ hc => nomatch hc), (fun _ hc => nomatch hc), (fun _ hc => nomatch hc), Or.inl rfl⟩ trivial trivial (fun _ hc => nomatch hc) hi ?_ ?_
  · intro e he lo' st' h' hp hi' hm
    rcases List.mem_cons.mp he with rfl | he
    · obtain ⟨p1, p2, -, hz⟩ := hp
      obtain ⟨⟨z1, z2, z3, z4⟩, z5, z6⟩ := hz
      have c0 : 0 ≤ bv - v := by have q_ : (0 : Int) ≤ (1 * bv + ((-1) * v + 0)) + 0 := z4 ([(1, 1), (3, (-1))], 0) (List.mem_of_getElem? (i := 0) rfl); omega
      have o0 : zget lo' 0 = some (.ref (12 * u + 43)) := locR (p2 (0, .inr (.inl (12 * u + 43))) (List.mem_of_getElem? (i := 0) rfl))
      have o1 : zget lo' 1 = some (.ref (17 * t + 9)) := locR (p2 (1, .inr (.inl (17 * t + 9))) (List.mem_of_getElem? (i := 1) rfl))
      have o2 : zI lo' 2 bb := zI_of (p2 (2, .inl sf32) (List.mem_of_getElem? (i := 2) rfl)) (z3 (2, ([(0, 1)], 0)) (List.mem_of_getElem? (i := 0) rfl)) (show (1 * bb + 0) + 0 = bb from by omega)
      have o3 : zI lo' 3 bv := zI_of (p2 (3, .inl sf32) (List.mem_of_getElem? (i := 3) rfl)) (z3 (3, ([(1, 1)], 0)) (List.mem_of_getElem? (i := 1) rfl)) (show (1 * bv + 0) + 0 = bv from by omega)
      have o4 : zI lo' 4 ((p : Int) + 1) := zI_of (p2 (4, .inl sf32) (List.mem_of_getElem? (i := 4) rfl)) (z3 (4, ([], ((p : Int) + 1))) (List.mem_of_getElem? (i := 2) rfl)) (show 0 + ((p : Int) + 1) = ((p : Int) + 1) from by omega)
      have p1 : _ = [] := p1
      subst p1
      exact hE0 lo' h' hi' hm c0 o0 o1 o2 o3 o4
    rcases List.mem_cons.mp he with rfl | he
    · obtain ⟨p1, p2, -, hz⟩ := hp
      obtain ⟨⟨z1, z2, z3, z4⟩, z5, z6⟩ := hz
      have c0 : 0 ≤ -bv + v - 1 := by have q_ : (0 : Int) ≤ ((-1) * bv + (1 * v + 0)) + (-1) := z4 ([(1, (-1)), (3, 1)], (-1)) (List.mem_of_getElem? (i := 0) rfl); omega
      have o0 : zget lo' 0 = some (.ref (12 * u + 43)) := locR (p2 (0, .inr (.inl (12 * u + 43))) (List.mem_of_getElem? (i := 0) rfl))
      have o1 : zget lo' 1 = some (.ref (17 * t + 9)) := locR (p2 (1, .inr (.inl (17 * t + 9))) (List.mem_of_getElem? (i := 1) rfl))
      have o2 : zI lo' 2 (p : Int) := zI_of (p2 (2, .inl sf32) (List.mem_of_getElem? (i := 2) rfl)) (z3 (2, ([], (p : Int))) (List.mem_of_getElem? (i := 0) rfl)) (show 0 + (p : Int) = (p : Int) from by omega)
      have o3 : zI lo' 3 v := zI_of (p2 (3, .inl sf32) (List.mem_of_getElem? (i := 3) rfl)) (z3 (3, ([(3, 1)], 0)) (List.mem_of_getElem? (i := 1) rfl)) (show (1 * v + 0) + 0 = v from by omega)
      have o4 : zI lo' 4 ((p : Int) + 1) := zI_of (p2 (4, .inl sf32) (List.mem_of_getElem? (i := 4) rfl)) (z3 (4, ([], ((p : Int) + 1))) (List.mem_of_getElem? (i := 2) rfl)) (show 0 + ((p : Int) + 1) = ((p : Int) + 1) from by omega)
      have p1 : _ = [] := p1
      subst p1
      exact hE1 lo' h' hi' hm c0 o0 o1 o2 o3 o4
    cases he
  · intro e he r' h' hp hi' hm
    cases he
def kqM3_L (p : Nat) (t : Nat) (u : Nat) : List (Nat × sT) := [(0, .inr (.inl (12 * u + 43))), (1, .inr (.inl (17 * t + 9))), (2, .inl ((-1), 4)), (3, .inl ((-1), 15984)), (4, .inl ((p : Int), (p : Int)))]
def kqM3_S (p : Nat) (t : Nat) (u : Nat) : List sT := []
def kqM3_A (p : Nat) (t : Nat) (u : Nat) : sAs := ([], [], [], [])
def kqM3_P (p : Nat) (t : Nat) (u : Nat) : List sP0 := [((17 * t + 10), (none, 3), (0, (p : Int)))]
def kqM3_G (p : Nat) (t : Nat) (u : Nat) : List sP0 := []
def kqM3_B (p : Nat) (t : Nat) (u : Nat) : List (Nat × Nat × Int) := []
def kqM3_m (p : Nat) (t : Nat) (u : Nat) : sM := []
def kqM3_r0 (p : Nat) (t : Nat) (u : Nat) : sXr := (some (.inl sf32), sA0, [], ([], [(0, ([(0, 1)], 0))], [], []), [], [])
theorem kqM3_b : ((List.range 6).all fun p => ((List.range 2).all fun t => ((List.range 2).all fun u => syeB swC sT0 (kqM3_m p t u) 400 0 142 (kqM3_L p t u) (kqM3_S p t u) (kqM3_A p t u) (kqM3_P p t u) (kqM3_G p t u) (kqM3_B p t u) 7 [] [kqM3_r0 p t u]))) = true := by decide +kernel
theorem kqM3 {l : Launch} {Γ : zG} {d : Nat} (hd : 0 ≤ d) {Kp : Option Value → zH → Prop} {lo : zL} {h : zH} {p : Nat} (h_p : p < 6) {t : Nat} (h_t : t < 2) {u : Nat} (h_u : u < 2) {bb bv n : Int} (hi : sInv swC h) (b_bb : (-1) ≤ bb ∧ bb ≤ 4) (b_bv : (-1) ≤ bv ∧ bv ≤ 15984) (b_n : 0 ≤ n ∧ n ≤ (p : Int)) (l0 : zget lo 0 = some (.ref (12 * u + 43))) (l1 : zget lo 1 = some (.ref (17 * t + 9))) (l2 : zI lo 2 bb) (l3 : zI lo 3 bv) (l4 : zI lo 4 (p : Int)) (p_n : pI h (17 * t + 10) 3 = n)
    (hR0 : ∀ (h' : zH) (r_ : Int32), sInv swC h' → sMd (kqM3_m p t u) h h' → r_.toInt = bb → Kp (some (.int r_)) h') : zX l Γ false (d + 1) (zhd 142) (zMQ' Γ false (zhd 142) Kp) 0 0 7 lo [] h := by
  refine sye_ok (mi := 142) (pc := 7) (fun i => [bb, bv, (p : Int), n].getD i 0) (zall_r (zall_r (zall_r kqM3_b h_p) h_t) h_u) (fun _ _ hc _ => nomatch hc) hd ⟨l0, l1, zIm l2 (by show (-1) ≤ bb; omega) (by show bb ≤ 4; omega), zIm l3 (by show (-1) ≤ bv; omega) (by show bv ≤ 15984; omega), zIm l4 (by show (p : Int) ≤ (p : Int); omega) (by show (p : Int) ≤ (p : Int); omega), trivial⟩ rfl ⟨(fun _ hc => nomatch hc), (fun _ hc => nomatch hc), (fun _ hc => nomatch hc), Or.inl rfl⟩ ⟨⟨p_n, by show 0 ≤ n; omega, by show n ≤ (p : Int); omega⟩, trivial⟩ trivial (fun _ hc => nomatch hc) hi ?_ ?_
  · intro e he lo' st' h' hp hi' hm
    cases he
  · intro e he r' h' hp hi' hm
    rcases List.mem_cons.mp he with rfl | he
    · obtain ⟨p1, -, hz⟩ := hp
      obtain ⟨⟨z1, z2, z3, z4⟩, z5, z6⟩ := hz
      obtain ⟨r_, rfl, hv⟩ := ansI p1 (z2 (0, ([(0, 1)], 0)) (List.mem_of_getElem? (i := 0) rfl))
      have s0 : r_.toInt = bb := (show r_.toInt = (1 * bb + 0) + 0 from hv).trans (by omega)
      exact hR0 h' r_ hi' hm s0
    cases he
def krR0_L : List sT := [.inr (.inl 0)]
def krR0_A : sAs := ([], [], [], [])
def krR0_P : List sP0 := []
def krR0_G : List sP0 := []
def krR0_B : List (Nat × Nat × Int) := []
def krR0_m : sM := [(0, 2, 3)]
def krR0_e0 : sXe := (7, [.inl sf32, .inr (.inl 0)], [], sA0, [], ([(0, (none, 2), ([], 0))], [(0, ([], 0))], [], []), [], [])
theorem krR0_b : syfB swM sT0 krR0_m 400 0 279 krR0_L krR0_A krR0_P krR0_G krR0_B [krR0_e0] [] = true := by decide +kernel
theorem krR0 {l : Launch} {Γ : zG} {d : Nat} (hd : 0 ≤ d) {Kp : Option Value → zH → Prop} {h : zH} (hi : sInv swM h) 
    (hE0 : ∀ (lo' : zL) (h' : zH) (y0 : Int32), sInv swM h' → sMd krR0_m h h' → pI h' 0 2 = 0 → y0.toInt = 0 → zX l Γ false (d + 1) (zhd 279) (zMQ' Γ false (zhd 279) Kp) 0 0 7 lo' [.int y0, .ref 0] h') : zSem l Γ false (d + 1) (zhd 279) [.ref 0] h Kp := by
  refine syf_ok (mi := 279) (fun i => [].getD i 0) krR0_b (fun _ _ hc _ => nomatch hc) hd ⟨_, _, rfl, rfl, rfl⟩ ⟨rfl, trivial⟩ ⟨(fun _ hc => nomatch hc), (fun _ hc => nomatch hc), (fun _ hc => nomatch hc), Or.inl rfl⟩ trivial trivial (fun _ hc => nomatch hc) hi ?_ ?_
  · intro e he lo' st' h' hp hi' hm
    rcases List.mem_cons.mp he with rfl | he
    · obtain ⟨p1, p2, -, hz⟩ := hp
      obtain ⟨⟨z1, z2, z3, z4⟩, z5, z6⟩ := hz
      have k0 : pI h' 0 2 = 0 := (show pI h' 0 2 = 0 + 0 from z1 (0, (none, 2), ([], 0)) (List.mem_of_getElem? (i := 0) rfl)).trans (by omega)
      obtain ⟨_, _, rfl, ⟨y0, rfl, -⟩, p1⟩ := p1
      obtain ⟨_, _, rfl, hr, p1⟩ := p1
      have hr : _ = Value.ref 0 := hr
      subst hr
      have p1 : _ = [] := p1
      subst p1
      obtain ⟨v_, ev, hv⟩ := z2 (0, ([], 0)) (List.mem_of_getElem? (i := 0) rfl)
      cases ev
      have s0 : y0.toInt = 0 := (show y0.toInt = 0 + 0 from hv).trans (by omega)
      exact hE0 lo' h' y0 hi' hm k0 s0
    cases he
  · intro e he r' h' hp hi' hm
    cases he
def krR1_L : List (Nat × sT) := []
def krR1_S : List sT := [.inl sf32]
def krR1_A : sAs := ([], [], [], [])
def krR1_P : List sP0 := []
def krR1_G : List sP0 := []
def krR1_B : List (Nat × Nat × Int) := []
def krR1_m : sM := []
def krR1_r0 : sXr := (some (.inl sf32), sA0, [], ([], [(0, ([(0, 1)], 0))], [], []), [], [])
theorem krR1_b : syeB swM sT0 krR1_m 400 0 279 krR1_L krR1_S krR1_A krR1_P krR1_G krR1_B 10 [] [krR1_r0] = true := by decide +kernel
theorem krR1 {l : Launch} {Γ : zG} {d : Nat} (hd : 0 ≤ d) {Kp : Option Value → zH → Prop} {lo : zL} {h : zH} {v : Int} (hi : sInv swM h) (b_v : (-2147483648) ≤ v ∧ v ≤ 2147483647) {x_v : Int32} (e_v : x_v.toInt = v)
    (hR0 : ∀ (h' : zH) (r_ : Int32), sInv swM h' → sMd krR1_m h h' → r_.toInt = v → Kp (some (.int r_)) h') : zX l Γ false (d + 1) (zhd 279) (zMQ' Γ false (zhd 279) Kp) 0 0 10 lo [.int x_v] h := by
  refine sye_ok (mi := 279) (pc := 10) (fun i => [v].getD i 0) krR1_b (fun _ _ hc _ => nomatch hc) hd trivial ⟨x_v, _, rfl, e_v, ⟨by show (-2147483648) ≤ v; omega, by show v ≤ 2147483647; omega⟩, rfl⟩ ⟨(fun _ hc => nomatch hc), (fun _ hc => nomatch hc), (fun _ hc => nomatch hc), Or.inl rfl⟩ trivial trivial (fun _ hc => nomatch hc) hi ?_ ?_
  · intro e he lo' st' h' hp hi' hm
    cases he
  · intro e he r' h' hp hi' hm
    rcases List.mem_cons.mp he with rfl | he
    · obtain ⟨p1, -, hz⟩ := hp
      obtain ⟨⟨z1, z2, z3, z4⟩, z5, z6⟩ := hz
      obtain ⟨r_, rfl, hv⟩ := ansI p1 (z2 (0, ([(0, 1)], 0)) (List.mem_of_getElem? (i := 0) rfl))
      have s0 : r_.toInt = v := (show r_.toInt = (1 * v + 0) + 0 from hv).trans (by omega)
      exact hR0 h' r_ hi' hm s0
    cases he
def krM0_L (k : Nat) : List sT := [.inr (.inl 0), .inl ((k : Int), (k : Int))]
def krM0_A (k : Nat) : sAs := ([], [], [], [])
def krM0_P (k : Nat) : List sP0 := []
def krM0_G (k : Nat) : List sP0 := []
def krM0_B (k : Nat) : List (Nat × Nat × Int) := []
def krM0_m (k : Nat) : sM := []
def krM0_e0 (k : Nat) : sXe := (4, [], [(0, .inr (.inl 0)), (1, .inl sf32), (2, .inl sf32), (3, .inl sf32)], sA0, [], ([], [], [(1, ([], (k : Int))), (2, ([], (-1))), (3, ([], 0))], []), [], [])
theorem krM0_b : ((List.range 2).all fun k => syfB swM sT0 (krM0_m k) 400 0 280 (krM0_L k) (krM0_A k) (krM0_P k) (krM0_G k) (krM0_B k) [krM0_e0 k] []) = true := by decide +kernel
theorem krM0 {l : Launch} {Γ : zG} {d : Nat} (hd : 0 ≤ d) {Kp : Option Value → zH → Prop} {h : zH} {k : Nat} (h_k : k < 2) (hi : sInv swM h) {x_hh : Int32} (e_hh : x_hh.toInt = (k : Int))
    (hE0 : ∀ (lo' : zL) (h' : zH), sInv swM h' → sMd (krM0_m k) h h' → zget lo' 0 = some (.ref 0) → zI lo' 1 (k : Int) → zI lo' 2 (-1) → zI lo' 3 0 → zX l Γ false (d + 1) (zhd 280) (zMQ' Γ false (zhd 280) Kp) 0 0 4 lo' [] h') : zSem l Γ false (d + 1) (zhd 280) [.ref 0, .int x_hh] h Kp := by
  refine syf_ok (mi := 280) (fun i => [(k : Int)].getD i 0) (zall_r krM0_b h_k) (fun _ _ hc _ => nomatch hc) hd ⟨_, _, rfl, rfl, ⟨_, _, rfl, ⟨x_hh, rfl, by show (k : Int) ≤ x_hh.toInt; omega, by show x_hh.toInt ≤ (k : Int); omega⟩, rfl⟩⟩ ⟨rfl, ⟨x_hh, rfl, e_hh, by show (k : Int) ≤ (k : Int); omega, by show (k : Int) ≤ (k : Int); omega⟩, trivial⟩ ⟨(fun _ hc => nomatch hc), (fun _ hc => nomatch hc), (fun _ hc => nomatch hc), Or.inl rfl⟩ trivial trivial (fun _ hc => nomatch hc) hi ?_ ?_
  · intro e he lo' st' h' hp hi' hm
    rcases List.mem_cons.mp he with rfl | he
    · obtain ⟨p1, p2, -, hz⟩ := hp
      obtain ⟨⟨z1, z2, z3, z4⟩, z5, z6⟩ := hz
      have o0 : zget lo' 0 = some (.ref 0) := locR (p2 (0, .inr (.inl 0)) (List.mem_of_getElem? (i := 0) rfl))
      have o1 : zI lo' 1 (k : Int) := zI_of (p2 (1, .inl sf32) (List.mem_of_getElem? (i := 1) rfl)) (z3 (1, ([], (k : Int))) (List.mem_of_getElem? (i := 0) rfl)) (show 0 + (k : Int) = (k : Int) from by omega)
      have o2 : zI lo' 2 (-1) := zI_of (p2 (2, .inl sf32) (List.mem_of_getElem? (i := 2) rfl)) (z3 (2, ([], (-1))) (List.mem_of_getElem? (i := 1) rfl)) (show 0 + (-1) = (-1) from by omega)
      have o3 : zI lo' 3 0 := zI_of (p2 (3, .inl sf32) (List.mem_of_getElem? (i := 3) rfl)) (z3 (3, ([], 0)) (List.mem_of_getElem? (i := 2) rfl)) (show 0 + 0 = 0 from by omega)
      have p1 : _ = [] := p1
      subst p1
      exact hE0 lo' h' hi' hm o0 o1 o2 o3
    cases he
  · intro e he r' h' hp hi' hm
    cases he
def krM1_L (k : Nat) (p : Nat) : List (Nat × sT) := [(0, .inr (.inl 0)), (1, .inl ((k : Int), (k : Int))), (2, .inl ((-1), (-1))), (3, .inl ((p : Int), (p : Int)))]
def krM1_S (k : Nat) (p : Nat) : List sT := []
def krM1_A (k : Nat) (p : Nat) : sAs := ([], [], [], [])
def krM1_P (k : Nat) (p : Nat) : List sP0 := [(0, (none, 12), (((p : Int) + 1), 5))]
def krM1_G (k : Nat) (p : Nat) : List sP0 := []
def krM1_B (k : Nat) (p : Nat) : List (Nat × Nat × Int) := []
def krM1_m (k : Nat) (p : Nat) : sM := []
def krM1_e0 (k : Nat) (p : Nat) : sXe := (4, [], [(0, .inr (.inl 0)), (1, .inl sf32), (2, .inl sf32), (3, .inl sf32)], sA0, [], ([], [], [(1, ([], (k : Int))), (2, ([], (p : Int))), (3, ([], ((p : Int) + 1)))], []), [], [])
theorem krM1_b : ((List.range 2).all fun k => ((List.range 5).all fun p => syeB swM sT0 (krM1_m k p) 400 0 280 (krM1_L k p) (krM1_S k p) (krM1_A k p) (krM1_P k p) (krM1_G k p) (krM1_B k p) 4 [krM1_e0 k p] [])) = true := by decide +kernel
theorem krM1 {l : Launch} {Γ : zG} {d : Nat} (hd : 0 ≤ d) {Kp : Option Value → zH → Prop} {lo : zL} {h : zH} {k : Nat} (h_k : k < 2) {p : Nat} (h_p : p < 5) {n : Int} (hi : sInv swM h) (b_n : ((p : Int) + 1) ≤ n ∧ n ≤ 5) (l0 : zget lo 0 = some (.ref 0)) (l1 : zI lo 1 (k : Int)) (l2 : zI lo 2 (-1)) (l3 : zI lo 3 (p : Int)) (p_n : pI h 0 12 = n)
    (hE0 : ∀ (lo' : zL) (h' : zH), sInv swM h' → sMd (krM1_m k p) h h' → zget lo' 0 = some (.ref 0) → zI lo' 1 (k : Int) → zI lo' 2 (p : Int) → zI lo' 3 ((p : Int) + 1) → zX l Γ false (d + 1) (zhd 280) (zMQ' Γ false (zhd 280) Kp) 0 0 4 lo' [] h') : zX l Γ false (d + 1) (zhd 280) (zMQ' Γ false (zhd 280) Kp) 0 0 4 lo [] h := by
  refine sye_ok (mi := 280) (pc := 4) (fun i => [(k : Int), (-1), (p : Int), n].getD i 0) (zall_r (zall_r krM1_b h_k) h_p) (fun _ _ hc _ => nomatch hc) hd ⟨l0, zIm l1 (by show (k : Int) ≤ (k : Int); omega) (by show (k : Int) ≤ (k : Int); omega), zIm l2 (by show (-1) ≤ (-1); omega) (by show (-1) ≤ (-1); omega), zIm l3 (by show (p : Int) ≤ (p : Int); omega) (by show (p : Int) ≤ (p : Int); omega), trivial⟩ rfl ⟨(fun _ hc => nomatch hc), (fun _ hc => nomatch hc), (fun _ hc => nomatch hc), Or.inl rfl⟩ ⟨⟨p_n, by show ((p : Int) + 1) ≤ n; omega, by show n ≤ 5; omega⟩, trivial⟩ trivial (fun _ hc => nomatch hc) hi ?_ ?_
  · intro e he lo' st' h' hp hi' hm
    rcases List.mem_cons.mp he with rfl | he
    · obtain ⟨p1, p2, -, hz⟩ := hp
      obtain ⟨⟨z1, z2, z3, z4⟩, z5, z6⟩ := hz
      have o0 : zget lo' 0 = some (.ref 0) := locR (p2 (0, .inr (.inl 0)) (List.mem_of_getElem? (i := 0) rfl))
      have o1 : zI lo' 1 (k : Int) := zI_of (p2 (1, .inl sf32) (List.mem_of_getElem? (i := 1) rfl)) (z3 (1, ([], (k : Int))) (List.mem_of_getElem? (i := 0) rfl)) (show 0 + (k : Int) = (k : Int) from by omega)
      have o2 : zI lo' 2 (p : Int) := zI_of (p2 (2, .inl sf32) (List.mem_of_getElem? (i := 2) rfl)) (z3 (2, ([], (p : Int))) (List.mem_of_getElem? (i := 1) rfl)) (show 0 + (p : Int) = (p : Int) from by omega)
      have o3 : zI lo' 3 ((p : Int) + 1) := zI_of (p2 (3, .inl sf32) (List.mem_of_getElem? (i := 3) rfl)) (z3 (3, ([], ((p : Int) + 1))) (List.mem_of_getElem? (i := 2) rfl)) (show 0 + ((p : Int) + 1) = ((p : Int) + 1) from by omega)
      have p1 : _ = [] := p1
      subst p1
      exact hE0 lo' h' hi' hm o0 o1 o2 o3
    cases he
  · intro e he r' h' hp hi' hm
    cases he
def krM2_L (k : Nat) (p : Nat) : List (Nat × sT) := [(0, .inr (.inl 0)), (1, .inl ((k : Int), (k : Int))), (2, .inl (0, 4)), (3, .inl ((p : Int), (p : Int)))]
def krM2_S (k : Nat) (p : Nat) : List sT := []
def krM2_A (k : Nat) (p : Nat) : sAs := ([], [], [], [])
def krM2_P (k : Nat) (p : Nat) : List sP0 := [(0, (none, 12), (((p : Int) + 1), 5))]
def krM2_G (k : Nat) (p : Nat) : List sP0 := []
def krM2_B (k : Nat) (p : Nat) : List (Nat × Nat × Int) := []
def krM2_m (k : Nat) (p : Nat) : sM := []
def krM2_e0 (k : Nat) (p : Nat) : sXe := (19, [.inl sf32, .inl sf32, .inr (.inl 0)], [(0, .inr (.inl 0)), (1, .inl sf32), (2, .inl sf32), (3, .inl sf32)], sA0, [], ([], [(0, ([], (p : Int))), (1, ([], (k : Int)))], [(1, ([], (k : Int))), (2, ([(1, 1)], 0)), (3, ([], (p : Int)))], []), [], [])
theorem krM2_b : ((List.range 2).all fun k => ((List.range 5).all fun p => syeB swM sT0 (krM2_m k p) 400 0 280 (krM2_L k p) (krM2_S k p) (krM2_A k p) (krM2_P k p) (krM2_G k p) (krM2_B k p) 4 [krM2_e0 k p] [])) = true := by decide +kernel
theorem krM2 {l : Launch} {Γ : zG} {d : Nat} (hd : 0 ≤ d) {Kp : Option Value → zH → Prop} {lo : zL} {h : zH} {k : Nat} (h_k : k < 2) {p : Nat} (h_p : p < 5) {bb n : Int} (hi : sInv swM h) (b_bb : 0 ≤ bb ∧ bb ≤ 4) (b_n : ((p : Int) + 1) ≤ n ∧ n ≤ 5) (l0 : zget lo 0 = some (.ref 0)) (l1 : zI lo 1 (k : Int)) (l2 : zI lo 2 bb) (l3 : zI lo 3 (p : Int)) (p_n : pI h 0 12 = n)
    (hE0 : ∀ (lo' : zL) (h' : zH) (y0 : Int32) (y1 : Int32), sInv swM h' → sMd (krM2_m k p) h h' → zget lo' 0 = some (.ref 0) → zI lo' 1 (k : Int) → zI lo' 2 bb → zI lo' 3 (p : Int) → y0.toInt = (p : Int) → y1.toInt = (k : Int) → zX l Γ false (d + 1) (zhd 280) (zMQ' Γ false (zhd 280) Kp) 0 0 19 lo' [.int y0, .int y1, .ref 0] h') : zX l Γ false (d + 1) (zhd 280) (zMQ' Γ false (zhd 280) Kp) 0 0 4 lo [] h := by
  refine sye_ok (mi := 280) (pc := 4) (fun i => [(k : Int), bb, (p : Int), n].getD i 0) (zall_r (zall_r krM2_b h_k) h_p) (fun _ _ hc _ => nomatch hc) hd ⟨l0, zIm l1 (by show (k : Int) ≤ (k : Int); omega) (by show (k : Int) ≤ (k : Int); omega), zIm l2 (by show 0 ≤ bb; omega) (by show bb ≤ 4; omega), zIm l3 (by show (p : Int) ≤ (p : Int); omega) (by show (p : Int) ≤ (p : Int); omega), trivial⟩ rfl ⟨(fun _ hc => nomatch hc), (fun _ hc => nomatch hc), (fun _ hc => nomatch hc), Or.inl rfl⟩ ⟨⟨p_n, by show ((p : Int) + 1) ≤ n; omega, by show n ≤ 5; omega⟩, trivial⟩ trivial (fun _ hc => nomatch hc) hi ?_ ?_
  · intro e he lo' st' h' hp hi' hm
    rcases List.mem_cons.mp he with rfl | he
    · obtain ⟨p1, p2, -, hz⟩ := hp
      obtain ⟨⟨z1, z2, z3, z4⟩, z5, z6⟩ := hz
      have o0 : zget lo' 0 = some (.ref 0) := locR (p2 (0, .inr (.inl 0)) (List.mem_of_getElem? (i := 0) rfl))
      have o1 : zI lo' 1 (k : Int) := zI_of (p2 (1, .inl sf32) (List.mem_of_getElem? (i := 1) rfl)) (z3 (1, ([], (k : Int))) (List.mem_of_getElem? (i := 0) rfl)) (show 0 + (k : Int) = (k : Int) from by omega)
      have o2 : zI lo' 2 bb := zI_of (p2 (2, .inl sf32) (List.mem_of_getElem? (i := 2) rfl)) (z3 (2, ([(1, 1)], 0)) (List.mem_of_getElem? (i := 1) rfl)) (show (1 * bb + 0) + 0 = bb from by omega)
      have o3 : zI lo' 3 (p : Int) := zI_of (p2 (3, .inl sf32) (List.mem_of_getElem? (i := 3) rfl)) (z3 (3, ([], (p : Int))) (List.mem_of_getElem? (i := 2) rfl)) (show 0 + (p : Int) = (p : Int) from by omega)
      obtain ⟨_, _, rfl, ⟨y0, rfl, -⟩, p1⟩ := p1
      obtain ⟨_, _, rfl, ⟨y1, rfl, -⟩, p1⟩ := p1
      obtain ⟨_, _, rfl, hr, p1⟩ := p1
      have hr : _ = Value.ref 0 := hr
      subst hr
      have p1 : _ = [] := p1
      subst p1
      obtain ⟨v_, ev, hv⟩ := z2 (0, ([], (p : Int))) (List.mem_of_getElem? (i := 0) rfl)
      cases ev
      have s0 : y0.toInt = (p : Int) := (show y0.toInt = 0 + (p : Int) from hv).trans (by omega)
      obtain ⟨v_, ev, hv⟩ := z2 (1, ([], (k : Int))) (List.mem_of_getElem? (i := 1) rfl)
      cases ev
      have s1 : y1.toInt = (k : Int) := (show y1.toInt = 0 + (k : Int) from hv).trans (by omega)
      exact hE0 lo' h' y0 y1 hi' hm o0 o1 o2 o3 s0 s1
    cases he
  · intro e he r' h' hp hi' hm
    cases he
def krM3_L (k : Nat) (p : Nat) : List (Nat × sT) := [(0, .inr (.inl 0)), (1, .inl ((k : Int), (k : Int))), (2, .inl (0, 4)), (3, .inl ((p : Int), (p : Int)))]
def krM3_S (k : Nat) (p : Nat) : List sT := [.inl (0, 15984)]
def krM3_A (k : Nat) (p : Nat) : sAs := ([], [], [], [])
def krM3_P (k : Nat) (p : Nat) : List sP0 := []
def krM3_G (k : Nat) (p : Nat) : List sP0 := []
def krM3_B (k : Nat) (p : Nat) : List (Nat × Nat × Int) := []
def krM3_m (k : Nat) (p : Nat) : sM := []
def krM3_e0 (k : Nat) (p : Nat) : sXe := (25, [.inl sf32, .inl sf32, .inr (.inl 0), .inl sf32], [(0, .inr (.inl 0)), (1, .inl sf32), (2, .inl sf32), (3, .inl sf32)], sA0, [], ([], [(0, ([(1, 1)], 0)), (1, ([], (k : Int))), (3, ([(3, 1)], 0))], [(1, ([], (k : Int))), (2, ([(1, 1)], 0)), (3, ([], (p : Int)))], []), [], [])
theorem krM3_b : ((List.range 2).all fun k => ((List.range 5).all fun p => syeB swM sT0 (krM3_m k p) 400 0 280 (krM3_L k p) (krM3_S k p) (krM3_A k p) (krM3_P k p) (krM3_G k p) (krM3_B k p) 22 [krM3_e0 k p] [])) = true := by decide +kernel
theorem krM3 {l : Launch} {Γ : zG} {d : Nat} (hd : 0 ≤ d) {Kp : Option Value → zH → Prop} {lo : zL} {h : zH} {k : Nat} (h_k : k < 2) {p : Nat} (h_p : p < 5) {bb wa : Int} (hi : sInv swM h) (b_bb : 0 ≤ bb ∧ bb ≤ 4) (b_wa : 0 ≤ wa ∧ wa ≤ 15984) (l0 : zget lo 0 = some (.ref 0)) (l1 : zI lo 1 (k : Int)) (l2 : zI lo 2 bb) (l3 : zI lo 3 (p : Int)) {x_wa : Int32} (e_wa : x_wa.toInt = wa)
    (hE0 : ∀ (lo' : zL) (h' : zH) (y0 : Int32) (y1 : Int32) (y3 : Int32), sInv swM h' → sMd (krM3_m k p) h h' → zget lo' 0 = some (.ref 0) → zI lo' 1 (k : Int) → zI lo' 2 bb → zI lo' 3 (p : Int) → y0.toInt = bb → y1.toInt = (k : Int) → y3.toInt = wa → zX l Γ false (d + 1) (zhd 280) (zMQ' Γ false (zhd 280) Kp) 0 0 25 lo' [.int y0, .int y1, .ref 0, .int y3] h') : zX l Γ false (d + 1) (zhd 280) (zMQ' Γ false (zhd 280) Kp) 0 0 22 lo [.int x_wa] h := by
  refine sye_ok (mi := 280) (pc := 22) (fun i => [(k : Int), bb, (p : Int), wa].getD i 0) (zall_r (zall_r krM3_b h_k) h_p) (fun _ _ hc _ => nomatch hc) hd ⟨l0, zIm l1 (by show (k : Int) ≤ (k : Int); omega) (by show (k : Int) ≤ (k : Int); omega), zIm l2 (by show 0 ≤ bb; omega) (by show bb ≤ 4; omega), zIm l3 (by show (p : Int) ≤ (p : Int); omega) (by show (p : Int) ≤ (p : Int); omega), trivial⟩ ⟨x_wa, _, rfl, e_wa, ⟨by show 0 ≤ wa; omega, by show wa ≤ 15984; omega⟩, rfl⟩ ⟨(fun _ hc => nomatch hc), (fun _ hc => nomatch hc), (fun _ hc => nomatch hc), Or.inl rfl⟩ trivial trivial (fun _ hc => nomatch hc) hi ?_ ?_
  · intro e he lo' st' h' hp hi' hm
    rcases List.mem_cons.mp he with rfl | he
    · obtain ⟨p1, p2, -, hz⟩ := hp
      obtain ⟨⟨z1, z2, z3, z4⟩, z5, z6⟩ := hz
      have o0 : zget lo' 0 = some (.ref 0) := locR (p2 (0, .inr (.inl 0)) (List.mem_of_getElem? (i := 0) rfl))
      have o1 : zI lo' 1 (k : Int) := zI_of (p2 (1, .inl sf32) (List.mem_of_getElem? (i := 1) rfl)) (z3 (1, ([], (k : Int))) (List.mem_of_getElem? (i := 0) rfl)) (show 0 + (k : Int) = (k : Int) from by omega)
      have o2 : zI lo' 2 bb := zI_of (p2 (2, .inl sf32) (List.mem_of_getElem? (i := 2) rfl)) (z3 (2, ([(1, 1)], 0)) (List.mem_of_getElem? (i := 1) rfl)) (show (1 * bb + 0) + 0 = bb from by omega)
      have o3 : zI lo' 3 (p : Int) := zI_of (p2 (3, .inl sf32) (List.mem_of_getElem? (i := 3) rfl)) (z3 (3, ([], (p : Int))) (List.mem_of_getElem? (i := 2) rfl)) (show 0 + (p : Int) = (p : Int) from by omega)
      obtain ⟨_, _, rfl, ⟨y0, rfl, -⟩, p1⟩ := p1
      obtain ⟨_, _, rfl, ⟨y1, rfl, -⟩, p1⟩ := p1
      obtain ⟨_, _, rfl, hr, p1⟩ := p1
      have hr : _ = Value.ref 0 := hr
      subst hr
      obtain ⟨_, _, rfl, ⟨y3, rfl, -⟩, p1⟩ := p1
      have p1 : _ = [] := p1
      subst p1
      obtain ⟨v_, ev, hv⟩ := z2 (0, ([(1, 1)], 0)) (List.mem_of_getElem? (i := 0) rfl)
      cases ev
      have s0 : y0.toInt = bb := (show y0.toInt = (1 * bb + 0) + 0 from hv).trans (by omega)
      obtain ⟨v_, ev, hv⟩ := z2 (1, ([], (k : Int))) (List.mem_of_getElem? (i := 1) rfl)
      cases ev
      have s1 : y1.toInt = (k : Int) := (show y1.toInt = 0 + (k : Int) from hv).trans (by omega)
      obtain ⟨v_, ev, hv⟩ := z2 (3, ([(3, 1)], 0)) (List.mem_of_getElem? (i := 2) rfl)
      cases ev
      have s3 : y3.toInt = wa := (show y3.toInt = (1 * wa + 0) + 0 from hv).trans (by omega)
      exact hE0 lo' h' y0 y1 y3 hi' hm o0 o1 o2 o3 s0 s1 s3
    cases he
  · intro e he r' h' hp hi' hm
    cases he
def krM4_L (k : Nat) (p : Nat) : List (Nat × sT) := [(0, .inr (.inl 0)), (1, .inl ((k : Int), (k : Int))), (2, .inl (0, 4)), (3, .inl ((p : Int), (p : Int)))]
def krM4_S (k : Nat) (p : Nat) : List sT := [.inl (0, 15984), .inl (0, 15984)]
def krM4_A (k : Nat) (p : Nat) : sAs := ([], [], [], [])
def krM4_P (k : Nat) (p : Nat) : List sP0 := []
def krM4_G (k : Nat) (p : Nat) : List sP0 := []
def krM4_B (k : Nat) (p : Nat) : List (Nat × Nat × Int) := []
def krM4_m (k : Nat) (p : Nat) : sM := []
def krM4_e0 (k : Nat) (p : Nat) : sXe := (4, [], [(0, .inr (.inl 0)), (1, .inl sf32), (2, .inl sf32), (3, .inl sf32)], sA0, [], ([], [], [(1, ([], (k : Int))), (2, ([(1, 1)], 0)), (3, ([], ((p : Int) + 1)))], [([(3, 1), (4, (-1))], 0)]), [], [])
def krM4_e1 (k : Nat) (p : Nat) : sXe := (4, [], [(0, .inr (.inl 0)), (1, .inl sf32), (2, .inl sf32), (3, .inl sf32)], sA0, [], ([], [], [(1, ([], (k : Int))), (2, ([], (p : Int))), (3, ([], ((p : Int) + 1)))], [([(3, (-1)), (4, 1)], (-1))]), [], [])
theorem krM4_b : ((List.range 2).all fun k => ((List.range 5).all fun p => syeB swM sT0 (krM4_m k p) 400 0 280 (krM4_L k p) (krM4_S k p) (krM4_A k p) (krM4_P k p) (krM4_G k p) (krM4_B k p) 28 [krM4_e0 k p, krM4_e1 k p] [])) = true := by decide +kernel
theorem krM4 {l : Launch} {Γ : zG} {d : Nat} (hd : 0 ≤ d) {Kp : Option Value → zH → Prop} {lo : zL} {h : zH} {k : Nat} (h_k : k < 2) {p : Nat} (h_p : p < 5) {bb wb wa : Int} (hi : sInv swM h) (b_bb : 0 ≤ bb ∧ bb ≤ 4) (b_wb : 0 ≤ wb ∧ wb ≤ 15984) (b_wa : 0 ≤ wa ∧ wa ≤ 15984) (l0 : zget lo 0 = some (.ref 0)) (l1 : zI lo 1 (k : Int)) (l2 : zI lo 2 bb) (l3 : zI lo 3 (p : Int)) {x_wb : Int32} (e_wb : x_wb.toInt = wb) {x_wa : Int32} (e_wa : x_wa.toInt = wa)
    (hE0 : ∀ (lo' : zL) (h' : zH), sInv swM h' → sMd (krM4_m k p) h h' → 0 ≤ wb - wa → zget lo' 0 = some (.ref 0) → zI lo' 1 (k : Int) → zI lo' 2 bb → zI lo' 3 ((p : Int) + 1) → zX l Γ false (d + 1) (zhd 280) (zMQ' Γ false (zhd 280) Kp) 0 0 4 lo' [] h')
    (hE1 : ∀ (lo' : zL) (h' : zH), sInv swM h' → sMd (krM4_m k p) h h' → 0 ≤ -wb + wa - 1 → zget lo' 0 = some (.ref 0) → zI lo' 1 (k : Int) → zI lo' 2 (p : Int) → zI lo' 3 ((p : Int) + 1) → zX l Γ false (d + 1) (zhd 280) (zMQ' Γ false (zhd 280) Kp) 0 0 4 lo' [] h') : zX l Γ false (d + 1) (zhd 280) (zMQ' Γ false (zhd 280) Kp) 0 0 28 lo [.int x_wb, .int x_wa] h := by
  refine sye_ok (mi := 280) (pc := 28) (fun i => [(k : Int), bb, (p : Int), wb, wa].getD i 0) (zall_r (zall_r krM4_b h_k) h_p) (fun _ _ hc _ => nomatch hc) hd ⟨l0, zIm l1 (by show (k : Int) ≤ (k : Int); omega) (by show (k : Int) ≤ (k : Int); omega), zIm l2 (by show 0 ≤ bb; omega) (by show bb ≤ 4; omega), zIm l3 (by show (p : Int) ≤ (p : Int); omega) (by show (p : Int) ≤ (p : Int); omega), trivial⟩ ⟨x_wb, _, rfl, e_wb, ⟨by show 0 ≤ wb; omega, by show wb ≤ 15984; omega⟩, ⟨x_wa, _, rfl, e_wa, ⟨by show 0 ≤ wa; omega, by show wa ≤ 15984; omega⟩, rfl⟩⟩ ⟨(fun _ hc => nomatch hc), (fun _ hc => nomatch hc), (fun _ hc => nomatch hc), Or.inl rfl⟩ trivial trivial (fun _ hc => nomatch hc) hi ?_ ?_
  · intro e he lo' st' h' hp hi' hm
    rcases List.mem_cons.mp he with rfl | he
    · obtain ⟨p1, p2, -, hz⟩ := hp
      obtain ⟨⟨z1, z2, z3, z4⟩, z5, z6⟩ := hz
      have c0 : 0 ≤ wb - wa := by have q_ : (0 : Int) ≤ (1 * wb + ((-1) * wa + 0)) + 0 := z4 ([(3, 1), (4, (-1))], 0) (List.mem_of_getElem? (i := 0) rfl); omega
      have o0 : zget lo' 0 = some (.ref 0) := locR (p2 (0, .inr (.inl 0)) (List.mem_of_getElem? (i := 0) rfl))
      have o1 : zI lo' 1 (k : Int) := zI_of (p2 (1, .inl sf32) (List.mem_of_getElem? (i := 1) rfl)) (z3 (1, ([], (k : Int))) (List.mem_of_getElem? (i := 0) rfl)) (show 0 + (k : Int) = (k : Int) from by omega)
      have o2 : zI lo' 2 bb := zI_of (p2 (2, .inl sf32) (List.mem_of_getElem? (i := 2) rfl)) (z3 (2, ([(1, 1)], 0)) (List.mem_of_getElem? (i := 1) rfl)) (show (1 * bb + 0) + 0 = bb from by omega)
      have o3 : zI lo' 3 ((p : Int) + 1) := zI_of (p2 (3, .inl sf32) (List.mem_of_getElem? (i := 3) rfl)) (z3 (3, ([], ((p : Int) + 1))) (List.mem_of_getElem? (i := 2) rfl)) (show 0 + ((p : Int) + 1) = ((p : Int) + 1) from by omega)
      have p1 : _ = [] := p1
      subst p1
      exact hE0 lo' h' hi' hm c0 o0 o1 o2 o3
    rcases List.mem_cons.mp he with rfl | he
    · obtain ⟨p1, p2, -, hz⟩ := hp
      obtain ⟨⟨z1, z2, z3, z4⟩, z5, z6⟩ := hz
      have c0 : 0 ≤ -wb + wa - 1 := by have q_ : (0 : Int) ≤ ((-1) * wb + (1 * wa + 0)) + (-1) := z4 ([(3, (-1)), (4, 1)], (-1)) (List.mem_of_getElem? (i := 0) rfl); omega
      have o0 : zget lo' 0 = some (.ref 0) := locR (p2 (0, .inr (.inl 0)) (List.mem_of_getElem? (i := 0) rfl))
      have o1 : zI lo' 1 (k : Int) := zI_of (p2 (1, .inl sf32) (List.mem_of_getElem? (i := 1) rfl)) (z3 (1, ([], (k : Int))) (List.mem_of_getElem? (i := 0) rfl)) (show 0 + (k : Int) = (k : Int) from by omega)
      have o2 : zI lo' 2 (p : Int) := zI_of (p2 (2, .inl sf32) (List.mem_of_getElem? (i := 2) rfl)) (z3 (2, ([], (p : Int))) (List.mem_of_getElem? (i := 1) rfl)) (show 0 + (p : Int) = (p : Int) from by omega)
      have o3 : zI lo' 3 ((p : Int) + 1) := zI_of (p2 (3, .inl sf32) (List.mem_of_getElem? (i := 3) rfl)) (z3 (3, ([], ((p : Int) + 1))) (List.mem_of_getElem? (i := 2) rfl)) (show 0 + ((p : Int) + 1) = ((p : Int) + 1) from by omega)
      have p1 : _ = [] := p1
      subst p1
      exact hE1 lo' h' hi' hm c0 o0 o1 o2 o3
    cases he
  · intro e he r' h' hp hi' hm
    cases he
def krM5_L (k : Nat) (p : Nat) : List (Nat × sT) := [(0, .inr (.inl 0)), (1, .inl ((k : Int), (k : Int))), (2, .inl ((-1), 4)), (3, .inl ((p : Int), (p : Int)))]
def krM5_S (k : Nat) (p : Nat) : List sT := []
def krM5_A (k : Nat) (p : Nat) : sAs := ([], [], [], [])
def krM5_P (k : Nat) (p : Nat) : List sP0 := [(0, (none, 12), (0, (p : Int)))]
def krM5_G (k : Nat) (p : Nat) : List sP0 := []
def krM5_B (k : Nat) (p : Nat) : List (Nat × Nat × Int) := []
def krM5_m (k : Nat) (p : Nat) : sM := []
def krM5_r0 (k : Nat) (p : Nat) : sXr := (some (.inl sf32), sA0, [], ([], [(0, ([(1, 1)], 0))], [], []), [], [])
theorem krM5_b : ((List.range 2).all fun k => ((List.range 6).all fun p => syeB swM sT0 (krM5_m k p) 400 0 280 (krM5_L k p) (krM5_S k p) (krM5_A k p) (krM5_P k p) (krM5_G k p) (krM5_B k p) 4 [] [krM5_r0 k p])) = true := by decide +kernel
theorem krM5 {l : Launch} {Γ : zG} {d : Nat} (hd : 0 ≤ d) {Kp : Option Value → zH → Prop} {lo : zL} {h : zH} {k : Nat} (h_k : k < 2) {p : Nat} (h_p : p < 6) {bb n : Int} (hi : sInv swM h) (b_bb : (-1) ≤ bb ∧ bb ≤ 4) (b_n : 0 ≤ n ∧ n ≤ (p : Int)) (l0 : zget lo 0 = some (.ref 0)) (l1 : zI lo 1 (k : Int)) (l2 : zI lo 2 bb) (l3 : zI lo 3 (p : Int)) (p_n : pI h 0 12 = n)
    (hR0 : ∀ (h' : zH) (r_ : Int32), sInv swM h' → sMd (krM5_m k p) h h' → r_.toInt = bb → Kp (some (.int r_)) h') : zX l Γ false (d + 1) (zhd 280) (zMQ' Γ false (zhd 280) Kp) 0 0 4 lo [] h := by
  refine sye_ok (mi := 280) (pc := 4) (fun i => [(k : Int), bb, (p : Int), n].getD i 0) (zall_r (zall_r krM5_b h_k) h_p) (fun _ _ hc _ => nomatch hc) hd ⟨l0, zIm l1 (by show (k : Int) ≤ (k : Int); omega) (by show (k : Int) ≤ (k : Int); omega), zIm l2 (by show (-1) ≤ bb; omega) (by show bb ≤ 4; omega), zIm l3 (by show (p : Int) ≤ (p : Int); omega) (by show (p : Int) ≤ (p : Int); omega), trivial⟩ rfl ⟨(fun _ hc => nomatch hc), (fun _ hc => nomatch hc), (fun _ hc => nomatch hc), Or.inl rfl⟩ ⟨⟨p_n, by show 0 ≤ n; omega, by show n ≤ (p : Int); omega⟩, trivial⟩ trivial (fun _ hc => nomatch hc) hi ?_ ?_
  · intro e he lo' st' h' hp hi' hm
    cases he
  · intro e he r' h' hp hi' hm
    rcases List.mem_cons.mp he with rfl | he
    · obtain ⟨p1, -, hz⟩ := hp
      obtain ⟨⟨z1, z2, z3, z4⟩, z5, z6⟩ := hz
      obtain ⟨r_, rfl, hv⟩ := ansI p1 (z2 (0, ([(1, 1)], 0)) (List.mem_of_getElem? (i := 0) rfl))
      have s0 : r_.toInt = bb := (show r_.toInt = (1 * bb + 0) + 0 from hv).trans (by omega)
      exact hR0 h' r_ hi' hm s0
    cases he
def kqK0_L (t : Nat) : List sT := [.inr (.inl 0), .inl sf32]
def kqK0_A (t : Nat) : sAs := ([], [(0, 5, (17 * t + 9))], [], [])
def kqK0_P (t : Nat) : List sP0 := [((17 * t + 10), (none, 3), (0, 5))]
def kqK0_G (t : Nat) : List sP0 := []
def kqK0_B (t : Nat) : List (Nat × Nat × Int) := []
def kqK0_m (t : Nat) : sM := []
def kqK0_e0 (t : Nat) : sXe := (19, [.inl sf32, .inr (.inl (17 * t + 9)), .inr (.inl 43)], [(0, .inr (.inl 0)), (1, .inl sf32)], sA0, [], ([], [(0, ([(0, 1)], 0))], [(1, ([(0, 1)], 0))], [([(0, 1)], 0), ([(0, (-1)), (1, 1)], (-1))]), [], [])
def kqK0_r0 (t : Nat) : sXr := (some (.inl sf32), sA0, [], ([], [(0, ([], (-1)))], [], [([(0, (-1))], (-1))]), [], [])
def kqK0_r1 (t : Nat) : sXr := (some (.inl sf32), sA0, [], ([], [(0, ([], (-1)))], [], [([(0, 1)], 0), ([(0, 1), (1, (-1))], 0)]), [], [])
theorem kqK0_b : ((List.range 2).all fun t => syfB swC sT0 (kqK0_m t) 400 1 156 (kqK0_L t) (kqK0_A t) (kqK0_P t) (kqK0_G t) (kqK0_B t) [kqK0_e0 t] [kqK0_r0 t, kqK0_r1 t]) = true := by decide +kernel
theorem kqK0 {l : Launch} {Γ : zG} {d : Nat} (hd : 1 ≤ d) {Kp : Option Value → zH → Prop} {h : zH} {t : Nat} (h_t : t < 2) {x n : Int} (hi : sInv swC h) (b_x : (-2147483648) ≤ x ∧ x ≤ 2147483647) (b_n : 0 ≤ n ∧ n ≤ 5) {x_x : Int32} (e_x : x_x.toInt = x) (p_n : pI h (17 * t + 10) 3 = n) (q0 : h.2.2.2 0 5 = some (17 * t + 9))
    (hE0 : ∀ (lo' : zL) (h' : zH) (y0 : Int32), sInv swC h' → sMd (kqK0_m t) h h' → 0 ≤ x → 0 ≤ -x + n - 1 → zget lo' 0 = some (.ref 0) → zI lo' 1 x → y0.toInt = x → zX l Γ false (d + 1) (zhd 156) (zMQ' Γ false (zhd 156) Kp) 0 0 19 lo' [.int y0, .ref (17 * t + 9), .ref 43] h')
    (hR0 : ∀ (h' : zH) (r_ : Int32), sInv swC h' → sMd (kqK0_m t) h h' → 0 ≤ -x - 1 → r_.toInt = (-1) → Kp (some (.int r_)) h')
    (hR1 : ∀ (h' : zH) (r_ : Int32), sInv swC h' → sMd (kqK0_m t) h h' → 0 ≤ x → 0 ≤ x - n → r_.toInt = (-1) → Kp (some (.int r_)) h') : zSem l Γ false (d + 1) (zhd 156) [.ref 0, .int x_x] h Kp := by
  refine syf_ok (mi := 156) (fun i => [x, n].getD i 0) (zall_r kqK0_b h_t) (fun _ _ hc _ => nomatch hc) hd ⟨_, _, rfl, rfl, ⟨_, _, rfl, ⟨x_x, rfl, by show (-2147483648) ≤ x_x.toInt; omega, by show x_x.toInt ≤ 2147483647; omega⟩, rfl⟩⟩ ⟨rfl, ⟨x_x, rfl, e_x, by show (-2147483648) ≤ x; omega, by show x ≤ 2147483647; omega⟩, trivial⟩ ⟨(fun _ hc => nomatch hc), (sfm q0 (fun _ hc => nomatch hc)), (fun _ hc => nomatch hc), Or.inl rfl⟩ ⟨⟨p_n, by show 0 ≤ n; omega, by show n ≤ 5; omega⟩, trivial⟩ trivial (fun _ hc => nomatch hc) hi ?_ ?_
  · intro e he lo' st' h' hp hi' hm
    rcases List.mem_cons.mp he with rfl | he
    · obtain ⟨p1, p2, -, hz⟩ := hp
      obtain ⟨⟨z1, z2, z3, z4⟩, z5, z6⟩ := hz
      have c0 : 0 ≤ x := by have q_ : (0 : Int) ≤ (1 * x + 0) + 0 := z4 ([(0, 1)], 0) (List.mem_of_getElem? (i := 0) rfl); omega
      have c1 : 0 ≤ -x + n - 1 := by have q_ : (0 : Int) ≤ ((-1) * x + (1 * n + 0)) + (-1) := z4 ([(0, (-1)), (1, 1)], (-1)) (List.mem_of_getElem? (i := 1) rfl); omega
      have o0 : zget lo' 0 = some (.ref 0) := locR (p2 (0, .inr (.inl 0)) (List.mem_of_getElem? (i := 0) rfl))
      have o1 : zI lo' 1 x := zI_of (p2 (1, .inl sf32) (List.mem_of_getElem? (i := 1) rfl)) (z3 (1, ([(0, 1)], 0)) (List.mem_of_getElem? (i := 0) rfl)) (show (1 * x + 0) + 0 = x from by omega)
      obtain ⟨_, _, rfl, ⟨y0, rfl, -⟩, p1⟩ := p1
      obtain ⟨_, _, rfl, hr, p1⟩ := p1
      have hr : _ = Value.ref (17 * t + 9) := hr
      subst hr
      obtain ⟨_, _, rfl, hr, p1⟩ := p1
      have hr : _ = Value.ref 43 := hr
      subst hr
      have p1 : _ = [] := p1
      subst p1
      obtain ⟨v_, ev, hv⟩ := z2 (0, ([(0, 1)], 0)) (List.mem_of_getElem? (i := 0) rfl)
      cases ev
      have s0 : y0.toInt = x := (show y0.toInt = (1 * x + 0) + 0 from hv).trans (by omega)
      exact hE0 lo' h' y0 hi' hm c0 c1 o0 o1 s0
    cases he
  · intro e he r' h' hp hi' hm
    rcases List.mem_cons.mp he with rfl | he
    · obtain ⟨p1, -, hz⟩ := hp
      obtain ⟨⟨z1, z2, z3, z4⟩, z5, z6⟩ := hz
      have c0 : 0 ≤ -x - 1 := by have q_ : (0 : Int) ≤ ((-1) * x + 0) + (-1) := z4 ([(0, (-1))], (-1)) (List.mem_of_getElem? (i := 0) rfl); omega
      obtain ⟨r_, rfl, hv⟩ := ansI p1 (z2 (0, ([], (-1))) (List.mem_of_getElem? (i := 0) rfl))
      have s0 : r_.toInt = (-1) := (show r_.toInt = 0 + (-1) from hv).trans (by omega)
      exact hR0 h' r_ hi' hm c0 s0
    rcases List.mem_cons.mp he with rfl | he
    · obtain ⟨p1, -, hz⟩ := hp
      obtain ⟨⟨z1, z2, z3, z4⟩, z5, z6⟩ := hz
      have c0 : 0 ≤ x := by have q_ : (0 : Int) ≤ (1 * x + 0) + 0 := z4 ([(0, 1)], 0) (List.mem_of_getElem? (i := 0) rfl); omega
      have c1 : 0 ≤ x - n := by have q_ : (0 : Int) ≤ (1 * x + ((-1) * n + 0)) + 0 := z4 ([(0, 1), (1, (-1))], 0) (List.mem_of_getElem? (i := 1) rfl); omega
      obtain ⟨r_, rfl, hv⟩ := ansI p1 (z2 (0, ([], (-1))) (List.mem_of_getElem? (i := 0) rfl))
      have s0 : r_.toInt = (-1) := (show r_.toInt = 0 + (-1) from hv).trans (by omega)
      exact hR1 h' r_ hi' hm c0 c1 s0
    cases he
def kqK1_L : List (Nat × sT) := [(0, .inr (.inl 0)), (1, .inl (0, 4))]
def kqK1_S : List sT := [.inl (0, 15984)]
def kqK1_A : sAs := ([], [], [], [])
def kqK1_P : List sP0 := []
def kqK1_G : List sP0 := []
def kqK1_B : List (Nat × Nat × Int) := []
def kqK1_m : sM := []
def kqK1_e0 : sXe := (28, [], [(0, .inr (.inl 0)), (1, .inl sf32), (2, .inl sf32), (3, .inl sf32), (4, .inl sf32)], sA0, [], ([], [], [(1, ([(0, 1)], 0)), (2, ([(1, 1)], 0)), (3, ([], 0)), (4, ([], 0))], []), [], [])
theorem kqK1_b : syeB swC sT0 kqK1_m 400 0 156 kqK1_L kqK1_S kqK1_A kqK1_P kqK1_G kqK1_B 22 [kqK1_e0] [] = true := by decide +kernel
theorem kqK1 {l : Launch} {Γ : zG} {d : Nat} (hd : 0 ≤ d) {Kp : Option Value → zH → Prop} {lo : zL} {h : zH} {x v : Int} (hi : sInv swC h) (b_x : 0 ≤ x ∧ x ≤ 4) (b_v : 0 ≤ v ∧ v ≤ 15984) (l0 : zget lo 0 = some (.ref 0)) (l1 : zI lo 1 x) {x_v : Int32} (e_v : x_v.toInt = v)
    (hE0 : ∀ (lo' : zL) (h' : zH), sInv swC h' → sMd kqK1_m h h' → zget lo' 0 = some (.ref 0) → zI lo' 1 x → zI lo' 2 v → zI lo' 3 0 → zI lo' 4 0 → zX l Γ false (d + 1) (zhd 156) (zMQ' Γ false (zhd 156) Kp) 0 0 28 lo' [] h') : zX l Γ false (d + 1) (zhd 156) (zMQ' Γ false (zhd 156) Kp) 0 0 22 lo [.int x_v] h := by
  refine sye_ok (mi := 156) (pc := 22) (fun i => [x, v].getD i 0) kqK1_b (fun _ _ hc _ => nomatch hc) hd ⟨l0, zIm l1 (by show 0 ≤ x; omega) (by show x ≤ 4; omega), trivial⟩ ⟨x_v, _, rfl, e_v, ⟨by show 0 ≤ v; omega, by show v ≤ 15984; omega⟩, rfl⟩ ⟨(fun _ hc => nomatch hc), (fun _ hc => nomatch hc), (fun _ hc => nomatch hc), Or.inl rfl⟩ trivial trivial (fun _ hc => nomatch hc) hi ?_ ?_
  · intro e he lo' st' h' hp hi' hm
    rcases List.mem_cons.mp he with rfl | he
    · obtain ⟨p1, p2, -, hz⟩ := hp
      obtain ⟨⟨z1, z2, z3, z4⟩, z5, z6⟩ := hz
      have o0 : zget lo' 0 = some (.ref 0) := locR (p2 (0, .inr (.inl 0)) (List.mem_of_getElem? (i := 0) rfl))
      have o1 : zI lo' 1 x := zI_of (p2 (1, .inl sf32) (List.mem_of_getElem? (i := 1) rfl)) (z3 (1, ([(0, 1)], 0)) (List.mem_of_getElem? (i := 0) rfl)) (show (1 * x + 0) + 0 = x from by omega)
      have o2 : zI lo' 2 v := zI_of (p2 (2, .inl sf32) (List.mem_of_getElem? (i := 2) rfl)) (z3 (2, ([(1, 1)], 0)) (List.mem_of_getElem? (i := 1) rfl)) (show (1 * v + 0) + 0 = v from by omega)
      have o3 : zI lo' 3 0 := zI_of (p2 (3, .inl sf32) (List.mem_of_getElem? (i := 3) rfl)) (z3 (3, ([], 0)) (List.mem_of_getElem? (i := 2) rfl)) (show 0 + 0 = 0 from by omega)
      have o4 : zI lo' 4 0 := zI_of (p2 (4, .inl sf32) (List.mem_of_getElem? (i := 4) rfl)) (z3 (4, ([], 0)) (List.mem_of_getElem? (i := 3) rfl)) (show 0 + 0 = 0 from by omega)
      have p1 : _ = [] := p1
      subst p1
      exact hE0 lo' h' hi' hm o0 o1 o2 o3 o4
    cases he
  · intro e he r' h' hp hi' hm
    cases he
def kqK2_L (p : Nat) (t : Nat) : List (Nat × sT) := [(0, .inr (.inl 0)), (1, .inl (0, 4)), (2, .inl (0, 15984)), (3, .inl (0, 5)), (4, .inl ((p : Int), (p : Int)))]
def kqK2_S (p : Nat) (t : Nat) : List sT := []
def kqK2_A (p : Nat) (t : Nat) : sAs := ([], [(0, 5, (17 * t + 9))], [], [])
def kqK2_P (p : Nat) (t : Nat) : List sP0 := [((17 * t + 10), (none, 3), (((p : Int) + 1), 5))]
def kqK2_G (p : Nat) (t : Nat) : List sP0 := []
def kqK2_B (p : Nat) (t : Nat) : List (Nat × Nat × Int) := []
def kqK2_m (p : Nat) (t : Nat) : sM := []
def kqK2_e0 (p : Nat) (t : Nat) : sXe := (53, [.inl sf32, .inr (.inl (17 * t + 9)), .inr (.inl 43)], [(0, .inr (.inl 0)), (1, .inl sf32), (2, .inl sf32), (3, .inl sf32), (4, .inl sf32)], sA0, [], ([], [(0, ([], (p : Int)))], [(1, ([(0, 1)], 0)), (2, ([(1, 1)], 0)), (3, ([(2, 1)], 0)), (4, ([], (p : Int)))], []), [], [])
theorem kqK2_b : ((List.range 5).all fun p => ((List.range 2).all fun t => syeB swC sT0 (kqK2_m p t) 400 0 156 (kqK2_L p t) (kqK2_S p t) (kqK2_A p t) (kqK2_P p t) (kqK2_G p t) (kqK2_B p t) 28 [kqK2_e0 p t] [])) = true := by decide +kernel
theorem kqK2 {l : Launch} {Γ : zG} {d : Nat} (hd : 0 ≤ d) {Kp : Option Value → zH → Prop} {lo : zL} {h : zH} {p : Nat} (h_p : p < 5) {t : Nat} (h_t : t < 2) {x wx cc n : Int} (hi : sInv swC h) (b_x : 0 ≤ x ∧ x ≤ 4) (b_wx : 0 ≤ wx ∧ wx ≤ 15984) (b_cc : 0 ≤ cc ∧ cc ≤ 5) (b_n : ((p : Int) + 1) ≤ n ∧ n ≤ 5) (l0 : zget lo 0 = some (.ref 0)) (l1 : zI lo 1 x) (l2 : zI lo 2 wx) (l3 : zI lo 3 cc) (l4 : zI lo 4 (p : Int)) (p_n : pI h (17 * t + 10) 3 = n) (q0 : h.2.2.2 0 5 = some (17 * t + 9))
    (hE0 : ∀ (lo' : zL) (h' : zH) (y0 : Int32), sInv swC h' → sMd (kqK2_m p t) h h' → zget lo' 0 = some (.ref 0) → zI lo' 1 x → zI lo' 2 wx → zI lo' 3 cc → zI lo' 4 (p : Int) → y0.toInt = (p : Int) → zX l Γ false (d + 1) (zhd 156) (zMQ' Γ false (zhd 156) Kp) 0 0 53 lo' [.int y0, .ref (17 * t + 9), .ref 43] h') : zX l Γ false (d + 1) (zhd 156) (zMQ' Γ false (zhd 156) Kp) 0 0 28 lo [] h := by
  refine sye_ok (mi := 156) (pc := 28) (fun i => [x, wx, cc, (p : Int), n].getD i 0) (zall_r (zall_r kqK2_b h_p) h_t) (fun _ _ hc _ => nomatch hc) hd ⟨l0, zIm l1 (by show 0 ≤ x; omega) (by show x ≤ 4; omega), zIm l2 (by show 0 ≤ wx; omega) (by show wx ≤ 15984; omega), zIm l3 (by show 0 ≤ cc; omega) (by show cc ≤ 5; omega), zIm l4 (by show (p : Int) ≤ (p : Int); omega) (by show (p : Int) ≤ (p : Int); omega), trivial⟩ rfl ⟨(fun _ hc => nomatch hc), (sfm q0 (fun _ hc => nomatch hc)), (fun _ hc => nomatch hc), Or.inl rfl⟩ ⟨⟨p_n, by show ((p : Int) + 1) ≤ n; omega, by show n ≤ 5; omega⟩, trivial⟩ trivial (fun _ hc => nomatch hc) hi ?_ ?_
  · intro e he lo' st' h' hp hi' hm
    rcases List.mem_cons.mp he with rfl | he
    · obtain ⟨p1, p2, -, hz⟩ := hp
      obtain ⟨⟨z1, z2, z3, z4⟩, z5, z6⟩ := hz
      have o0 : zget lo' 0 = some (.ref 0) := locR (p2 (0, .inr (.inl 0)) (List.mem_of_getElem? (i := 0) rfl))
      have o1 : zI lo' 1 x := zI_of (p2 (1, .inl sf32) (List.mem_of_getElem? (i := 1) rfl)) (z3 (1, ([(0, 1)], 0)) (List.mem_of_getElem? (i := 0) rfl)) (show (1 * x + 0) + 0 = x from by omega)
      have o2 : zI lo' 2 wx := zI_of (p2 (2, .inl sf32) (List.mem_of_getElem? (i := 2) rfl)) (z3 (2, ([(1, 1)], 0)) (List.mem_of_getElem? (i := 1) rfl)) (show (1 * wx + 0) + 0 = wx from by omega)
      have o3 : zI lo' 3 cc := zI_of (p2 (3, .inl sf32) (List.mem_of_getElem? (i := 3) rfl)) (z3 (3, ([(2, 1)], 0)) (List.mem_of_getElem? (i := 2) rfl)) (show (1 * cc + 0) + 0 = cc from by omega)
      have o4 : zI lo' 4 (p : Int) := zI_of (p2 (4, .inl sf32) (List.mem_of_getElem? (i := 4) rfl)) (z3 (4, ([], (p : Int))) (List.mem_of_getElem? (i := 3) rfl)) (show 0 + (p : Int) = (p : Int) from by omega)
      obtain ⟨_, _, rfl, ⟨y0, rfl, -⟩, p1⟩ := p1
      obtain ⟨_, _, rfl, hr, p1⟩ := p1
      have hr : _ = Value.ref (17 * t + 9) := hr
      subst hr
      obtain ⟨_, _, rfl, hr, p1⟩ := p1
      have hr : _ = Value.ref 43 := hr
      subst hr
      have p1 : _ = [] := p1
      subst p1
      obtain ⟨v_, ev, hv⟩ := z2 (0, ([], (p : Int))) (List.mem_of_getElem? (i := 0) rfl)
      cases ev
      have s0 : y0.toInt = (p : Int) := (show y0.toInt = 0 + (p : Int) from hv).trans (by omega)
      exact hE0 lo' h' y0 hi' hm o0 o1 o2 o3 o4 s0
    cases he
  · intro e he r' h' hp hi' hm
    cases he
def kqK3_L : List (Nat × sT) := [(0, .inr (.inl 0)), (1, .inl (0, 4)), (2, .inl (0, 15984)), (3, .inl (0, 5)), (4, .inl (0, 4))]
def kqK3_S : List sT := [.inl (0, 15984)]
def kqK3_A : sAs := ([], [], [], [])
def kqK3_P : List sP0 := []
def kqK3_G : List sP0 := []
def kqK3_B : List (Nat × Nat × Int) := []
def kqK3_m : sM := []
def kqK3_e0 : sXe := (28, [], [(0, .inr (.inl 0)), (1, .inl sf32), (2, .inl sf32), (3, .inl sf32), (4, .inl sf32)], sA0, [], ([], [], [(1, ([(0, 1)], 0)), (2, ([(1, 1)], 0)), (3, ([(2, 1)], 1)), (4, ([(3, 1)], 1))], [([(1, (-1)), (4, 1)], (-1))]), [], [])
def kqK3_e1 : sXe := (28, [], [(0, .inr (.inl 0)), (1, .inl sf32), (2, .inl sf32), (3, .inl sf32), (4, .inl sf32)], sA0, [], ([], [], [(1, ([(0, 1)], 0)), (2, ([(1, 1)], 0)), (3, ([(2, 1)], 0)), (4, ([(3, 1)], 1))], [([(1, 1), (4, (-1))], 0), ([(0, (-1)), (3, 1)], 0), ([(1, (-1)), (4, 1)], 0), ([(1, 1), (4, (-1))], 0)]), [], [])
def kqK3_e2 : sXe := (28, [], [(0, .inr (.inl 0)), (1, .inl sf32), (2, .inl sf32), (3, .inl sf32), (4, .inl sf32)], sA0, [], ([], [], [(1, ([(0, 1)], 0)), (2, ([(1, 1)], 0)), (3, ([(2, 1)], 1)), (4, ([(3, 1)], 1))], [([(1, 1), (4, (-1))], 0), ([(0, 1), (3, (-1))], (-1)), ([(1, (-1)), (4, 1)], 0), ([(1, 1), (4, (-1))], 0)]), [], [])
def kqK3_e3 : sXe := (28, [], [(0, .inr (.inl 0)), (1, .inl sf32), (2, .inl sf32), (3, .inl sf32), (4, .inl sf32)], sA0, [], ([], [], [(1, ([(0, 1)], 0)), (2, ([(1, 1)], 0)), (3, ([(2, 1)], 0)), (4, ([(3, 1)], 1))], [([(1, 1), (4, (-1))], 0)]), [(([(4, 1)], 0), ([(1, 1)], 0))], [])
theorem kqK3_b : syeB swC sT0 kqK3_m 400 0 156 kqK3_L kqK3_S kqK3_A kqK3_P kqK3_G kqK3_B 56 [kqK3_e0, kqK3_e1, kqK3_e2, kqK3_e3] [] = true := by decide +kernel
theorem kqK3 {l : Launch} {Γ : zG} {d : Nat} (hd : 0 ≤ d) {Kp : Option Value → zH → Prop} {lo : zL} {h : zH} {x wx cc pp v : Int} (hi : sInv swC h) (b_x : 0 ≤ x ∧ x ≤ 4) (b_wx : 0 ≤ wx ∧ wx ≤ 15984) (b_cc : 0 ≤ cc ∧ cc ≤ 5) (b_pp : 0 ≤ pp ∧ pp ≤ 4) (b_v : 0 ≤ v ∧ v ≤ 15984) (l0 : zget lo 0 = some (.ref 0)) (l1 : zI lo 1 x) (l2 : zI lo 2 wx) (l3 : zI lo 3 cc) (l4 : zI lo 4 pp) {x_v : Int32} (e_v : x_v.toInt = v)
    (hE0 : ∀ (lo' : zL) (h' : zH), sInv swC h' → sMd kqK3_m h h' → 0 ≤ -wx + v - 1 → zget lo' 0 = some (.ref 0) → zI lo' 1 x → zI lo' 2 wx → zI lo' 3 (cc + 1) → zI lo' 4 (pp + 1) → zX l Γ false (d + 1) (zhd 156) (zMQ' Γ false (zhd 156) Kp) 0 0 28 lo' [] h')
    (hE1 : ∀ (lo' : zL) (h' : zH), sInv swC h' → sMd kqK3_m h h' → 0 ≤ wx - v → 0 ≤ -x + pp → v = wx → zget lo' 0 = some (.ref 0) → zI lo' 1 x → zI lo' 2 wx → zI lo' 3 cc → zI lo' 4 (pp + 1) → zX l Γ false (d + 1) (zhd 156) (zMQ' Γ false (zhd 156) Kp) 0 0 28 lo' [] h')
    (hE2 : ∀ (lo' : zL) (h' : zH), sInv swC h' → sMd kqK3_m h h' → 0 ≤ wx - v → 0 ≤ x - pp - 1 → v = wx → zget lo' 0 = some (.ref 0) → zI lo' 1 x → zI lo' 2 wx → zI lo' 3 (cc + 1) → zI lo' 4 (pp + 1) → zX l Γ false (d + 1) (zhd 156) (zMQ' Γ false (zhd 156) Kp) 0 0 28 lo' [] h')
    (hE3 : ∀ (lo' : zL) (h' : zH), sInv swC h' → sMd kqK3_m h h' → 0 ≤ wx - v → v ≠ wx → zget lo' 0 = some (.ref 0) → zI lo' 1 x → zI lo' 2 wx → zI lo' 3 cc → zI lo' 4 (pp + 1) → zX l Γ false (d + 1) (zhd 156) (zMQ' Γ false (zhd 156) Kp) 0 0 28 lo' [] h') : zX l Γ false (d + 1) (zhd 156) (zMQ' Γ false (zhd 156) Kp) 0 0 56 lo [.int x_v] h := by
  refine sye_ok (mi := 156) (pc := 56) (fun i => [x, wx, cc, pp, v].getD i 0) kqK3_b (fun _ _ hc _ => nomatch hc) hd ⟨l0, zIm l1 (by show 0 ≤ x; omega) (by show x ≤ 4; omega), zIm l2 (by show 0 ≤ wx; omega) (by show wx ≤ 15984; omega), zIm l3 (by show 0 ≤ cc; omega) (by show cc ≤ 5; omega), zIm l4 (by show 0 ≤ pp; omega) (by show pp ≤ 4; omega), trivial⟩ ⟨x_v, _, rfl, e_v, ⟨by show 0 ≤ v; omega, by show v ≤ 15984; omega⟩, rfl⟩ ⟨(fun _ hc => nomatch hc), (fun _ hc => nomatch hc), (fun _ hc => nomatch hc), Or.inl rfl⟩ trivial trivial (fun _ hc => nomatch hc) hi ?_ ?_
  · intro e he lo' st' h' hp hi' hm
    rcases List.mem_cons.mp he with rfl | he
    · obtain ⟨p1, p2, -, hz⟩ := hp
      obtain ⟨⟨z1, z2, z3, z4⟩, z5, z6⟩ := hz
      have c0 : 0 ≤ -wx + v - 1 := by have q_ : (0 : Int) ≤ ((-1) * wx + (1 * v + 0)) + (-1) := z4 ([(1, (-1)), (4, 1)], (-1)) (List.mem_of_getElem? (i := 0) rfl); omega
      have o0 : zget lo' 0 = some (.ref 0) := locR (p2 (0, .inr (.inl 0)) (List.mem_of_getElem? (i := 0) rfl))
      have o1 : zI lo' 1 x := zI_of (p2 (1, .inl sf32) (List.mem_of_getElem? (i := 1) rfl)) (z3 (1, ([(0, 1)], 0)) (List.mem_of_getElem? (i := 0) rfl)) (show (1 * x + 0) + 0 = x from by omega)
      have o2 : zI lo' 2 wx := zI_of (p2 (2, .inl sf32) (List.mem_of_getElem? (i := 2) rfl)) (z3 (2, ([(1, 1)], 0)) (List.mem_of_getElem? (i := 1) rfl)) (show (1 * wx + 0) + 0 = wx from by omega)
      have o3 : zI lo' 3 (cc + 1) := zI_of (p2 (3, .inl sf32) (List.mem_of_getElem? (i := 3) rfl)) (z3 (3, ([(2, 1)], 1)) (List.mem_of_getElem? (i := 2) rfl)) (show (1 * cc + 0) + 1 = cc + 1 from by omega)
      have o4 : zI lo' 4 (pp + 1) := zI_of (p2 (4, .inl sf32) (List.mem_of_getElem? (i := 4) rfl)) (z3 (4, ([(3, 1)], 1)) (List.mem_of_getElem? (i := 3) rfl)) (show (1 * pp + 0) + 1 = pp + 1 from by omega)
      have p1 : _ = [] := p1
      subst p1
      exact hE0 lo' h' hi' hm c0 o0 o1 o2 o3 o4
    rcases List.mem_cons.mp he with rfl | he
    · obtain ⟨p1, p2, -, hz⟩ := hp
      obtain ⟨⟨z1, z2, z3, z4⟩, z5, z6⟩ := hz
      have c0 : 0 ≤ wx - v := by have q_ : (0 : Int) ≤ (1 * wx + ((-1) * v + 0)) + 0 := z4 ([(1, 1), (4, (-1))], 0) (List.mem_of_getElem? (i := 0) rfl); omega
      have c1 : 0 ≤ -x + pp := by have q_ : (0 : Int) ≤ ((-1) * x + (1 * pp + 0)) + 0 := z4 ([(0, (-1)), (3, 1)], 0) (List.mem_of_getElem? (i := 1) rfl); omega
      have c2 : v = wx := by have q_ : (0 : Int) ≤ ((-1) * wx + (1 * v + 0)) + 0 := z4 ([(1, (-1)), (4, 1)], 0) (List.mem_of_getElem? (i := 2) rfl); have q2_ : (0 : Int) ≤ (1 * wx + ((-1) * v + 0)) + 0 := z4 ([(1, 1), (4, (-1))], 0) (List.mem_of_getElem? (i := 3) rfl); omega
      have o0 : zget lo' 0 = some (.ref 0) := locR (p2 (0, .inr (.inl 0)) (List.mem_of_getElem? (i := 0) rfl))
      have o1 : zI lo' 1 x := zI_of (p2 (1, .inl sf32) (List.mem_of_getElem? (i := 1) rfl)) (z3 (1, ([(0, 1)], 0)) (List.mem_of_getElem? (i := 0) rfl)) (show (1 * x + 0) + 0 = x from by omega)
      have o2 : zI lo' 2 wx := zI_of (p2 (2, .inl sf32) (List.mem_of_getElem? (i := 2) rfl)) (z3 (2, ([(1, 1)], 0)) (List.mem_of_getElem? (i := 1) rfl)) (show (1 * wx + 0) + 0 = wx from by omega)
      have o3 : zI lo' 3 cc := zI_of (p2 (3, .inl sf32) (List.mem_of_getElem? (i := 3) rfl)) (z3 (3, ([(2, 1)], 0)) (List.mem_of_getElem? (i := 2) rfl)) (show (1 * cc + 0) + 0 = cc from by omega)
      have o4 : zI lo' 4 (pp + 1) := zI_of (p2 (4, .inl sf32) (List.mem_of_getElem? (i := 4) rfl)) (z3 (4, ([(3, 1)], 1)) (List.mem_of_getElem? (i := 3) rfl)) (show (1 * pp + 0) + 1 = pp + 1 from by omega)
      have p1 : _ = [] := p1
      subst p1
      exact hE1 lo' h' hi' hm c0 c1 c2 o0 o1 o2 o3 o4
    rcases List.mem_cons.mp he with rfl | he
    · obtain ⟨p1, p2, -, hz⟩ := hp
      obtain ⟨⟨z1, z2, z3, z4⟩, z5, z6⟩ := hz
      have c0 : 0 ≤ wx - v := by have q_ : (0 : Int) ≤ (1 * wx + ((-1) * v + 0)) + 0 := z4 ([(1, 1), (4, (-1))], 0) (List.mem_of_getElem? (i := 0) rfl); omega
      have c1 : 0 ≤ x - pp - 1 := by have q_ : (0 : Int) ≤ (1 * x + ((-1) * pp + 0)) + (-1) := z4 ([(0, 1), (3, (-1))], (-1)) (List.mem_of_getElem? (i := 1) rfl); omega
      have c2 : v = wx := by have q_ : (0 : Int) ≤ ((-1) * wx + (1 * v + 0)) + 0 := z4 ([(1, (-1)), (4, 1)], 0) (List.mem_of_getElem? (i := 2) rfl); have q2_ : (0 : Int) ≤ (1 * wx + ((-1) * v + 0)) + 0 := z4 ([(1, 1), (4, (-1))], 0) (List.mem_of_getElem? (i := 3) rfl); omega
      have o0 : zget lo' 0 = some (.ref 0) := locR (p2 (0, .inr (.inl 0)) (List.mem_of_getElem? (i := 0) rfl))
      have o1 : zI lo' 1 x := zI_of (p2 (1, .inl sf32) (List.mem_of_getElem? (i := 1) rfl)) (z3 (1, ([(0, 1)], 0)) (List.mem_of_getElem? (i := 0) rfl)) (show (1 * x + 0) + 0 = x from by omega)
      have o2 : zI lo' 2 wx := zI_of (p2 (2, .inl sf32) (List.mem_of_getElem? (i := 2) rfl)) (z3 (2, ([(1, 1)], 0)) (List.mem_of_getElem? (i := 1) rfl)) (show (1 * wx + 0) + 0 = wx from by omega)
      have o3 : zI lo' 3 (cc + 1) := zI_of (p2 (3, .inl sf32) (List.mem_of_getElem? (i := 3) rfl)) (z3 (3, ([(2, 1)], 1)) (List.mem_of_getElem? (i := 2) rfl)) (show (1 * cc + 0) + 1 = cc + 1 from by omega)
      have o4 : zI lo' 4 (pp + 1) := zI_of (p2 (4, .inl sf32) (List.mem_of_getElem? (i := 4) rfl)) (z3 (4, ([(3, 1)], 1)) (List.mem_of_getElem? (i := 3) rfl)) (show (1 * pp + 0) + 1 = pp + 1 from by omega)
      have p1 : _ = [] := p1
      subst p1
      exact hE2 lo' h' hi' hm c0 c1 c2 o0 o1 o2 o3 o4
    rcases List.mem_cons.mp he with rfl | he
    · obtain ⟨p1, p2, -, hz⟩ := hp
      obtain ⟨⟨z1, z2, z3, z4⟩, z5, z6⟩ := hz
      have c0 : 0 ≤ wx - v := by have q_ : (0 : Int) ≤ (1 * wx + ((-1) * v + 0)) + 0 := z4 ([(1, 1), (4, (-1))], 0) (List.mem_of_getElem? (i := 0) rfl); omega
      have n0 : v ≠ wx := fun e_ => z5 (([(4, 1)], 0), ([(1, 1)], 0)) (List.mem_of_getElem? (i := 0) rfl) (by show (1 * v + 0) + 0 = (1 * wx + 0) + 0; omega)
      have o0 : zget lo' 0 = some (.ref 0) := locR (p2 (0, .inr (.inl 0)) (List.mem_of_getElem? (i := 0) rfl))
      have o1 : zI lo' 1 x := zI_of (p2 (1, .inl sf32) (List.mem_of_getElem? (i := 1) rfl)) (z3 (1, ([(0, 1)], 0)) (List.mem_of_getElem? (i := 0) rfl)) (show (1 * x + 0) + 0 = x from by omega)
      have o2 : zI lo' 2 wx := zI_of (p2 (2, .inl sf32) (List.mem_of_getElem? (i := 2) rfl)) (z3 (2, ([(1, 1)], 0)) (List.mem_of_getElem? (i := 1) rfl)) (show (1 * wx + 0) + 0 = wx from by omega)
      have o3 : zI lo' 3 cc := zI_of (p2 (3, .inl sf32) (List.mem_of_getElem? (i := 3) rfl)) (z3 (3, ([(2, 1)], 0)) (List.mem_of_getElem? (i := 2) rfl)) (show (1 * cc + 0) + 0 = cc from by omega)
      have o4 : zI lo' 4 (pp + 1) := zI_of (p2 (4, .inl sf32) (List.mem_of_getElem? (i := 4) rfl)) (z3 (4, ([(3, 1)], 1)) (List.mem_of_getElem? (i := 3) rfl)) (show (1 * pp + 0) + 1 = pp + 1 from by omega)
      have p1 : _ = [] := p1
      subst p1
      exact hE3 lo' h' hi' hm c0 n0 o0 o1 o2 o3 o4
    cases he
  · intro e he r' h' hp hi' hm
    cases he
def kqK4_L (p : Nat) (t : Nat) : List (Nat × sT) := [(0, .inr (.inl 0)), (1, .inl (0, 4)), (2, .inl (0, 15984)), (3, .inl (0, 5)), (4, .inl ((p : Int), (p : Int)))]
def kqK4_S (p : Nat) (t : Nat) : List sT := []
def kqK4_A (p : Nat) (t : Nat) : sAs := ([], [(0, 5, (17 * t + 9))], [], [])
def kqK4_P (p : Nat) (t : Nat) : List sP0 := [((17 * t + 10), (none, 3), (0, (p : Int)))]
def kqK4_G (p : Nat) (t : Nat) : List sP0 := []
def kqK4_B (p : Nat) (t : Nat) : List (Nat × Nat × Int) := []
def kqK4_m (p : Nat) (t : Nat) : sM := []
def kqK4_r0 (p : Nat) (t : Nat) : sXr := (some (.inl sf32), sA0, [], ([], [(0, ([(2, 1)], 0))], [], []), [], [])
theorem kqK4_b : ((List.range 6).all fun p => ((List.range 2).all fun t => syeB swC sT0 (kqK4_m p t) 400 0 156 (kqK4_L p t) (kqK4_S p t) (kqK4_A p t) (kqK4_P p t) (kqK4_G p t) (kqK4_B p t) 28 [] [kqK4_r0 p t])) = true := by decide +kernel
theorem kqK4 {l : Launch} {Γ : zG} {d : Nat} (hd : 0 ≤ d) {Kp : Option Value → zH → Prop} {lo : zL} {h : zH} {p : Nat} (h_p : p < 6) {t : Nat} (h_t : t < 2) {x wx cc n : Int} (hi : sInv swC h) (b_x : 0 ≤ x ∧ x ≤ 4) (b_wx : 0 ≤ wx ∧ wx ≤ 15984) (b_cc : 0 ≤ cc ∧ cc ≤ 5) (b_n : 0 ≤ n ∧ n ≤ (p : Int)) (l0 : zget lo 0 = some (.ref 0)) (l1 : zI lo 1 x) (l2 : zI lo 2 wx) (l3 : zI lo 3 cc) (l4 : zI lo 4 (p : Int)) (p_n : pI h (17 * t + 10) 3 = n) (q0 : h.2.2.2 0 5 = some (17 * t + 9))
    (hR0 : ∀ (h' : zH) (r_ : Int32), sInv swC h' → sMd (kqK4_m p t) h h' → r_.toInt = cc → Kp (some (.int r_)) h') : zX l Γ false (d + 1) (zhd 156) (zMQ' Γ false (zhd 156) Kp) 0 0 28 lo [] h := by
  refine sye_ok (mi := 156) (pc := 28) (fun i => [x, wx, cc, (p : Int), n].getD i 0) (zall_r (zall_r kqK4_b h_p) h_t) (fun _ _ hc _ => nomatch hc) hd ⟨l0, zIm l1 (by show 0 ≤ x; omega) (by show x ≤ 4; omega), zIm l2 (by show 0 ≤ wx; omega) (by show wx ≤ 15984; omega), zIm l3 (by show 0 ≤ cc; omega) (by show cc ≤ 5; omega), zIm l4 (by show (p : Int) ≤ (p : Int); omega) (by show (p : Int) ≤ (p : Int); omega), trivial⟩ rfl ⟨(fun _ hc => nomatch hc), (sfm q0 (fun _ hc => nomatch hc)), (fun _ hc => nomatch hc), Or.inl rfl⟩ ⟨⟨p_n, by show 0 ≤ n; omega, by show n ≤ (p : Int); omega⟩, trivial⟩ trivial (fun _ hc => nomatch hc) hi ?_ ?_
  · intro e he lo' st' h' hp hi' hm
    cases he
  · intro e he r' h' hp hi' hm
    rcases List.mem_cons.mp he with rfl | he
    · obtain ⟨p1, -, hz⟩ := hp
      obtain ⟨⟨z1, z2, z3, z4⟩, z5, z6⟩ := hz
      obtain ⟨r_, rfl, hv⟩ := ansI p1 (z2 (0, ([(2, 1)], 0)) (List.mem_of_getElem? (i := 0) rfl))
      have s0 : r_.toInt = cc := (show r_.toInt = (1 * cc + 0) + 0 from hv).trans (by omega)
      exact hR0 h' r_ hi' hm s0
    cases he
def krK0_L : List sT := [.inr (.inl 0), .inl sf32]
def krK0_A : sAs := ([], [], [], [])
def krK0_P : List sP0 := [(0, (none, 12), (0, 5))]
def krK0_G : List sP0 := []
def krK0_B : List (Nat × Nat × Int) := []
def krK0_m : sM := [(0, 2, 3)]
def krK0_e0 : sXe := (19, [], [(0, .inr (.inl 0)), (1, .inl sf32), (2, .inl sf32), (3, .inl sf32)], sA0, [], ([(0, (none, 2), ([], 0))], [], [(1, ([(0, 1)], 0)), (2, ([], 0)), (3, ([], 0))], [([(0, 1)], 0), ([(0, (-1)), (1, 1)], (-1))]), [], [])
def krK0_r0 : sXr := (some (.inl sf32), sA0, [], ([(0, (none, 2), ([], 0))], [(0, ([], (-1)))], [], [([(0, (-1))], (-1))]), [], [])
def krK0_r1 : sXr := (some (.inl sf32), sA0, [], ([(0, (none, 2), ([], 0))], [(0, ([], (-1)))], [], [([(0, 1)], 0), ([(0, 1), (1, (-1))], 0)]), [], [])
theorem krK0_b : syfB swM sT0 krK0_m 400 1 294 krK0_L krK0_A krK0_P krK0_G krK0_B [krK0_e0] [krK0_r0, krK0_r1] = true := by decide +kernel
theorem krK0 {l : Launch} {Γ : zG} {d : Nat} (hd : 1 ≤ d) {Kp : Option Value → zH → Prop} {h : zH} {x n : Int} (hi : sInv swM h) (b_x : (-2147483648) ≤ x ∧ x ≤ 2147483647) (b_n : 0 ≤ n ∧ n ≤ 5) {x_x : Int32} (e_x : x_x.toInt = x) (p_n : pI h 0 12 = n)
    (hE0 : ∀ (lo' : zL) (h' : zH), sInv swM h' → sMd krK0_m h h' → 0 ≤ x → 0 ≤ -x + n - 1 → pI h' 0 2 = 0 → zget lo' 0 = some (.ref 0) → zI lo' 1 x → zI lo' 2 0 → zI lo' 3 0 → zX l Γ false (d + 1) (zhd 294) (zMQ' Γ false (zhd 294) Kp) 0 0 19 lo' [] h')
    (hR0 : ∀ (h' : zH) (r_ : Int32), sInv swM h' → sMd krK0_m h h' → 0 ≤ -x - 1 → pI h' 0 2 = 0 → r_.toInt = (-1) → Kp (some (.int r_)) h')
    (hR1 : ∀ (h' : zH) (r_ : Int32), sInv swM h' → sMd krK0_m h h' → 0 ≤ x → 0 ≤ x - n → pI h' 0 2 = 0 → r_.toInt = (-1) → Kp (some (.int r_)) h') : zSem l Γ false (d + 1) (zhd 294) [.ref 0, .int x_x] h Kp := by
  refine syf_ok (mi := 294) (fun i => [x, n].getD i 0) krK0_b (fun _ _ hc _ => nomatch hc) hd ⟨_, _, rfl, rfl, ⟨_, _, rfl, ⟨x_x, rfl, by show (-2147483648) ≤ x_x.toInt; omega, by show x_x.toInt ≤ 2147483647; omega⟩, rfl⟩⟩ ⟨rfl, ⟨x_x, rfl, e_x, by show (-2147483648) ≤ x; omega, by show x ≤ 2147483647; omega⟩, trivial⟩ ⟨(fun _ hc => nomatch hc), (fun _ hc => nomatch hc), (fun _ hc => nomatch hc), Or.inl rfl⟩ ⟨⟨p_n, by show 0 ≤ n; omega, by show n ≤ 5; omega⟩, trivial⟩ trivial (fun _ hc => nomatch hc) hi ?_ ?_
  · intro e he lo' st' h' hp hi' hm
    rcases List.mem_cons.mp he with rfl | he
    · obtain ⟨p1, p2, -, hz⟩ := hp
      obtain ⟨⟨z1, z2, z3, z4⟩, z5, z6⟩ := hz
      have c0 : 0 ≤ x := by have q_ : (0 : Int) ≤ (1 * x + 0) + 0 := z4 ([(0, 1)], 0) (List.mem_of_getElem? (i := 0) rfl); omega
      have c1 : 0 ≤ -x + n - 1 := by have q_ : (0 : Int) ≤ ((-1) * x + (1 * n + 0)) + (-1) := z4 ([(0, (-1)), (1, 1)], (-1)) (List.mem_of_getElem? (i := 1) rfl); omega
      have k0 : pI h' 0 2 = 0 := (show pI h' 0 2 = 0 + 0 from z1 (0, (none, 2), ([], 0)) (List.mem_of_getElem? (i := 0) rfl)).trans (by omega)
      have o0 : zget lo' 0 = some (.ref 0) := locR (p2 (0, .inr (.inl 0)) (List.mem_of_getElem? (i := 0) rfl))
      have o1 : zI lo' 1 x := zI_of (p2 (1, .inl sf32) (List.mem_of_getElem? (i := 1) rfl)) (z3 (1, ([(0, 1)], 0)) (List.mem_of_getElem? (i := 0) rfl)) (show (1 * x + 0) + 0 = x from by omega)
      have o2 : zI lo' 2 0 := zI_of (p2 (2, .inl sf32) (List.mem_of_getElem? (i := 2) rfl)) (z3 (2, ([], 0)) (List.mem_of_getElem? (i := 1) rfl)) (show 0 + 0 = 0 from by omega)
      have o3 : zI lo' 3 0 := zI_of (p2 (3, .inl sf32) (List.mem_of_getElem? (i := 3) rfl)) (z3 (3, ([], 0)) (List.mem_of_getElem? (i := 2) rfl)) (show 0 + 0 = 0 from by omega)
      have p1 : _ = [] := p1
      subst p1
      exact hE0 lo' h' hi' hm c0 c1 k0 o0 o1 o2 o3
    cases he
  · intro e he r' h' hp hi' hm
    rcases List.mem_cons.mp he with rfl | he
    · obtain ⟨p1, -, hz⟩ := hp
      obtain ⟨⟨z1, z2, z3, z4⟩, z5, z6⟩ := hz
      have c0 : 0 ≤ -x - 1 := by have q_ : (0 : Int) ≤ ((-1) * x + 0) + (-1) := z4 ([(0, (-1))], (-1)) (List.mem_of_getElem? (i := 0) rfl); omega
      have k0 : pI h' 0 2 = 0 := (show pI h' 0 2 = 0 + 0 from z1 (0, (none, 2), ([], 0)) (List.mem_of_getElem? (i := 0) rfl)).trans (by omega)
      obtain ⟨r_, rfl, hv⟩ := ansI p1 (z2 (0, ([], (-1))) (List.mem_of_getElem? (i := 0) rfl))
      have s0 : r_.toInt = (-1) := (show r_.toInt = 0 + (-1) from hv).trans (by omega)
      exact hR0 h' r_ hi' hm c0 k0 s0
    rcases List.mem_cons.mp he with rfl | he
    · obtain ⟨p1, -, hz⟩ := hp
      obtain ⟨⟨z1, z2, z3, z4⟩, z5, z6⟩ := hz
      have c0 : 0 ≤ x := by have q_ : (0 : Int) ≤ (1 * x + 0) + 0 := z4 ([(0, 1)], 0) (List.mem_of_getElem? (i := 0) rfl); omega
      have c1 : 0 ≤ x - n := by have q_ : (0 : Int) ≤ (1 * x + ((-1) * n + 0)) + 0 := z4 ([(0, 1), (1, (-1))], 0) (List.mem_of_getElem? (i := 1) rfl); omega
      have k0 : pI h' 0 2 = 0 := (show pI h' 0 2 = 0 + 0 from z1 (0, (none, 2), ([], 0)) (List.mem_of_getElem? (i := 0) rfl)).trans (by omega)
      obtain ⟨r_, rfl, hv⟩ := ansI p1 (z2 (0, ([], (-1))) (List.mem_of_getElem? (i := 0) rfl))
      have s0 : r_.toInt = (-1) := (show r_.toInt = 0 + (-1) from hv).trans (by omega)
      exact hR1 h' r_ hi' hm c0 c1 k0 s0
    cases he
def krK1_L (p : Nat) : List (Nat × sT) := [(0, .inr (.inl 0)), (1, .inl (0, 4)), (2, .inl (0, 5)), (3, .inl ((p : Int), (p : Int)))]
def krK1_S (p : Nat) : List sT := []
def krK1_A (p : Nat) : sAs := ([], [], [], [])
def krK1_P (p : Nat) : List sP0 := [(0, (none, 12), (((p : Int) + 1), 5))]
def krK1_G (p : Nat) : List sP0 := []
def krK1_B (p : Nat) : List (Nat × Nat × Int) := []
def krK1_m (p : Nat) : sM := []
def krK1_e0 (p : Nat) : sXe := (31, [.inl sf32, .inl sf32, .inr (.inl 0), .inl sf32], [(0, .inr (.inl 0)), (1, .inl sf32), (2, .inl sf32), (3, .inl sf32)], sA0, [], ([], [(0, ([], (p : Int))), (1, ([], 0)), (3, ([(1, 1)], 0))], [(1, ([(0, 1)], 0)), (2, ([(1, 1)], 0)), (3, ([], (p : Int)))], []), [], [])
theorem krK1_b : ((List.range 5).all fun p => syeB swM sT0 (krK1_m p) 400 0 294 (krK1_L p) (krK1_S p) (krK1_A p) (krK1_P p) (krK1_G p) (krK1_B p) 19 [krK1_e0 p] []) = true := by decide +kernel
theorem krK1 {l : Launch} {Γ : zG} {d : Nat} (hd : 0 ≤ d) {Kp : Option Value → zH → Prop} {lo : zL} {h : zH} {p : Nat} (h_p : p < 5) {x cc n : Int} (hi : sInv swM h) (b_x : 0 ≤ x ∧ x ≤ 4) (b_cc : 0 ≤ cc ∧ cc ≤ 5) (b_n : ((p : Int) + 1) ≤ n ∧ n ≤ 5) (l0 : zget lo 0 = some (.ref 0)) (l1 : zI lo 1 x) (l2 : zI lo 2 cc) (l3 : zI lo 3 (p : Int)) (p_n : pI h 0 12 = n)
    (hE0 : ∀ (lo' : zL) (h' : zH) (y0 : Int32) (y1 : Int32) (y3 : Int32), sInv swM h' → sMd (krK1_m p) h h' → zget lo' 0 = some (.ref 0) → zI lo' 1 x → zI lo' 2 cc → zI lo' 3 (p : Int) → y0.toInt = (p : Int) → y1.toInt = 0 → y3.toInt = cc → zX l Γ false (d + 1) (zhd 294) (zMQ' Γ false (zhd 294) Kp) 0 0 31 lo' [.int y0, .int y1, .ref 0, .int y3] h') : zX l Γ false (d + 1) (zhd 294) (zMQ' Γ false (zhd 294) Kp) 0 0 19 lo [] h := by
  refine sye_ok (mi := 294) (pc := 19) (fun i => [x, cc, (p : Int), n].getD i 0) (zall_r krK1_b h_p) (fun _ _ hc _ => nomatch hc) hd ⟨l0, zIm l1 (by show 0 ≤ x; omega) (by show x ≤ 4; omega), zIm l2 (by show 0 ≤ cc; omega) (by show cc ≤ 5; omega), zIm l3 (by show (p : Int) ≤ (p : Int); omega) (by show (p : Int) ≤ (p : Int); omega), trivial⟩ rfl ⟨(fun _ hc => nomatch hc), (fun _ hc => nomatch hc), (fun _ hc => nomatch hc), Or.inl rfl⟩ ⟨⟨p_n, by show ((p : Int) + 1) ≤ n; omega, by show n ≤ 5; omega⟩, trivial⟩ trivial (fun _ hc => nomatch hc) hi ?_ ?_
  · intro e he lo' st' h' hp hi' hm
    rcases List.mem_cons.mp he with rfl | he
    · obtain ⟨p1, p2, -, hz⟩ := hp
      obtain ⟨⟨z1, z2, z3, z4⟩, z5, z6⟩ := hz
      have o0 : zget lo' 0 = some (.ref 0) := locR (p2 (0, .inr (.inl 0)) (List.mem_of_getElem? (i := 0) rfl))
      have o1 : zI lo' 1 x := zI_of (p2 (1, .inl sf32) (List.mem_of_getElem? (i := 1) rfl)) (z3 (1, ([(0, 1)], 0)) (List.mem_of_getElem? (i := 0) rfl)) (show (1 * x + 0) + 0 = x from by omega)
      have o2 : zI lo' 2 cc := zI_of (p2 (2, .inl sf32) (List.mem_of_getElem? (i := 2) rfl)) (z3 (2, ([(1, 1)], 0)) (List.mem_of_getElem? (i := 1) rfl)) (show (1 * cc + 0) + 0 = cc from by omega)
      have o3 : zI lo' 3 (p : Int) := zI_of (p2 (3, .inl sf32) (List.mem_of_getElem? (i := 3) rfl)) (z3 (3, ([], (p : Int))) (List.mem_of_getElem? (i := 2) rfl)) (show 0 + (p : Int) = (p : Int) from by omega)
      obtain ⟨_, _, rfl, ⟨y0, rfl, -⟩, p1⟩ := p1
      obtain ⟨_, _, rfl, ⟨y1, rfl, -⟩, p1⟩ := p1
      obtain ⟨_, _, rfl, hr, p1⟩ := p1
      have hr : _ = Value.ref 0 := hr
      subst hr
      obtain ⟨_, _, rfl, ⟨y3, rfl, -⟩, p1⟩ := p1
      have p1 : _ = [] := p1
      subst p1
      obtain ⟨v_, ev, hv⟩ := z2 (0, ([], (p : Int))) (List.mem_of_getElem? (i := 0) rfl)
      cases ev
      have s0 : y0.toInt = (p : Int) := (show y0.toInt = 0 + (p : Int) from hv).trans (by omega)
      obtain ⟨v_, ev, hv⟩ := z2 (1, ([], 0)) (List.mem_of_getElem? (i := 1) rfl)
      cases ev
      have s1 : y1.toInt = 0 := (show y1.toInt = 0 + 0 from hv).trans (by omega)
      obtain ⟨v_, ev, hv⟩ := z2 (3, ([(1, 1)], 0)) (List.mem_of_getElem? (i := 2) rfl)
      cases ev
      have s3 : y3.toInt = cc := (show y3.toInt = (1 * cc + 0) + 0 from hv).trans (by omega)
      exact hE0 lo' h' y0 y1 y3 hi' hm o0 o1 o2 o3 s0 s1 s3
    cases he
  · intro e he r' h' hp hi' hm
    cases he
def krK2_L (p : Nat) : List (Nat × sT) := [(0, .inr (.inl 0)), (1, .inl (0, 4)), (2, .inl (0, 5)), (3, .inl ((p : Int), (p : Int)))]
def krK2_S (p : Nat) : List sT := [.inl (0, 15984), .inl (0, 5)]
def krK2_A (p : Nat) : sAs := ([], [], [], [])
def krK2_P (p : Nat) : List sP0 := []
def krK2_G (p : Nat) : List sP0 := []
def krK2_B (p : Nat) : List (Nat × Nat × Int) := []
def krK2_m (p : Nat) : sM := []
def krK2_e0 (p : Nat) : sXe := (37, [.inl sf32, .inl sf32, .inr (.inl 0), .inl sf32, .inl sf32], [(0, .inr (.inl 0)), (1, .inl sf32), (2, .inl sf32), (3, .inl sf32)], sA0, [], ([], [(0, ([(0, 1)], 0)), (1, ([], 0)), (3, ([(3, 1)], 0)), (4, ([(4, 1)], 0))], [(1, ([(0, 1)], 0)), (2, ([(1, 1)], 0)), (3, ([], (p : Int)))], []), [], [])
theorem krK2_b : ((List.range 5).all fun p => syeB swM sT0 (krK2_m p) 400 0 294 (krK2_L p) (krK2_S p) (krK2_A p) (krK2_P p) (krK2_G p) (krK2_B p) 34 [krK2_e0 p] []) = true := by decide +kernel
theorem krK2 {l : Launch} {Γ : zG} {d : Nat} (hd : 0 ≤ d) {Kp : Option Value → zH → Prop} {lo : zL} {h : zH} {p : Nat} (h_p : p < 5) {x cc va cd : Int} (hi : sInv swM h) (b_x : 0 ≤ x ∧ x ≤ 4) (b_cc : 0 ≤ cc ∧ cc ≤ 5) (b_va : 0 ≤ va ∧ va ≤ 15984) (b_cd : 0 ≤ cd ∧ cd ≤ 5) (l0 : zget lo 0 = some (.ref 0)) (l1 : zI lo 1 x) (l2 : zI lo 2 cc) (l3 : zI lo 3 (p : Int)) {x_va : Int32} (e_va : x_va.toInt = va) {x_cd : Int32} (e_cd : x_cd.toInt = cd)
    (hE0 : ∀ (lo' : zL) (h' : zH) (y0 : Int32) (y1 : Int32) (y3 : Int32) (y4 : Int32), sInv swM h' → sMd (krK2_m p) h h' → zget lo' 0 = some (.ref 0) → zI lo' 1 x → zI lo' 2 cc → zI lo' 3 (p : Int) → y0.toInt = x → y1.toInt = 0 → y3.toInt = va → y4.toInt = cd → zX l Γ false (d + 1) (zhd 294) (zMQ' Γ false (zhd 294) Kp) 0 0 37 lo' [.int y0, .int y1, .ref 0, .int y3, .int y4] h') : zX l Γ false (d + 1) (zhd 294) (zMQ' Γ false (zhd 294) Kp) 0 0 34 lo [.int x_va, .int x_cd] h := by
  refine sye_ok (mi := 294) (pc := 34) (fun i => [x, cc, (p : Int), va, cd].getD i 0) (zall_r krK2_b h_p) (fun _ _ hc _ => nomatch hc) hd ⟨l0, zIm l1 (by show 0 ≤ x; omega) (by show x ≤ 4; omega), zIm l2 (by show 0 ≤ cc; omega) (by show cc ≤ 5; omega), zIm l3 (by show (p : Int) ≤ (p : Int); omega) (by show (p : Int) ≤ (p : Int); omega), trivial⟩ ⟨x_va, _, rfl, e_va, ⟨by show 0 ≤ va; omega, by show va ≤ 15984; omega⟩, ⟨x_cd, _, rfl, e_cd, ⟨by show 0 ≤ cd; omega, by show cd ≤ 5; omega⟩, rfl⟩⟩ ⟨(fun _ hc => nomatch hc), (fun _ hc => nomatch hc), (fun _ hc => nomatch hc), Or.inl rfl⟩ trivial trivial (fun _ hc => nomatch hc) hi ?_ ?_
  · intro e he lo' st' h' hp hi' hm
    rcases List.mem_cons.mp he with rfl | he
    · obtain ⟨p1, p2, -, hz⟩ := hp
      obtain ⟨⟨z1, z2, z3, z4⟩, z5, z6⟩ := hz
      have o0 : zget lo' 0 = some (.ref 0) := locR (p2 (0, .inr (.inl 0)) (List.mem_of_getElem? (i := 0) rfl))
      have o1 : zI lo' 1 x := zI_of (p2 (1, .inl sf32) (List.mem_of_getElem? (i := 1) rfl)) (z3 (1, ([(0, 1)], 0)) (List.mem_of_getElem? (i := 0) rfl)) (show (1 * x + 0) + 0 = x from by omega)
      have o2 : zI lo' 2 cc := zI_of (p2 (2, .inl sf32) (List.mem_of_getElem? (i := 2) rfl)) (z3 (2, ([(1, 1)], 0)) (List.mem_of_getElem? (i := 1) rfl)) (show (1 * cc + 0) + 0 = cc from by omega)
      have o3 : zI lo' 3 (p : Int) := zI_of (p2 (3, .inl sf32) (List.mem_of_getElem? (i := 3) rfl)) (z3 (3, ([], (p : Int))) (List.mem_of_getElem? (i := 2) rfl)) (show 0 + (p : Int) = (p : Int) from by omega)
      obtain ⟨_, _, rfl, ⟨y0, rfl, -⟩, p1⟩ := p1
      obtain ⟨_, _, rfl, ⟨y1, rfl, -⟩, p1⟩ := p1
      obtain ⟨_, _, rfl, hr, p1⟩ := p1
      have hr : _ = Value.ref 0 := hr
      subst hr
      obtain ⟨_, _, rfl, ⟨y3, rfl, -⟩, p1⟩ := p1
      obtain ⟨_, _, rfl, ⟨y4, rfl, -⟩, p1⟩ := p1
      have p1 : _ = [] := p1
      subst p1
      obtain ⟨v_, ev, hv⟩ := z2 (0, ([(0, 1)], 0)) (List.mem_of_getElem? (i := 0) rfl)
      cases ev
      have s0 : y0.toInt = x := (show y0.toInt = (1 * x + 0) + 0 from hv).trans (by omega)
      obtain ⟨v_, ev, hv⟩ := z2 (1, ([], 0)) (List.mem_of_getElem? (i := 1) rfl)
      cases ev
      have s1 : y1.toInt = 0 := (show y1.toInt = 0 + 0 from hv).trans (by omega)
      obtain ⟨v_, ev, hv⟩ := z2 (3, ([(3, 1)], 0)) (List.mem_of_getElem? (i := 2) rfl)
      cases ev
      have s3 : y3.toInt = va := (show y3.toInt = (1 * va + 0) + 0 from hv).trans (by omega)
      obtain ⟨v_, ev, hv⟩ := z2 (4, ([(4, 1)], 0)) (List.mem_of_getElem? (i := 3) rfl)
      cases ev
      have s4 : y4.toInt = cd := (show y4.toInt = (1 * cd + 0) + 0 from hv).trans (by omega)
      exact hE0 lo' h' y0 y1 y3 y4 hi' hm o0 o1 o2 o3 s0 s1 s3 s4
    cases he
  · intro e he r' h' hp hi' hm
    cases he
def krK3_L (p : Nat) : List (Nat × sT) := [(0, .inr (.inl 0)), (1, .inl (0, 4)), (2, .inl (0, 5)), (3, .inl ((p : Int), (p : Int)))]
def krK3_S (p : Nat) : List sT := [.inl (0, 15984), .inl (0, 15984), .inl (0, 5)]
def krK3_A (p : Nat) : sAs := ([], [], [], [])
def krK3_P (p : Nat) : List sP0 := []
def krK3_G (p : Nat) : List sP0 := []
def krK3_B (p : Nat) : List (Nat × Nat × Int) := []
def krK3_m (p : Nat) : sM := []
def krK3_e0 (p : Nat) : sXe := (19, [], [(0, .inr (.inl 0)), (1, .inl sf32), (2, .inl sf32), (3, .inl sf32)], sA0, [], ([], [], [(1, ([(0, 1)], 0)), (2, ([(5, 1)], 1)), (3, ([], ((p : Int) + 1)))], [([(3, (-1)), (4, 1)], (-1))]), [], [])
def krK3_e1 (p : Nat) : sXe := (46, [.inl sf32, .inl sf32, .inr (.inl 0), .inl sf32], [(0, .inr (.inl 0)), (1, .inl sf32), (2, .inl sf32), (3, .inl sf32)], sA0, [], ([], [(0, ([], (p : Int))), (1, ([], 0)), (3, ([(5, 1)], 0))], [(1, ([(0, 1)], 0)), (2, ([(1, 1)], 0)), (3, ([], (p : Int)))], [([(3, 1), (4, (-1))], 0)]), [], [])
theorem krK3_b : ((List.range 5).all fun p => syeB swM sT0 (krK3_m p) 400 0 294 (krK3_L p) (krK3_S p) (krK3_A p) (krK3_P p) (krK3_G p) (krK3_B p) 40 [krK3_e0 p, krK3_e1 p] []) = true := by decide +kernel
theorem krK3 {l : Launch} {Γ : zG} {d : Nat} (hd : 0 ≤ d) {Kp : Option Value → zH → Prop} {lo : zL} {h : zH} {p : Nat} (h_p : p < 5) {x cc vb va cd : Int} (hi : sInv swM h) (b_x : 0 ≤ x ∧ x ≤ 4) (b_cc : 0 ≤ cc ∧ cc ≤ 5) (b_vb : 0 ≤ vb ∧ vb ≤ 15984) (b_va : 0 ≤ va ∧ va ≤ 15984) (b_cd : 0 ≤ cd ∧ cd ≤ 5) (l0 : zget lo 0 = some (.ref 0)) (l1 : zI lo 1 x) (l2 : zI lo 2 cc) (l3 : zI lo 3 (p : Int)) {x_vb : Int32} (e_vb : x_vb.toInt = vb) {x_va : Int32} (e_va : x_va.toInt = va) {x_cd : Int32} (e_cd : x_cd.toInt = cd)
    (hE0 : ∀ (lo' : zL) (h' : zH), sInv swM h' → sMd (krK3_m p) h h' → 0 ≤ -vb + va - 1 → zget lo' 0 = some (.ref 0) → zI lo' 1 x → zI lo' 2 (cd + 1) → zI lo' 3 ((p : Int) + 1) → zX l Γ false (d + 1) (zhd 294) (zMQ' Γ false (zhd 294) Kp) 0 0 19 lo' [] h')
    (hE1 : ∀ (lo' : zL) (h' : zH) (y0 : Int32) (y1 : Int32) (y3 : Int32), sInv swM h' → sMd (krK3_m p) h h' → 0 ≤ vb - va → zget lo' 0 = some (.ref 0) → zI lo' 1 x → zI lo' 2 cc → zI lo' 3 (p : Int) → y0.toInt = (p : Int) → y1.toInt = 0 → y3.toInt = cd → zX l Γ false (d + 1) (zhd 294) (zMQ' Γ false (zhd 294) Kp) 0 0 46 lo' [.int y0, .int y1, .ref 0, .int y3] h') : zX l Γ false (d + 1) (zhd 294) (zMQ' Γ false (zhd 294) Kp) 0 0 40 lo [.int x_vb, .int x_va, .int x_cd] h := by
  refine sye_ok (mi := 294) (pc := 40) (fun i => [x, cc, (p : Int), vb, va, cd].getD i 0) (zall_r krK3_b h_p) (fun _ _ hc _ => nomatch hc) hd ⟨l0, zIm l1 (by show 0 ≤ x; omega) (by show x ≤ 4; omega), zIm l2 (by show 0 ≤ cc; omega) (by show cc ≤ 5; omega), zIm l3 (by show (p : Int) ≤ (p : Int); omega) (by show (p : Int) ≤ (p : Int); omega), trivial⟩ ⟨x_vb, _, rfl, e_vb, ⟨by show 0 ≤ vb; omega, by show vb ≤ 15984; omega⟩, ⟨x_va, _, rfl, e_va, ⟨by show 0 ≤ va; omega, by show va ≤ 15984; omega⟩, ⟨x_cd, _, rfl, e_cd, ⟨by show 0 ≤ cd; omega, by show cd ≤ 5; omega⟩, rfl⟩⟩⟩ ⟨(fun _ hc => nomatch hc), (fun _ hc => nomatch hc), (fun _ hc => nomatch hc), Or.inl rfl⟩ trivial trivial (fun _ hc => nomatch hc) hi ?_ ?_
  · intro e he lo' st' h' hp hi' hm
    rcases List.mem_cons.mp he with rfl | he
    · obtain ⟨p1, p2, -, hz⟩ := hp
      obtain ⟨⟨z1, z2, z3, z4⟩, z5, z6⟩ := hz
      have c0 : 0 ≤ -vb + va - 1 := by have q_ : (0 : Int) ≤ ((-1) * vb + (1 * va + 0)) + (-1) := z4 ([(3, (-1)), (4, 1)], (-1)) (List.mem_of_getElem? (i := 0) rfl); omega
      have o0 : zget lo' 0 = some (.ref 0) := locR (p2 (0, .inr (.inl 0)) (List.mem_of_getElem? (i := 0) rfl))
      have o1 : zI lo' 1 x := zI_of (p2 (1, .inl sf32) (List.mem_of_getElem? (i := 1) rfl)) (z3 (1, ([(0, 1)], 0)) (List.mem_of_getElem? (i := 0) rfl)) (show (1 * x + 0) + 0 = x from by omega)
      have o2 : zI lo' 2 (cd + 1) := zI_of (p2 (2, .inl sf32) (List.mem_of_getElem? (i := 2) rfl)) (z3 (2, ([(5, 1)], 1)) (List.mem_of_getElem? (i := 1) rfl)) (show (1 * cd + 0) + 1 = cd + 1 from by omega)
      have o3 : zI lo' 3 ((p : Int) + 1) := zI_of (p2 (3, .inl sf32) (List.mem_of_getElem? (i := 3) rfl)) (z3 (3, ([], ((p : Int) + 1))) (List.mem_of_getElem? (i := 2) rfl)) (show 0 + ((p : Int) + 1) = ((p : Int) + 1) from by omega)
      have p1 : _ = [] := p1
      subst p1
      exact hE0 lo' h' hi' hm c0 o0 o1 o2 o3
    rcases List.mem_cons.mp he with rfl | he
    · obtain ⟨p1, p2, -, hz⟩ := hp
      obtain ⟨⟨z1, z2, z3, z4⟩, z5, z6⟩ := hz
      have c0 : 0 ≤ vb - va := by have q_ : (0 : Int) ≤ (1 * vb + ((-1) * va + 0)) + 0 := z4 ([(3, 1), (4, (-1))], 0) (List.mem_of_getElem? (i := 0) rfl); omega
      have o0 : zget lo' 0 = some (.ref 0) := locR (p2 (0, .inr (.inl 0)) (List.mem_of_getElem? (i := 0) rfl))
      have o1 : zI lo' 1 x := zI_of (p2 (1, .inl sf32) (List.mem_of_getElem? (i := 1) rfl)) (z3 (1, ([(0, 1)], 0)) (List.mem_of_getElem? (i := 0) rfl)) (show (1 * x + 0) + 0 = x from by omega)
      have o2 : zI lo' 2 cc := zI_of (p2 (2, .inl sf32) (List.mem_of_getElem? (i := 2) rfl)) (z3 (2, ([(1, 1)], 0)) (List.mem_of_getElem? (i := 1) rfl)) (show (1 * cc + 0) + 0 = cc from by omega)
      have o3 : zI lo' 3 (p : Int) := zI_of (p2 (3, .inl sf32) (List.mem_of_getElem? (i := 3) rfl)) (z3 (3, ([], (p : Int))) (List.mem_of_getElem? (i := 2) rfl)) (show 0 + (p : Int) = (p : Int) from by omega)
      obtain ⟨_, _, rfl, ⟨y0, rfl, -⟩, p1⟩ := p1
      obtain ⟨_, _, rfl, ⟨y1, rfl, -⟩, p1⟩ := p1
      obtain ⟨_, _, rfl, hr, p1⟩ := p1
      have hr : _ = Value.ref 0 := hr
      subst hr
      obtain ⟨_, _, rfl, ⟨y3, rfl, -⟩, p1⟩ := p1
      have p1 : _ = [] := p1
      subst p1
      obtain ⟨v_, ev, hv⟩ := z2 (0, ([], (p : Int))) (List.mem_of_getElem? (i := 0) rfl)
      cases ev
      have s0 : y0.toInt = (p : Int) := (show y0.toInt = 0 + (p : Int) from hv).trans (by omega)
      obtain ⟨v_, ev, hv⟩ := z2 (1, ([], 0)) (List.mem_of_getElem? (i := 1) rfl)
      cases ev
      have s1 : y1.toInt = 0 := (show y1.toInt = 0 + 0 from hv).trans (by omega)
      obtain ⟨v_, ev, hv⟩ := z2 (3, ([(5, 1)], 0)) (List.mem_of_getElem? (i := 2) rfl)
      cases ev
      have s3 : y3.toInt = cd := (show y3.toInt = (1 * cd + 0) + 0 from hv).trans (by omega)
      exact hE1 lo' h' y0 y1 y3 hi' hm c0 o0 o1 o2 o3 s0 s1 s3
    cases he
  · intro e he r' h' hp hi' hm
    cases he
def krK4_L (p : Nat) : List (Nat × sT) := [(0, .inr (.inl 0)), (1, .inl (0, 4)), (2, .inl (0, 5)), (3, .inl ((p : Int), (p : Int)))]
def krK4_S (p : Nat) : List sT := [.inl (0, 15984), .inl (0, 5)]
def krK4_A (p : Nat) : sAs := ([], [], [], [])
def krK4_P (p : Nat) : List sP0 := []
def krK4_G (p : Nat) : List sP0 := []
def krK4_B (p : Nat) : List (Nat × Nat × Int) := []
def krK4_m (p : Nat) : sM := []
def krK4_e0 (p : Nat) : sXe := (52, [.inl sf32, .inl sf32, .inr (.inl 0), .inl sf32, .inl sf32], [(0, .inr (.inl 0)), (1, .inl sf32), (2, .inl sf32), (3, .inl sf32)], sA0, [], ([], [(0, ([(0, 1)], 0)), (1, ([], 0)), (3, ([(3, 1)], 0)), (4, ([(4, 1)], 0))], [(1, ([(0, 1)], 0)), (2, ([(1, 1)], 0)), (3, ([], (p : Int)))], []), [], [])
theorem krK4_b : ((List.range 5).all fun p => syeB swM sT0 (krK4_m p) 400 0 294 (krK4_L p) (krK4_S p) (krK4_A p) (krK4_P p) (krK4_G p) (krK4_B p) 49 [krK4_e0 p] []) = true := by decide +kernel
theorem krK4 {l : Launch} {Γ : zG} {d : Nat} (hd : 0 ≤ d) {Kp : Option Value → zH → Prop} {lo : zL} {h : zH} {p : Nat} (h_p : p < 5) {x cc vc cd : Int} (hi : sInv swM h) (b_x : 0 ≤ x ∧ x ≤ 4) (b_cc : 0 ≤ cc ∧ cc ≤ 5) (b_vc : 0 ≤ vc ∧ vc ≤ 15984) (b_cd : 0 ≤ cd ∧ cd ≤ 5) (l0 : zget lo 0 = some (.ref 0)) (l1 : zI lo 1 x) (l2 : zI lo 2 cc) (l3 : zI lo 3 (p : Int)) {x_vc : Int32} (e_vc : x_vc.toInt = vc) {x_cd : Int32} (e_cd : x_cd.toInt = cd)
    (hE0 : ∀ (lo' : zL) (h' : zH) (y0 : Int32) (y1 : Int32) (y3 : Int32) (y4 : Int32), sInv swM h' → sMd (krK4_m p) h h' → zget lo' 0 = some (.ref 0) → zI lo' 1 x → zI lo' 2 cc → zI lo' 3 (p : Int) → y0.toInt = x → y1.toInt = 0 → y3.toInt = vc → y4.toInt = cd → zX l Γ false (d + 1) (zhd 294) (zMQ' Γ false (zhd 294) Kp) 0 0 52 lo' [.int y0, .int y1, .ref 0, .int y3, .int y4] h') : zX l Γ false (d + 1) (zhd 294) (zMQ' Γ false (zhd 294) Kp) 0 0 49 lo [.int x_vc, .int x_cd] h := by
  refine sye_ok (mi := 294) (pc := 49) (fun i => [x, cc, (p : Int), vc, cd].getD i 0) (zall_r krK4_b h_p) (fun _ _ hc _ => nomatch hc) hd ⟨l0, zIm l1 (by show 0 ≤ x; omega) (by show x ≤ 4; omega), zIm l2 (by show 0 ≤ cc; omega) (by show cc ≤ 5; omega), zIm l3 (by show (p : Int) ≤ (p : Int); omega) (by show (p : Int) ≤ (p : Int); omega), trivial⟩ ⟨x_vc, _, rfl, e_vc, ⟨by show 0 ≤ vc; omega, by show vc ≤ 15984; omega⟩, ⟨x_cd, _, rfl, e_cd, ⟨by show 0 ≤ cd; omega, by show cd ≤ 5; omega⟩, rfl⟩⟩ ⟨(fun _ hc => nomatch hc), (fun _ hc => nomatch hc), (fun _ hc => nomatch hc), Or.inl rfl⟩ trivial trivial (fun _ hc => nomatch hc) hi ?_ ?_
  · intro e he lo' st' h' hp hi' hm
    rcases List.mem_cons.mp he with rfl | he
    · obtain ⟨p1, p2, -, hz⟩ := hp
      obtain ⟨⟨z1, z2, z3, z4⟩, z5, z6⟩ := hz
      have o0 : zget lo' 0 = some (.ref 0) := locR (p2 (0, .inr (.inl 0)) (List.mem_of_getElem? (i := 0) rfl))
      have o1 : zI lo' 1 x := zI_of (p2 (1, .inl sf32) (List.mem_of_getElem? (i := 1) rfl)) (z3 (1, ([(0, 1)], 0)) (List.mem_of_getElem? (i := 0) rfl)) (show (1 * x + 0) + 0 = x from by omega)
      have o2 : zI lo' 2 cc := zI_of (p2 (2, .inl sf32) (List.mem_of_getElem? (i := 2) rfl)) (z3 (2, ([(1, 1)], 0)) (List.mem_of_getElem? (i := 1) rfl)) (show (1 * cc + 0) + 0 = cc from by omega)
      have o3 : zI lo' 3 (p : Int) := zI_of (p2 (3, .inl sf32) (List.mem_of_getElem? (i := 3) rfl)) (z3 (3, ([], (p : Int))) (List.mem_of_getElem? (i := 2) rfl)) (show 0 + (p : Int) = (p : Int) from by omega)
      obtain ⟨_, _, rfl, ⟨y0, rfl, -⟩, p1⟩ := p1
      obtain ⟨_, _, rfl, ⟨y1, rfl, -⟩, p1⟩ := p1
      obtain ⟨_, _, rfl, hr, p1⟩ := p1
      have hr : _ = Value.ref 0 := hr
      subst hr
      obtain ⟨_, _, rfl, ⟨y3, rfl, -⟩, p1⟩ := p1
      obtain ⟨_, _, rfl, ⟨y4, rfl, -⟩, p1⟩ := p1
      have p1 : _ = [] := p1
      subst p1
      obtain ⟨v_, ev, hv⟩ := z2 (0, ([(0, 1)], 0)) (List.mem_of_getElem? (i := 0) rfl)
      cases ev
      have s0 : y0.toInt = x := (show y0.toInt = (1 * x + 0) + 0 from hv).trans (by omega)
      obtain ⟨v_, ev, hv⟩ := z2 (1, ([], 0)) (List.mem_of_getElem? (i := 1) rfl)
      cases ev
      have s1 : y1.toInt = 0 := (show y1.toInt = 0 + 0 from hv).trans (by omega)
      obtain ⟨v_, ev, hv⟩ := z2 (3, ([(3, 1)], 0)) (List.mem_of_getElem? (i := 2) rfl)
      cases ev
      have s3 : y3.toInt = vc := (show y3.toInt = (1 * vc + 0) + 0 from hv).trans (by omega)
      obtain ⟨v_, ev, hv⟩ := z2 (4, ([(4, 1)], 0)) (List.mem_of_getElem? (i := 3) rfl)
      cases ev
      have s4 : y4.toInt = cd := (show y4.toInt = (1 * cd + 0) + 0 from hv).trans (by omega)
      exact hE0 lo' h' y0 y1 y3 y4 hi' hm o0 o1 o2 o3 s0 s1 s3 s4
    cases he
  · intro e he r' h' hp hi' hm
    cases he
def krK5_L : List (Nat × sT) := [(0, .inr (.inl 0)), (1, .inl (0, 4)), (2, .inl (0, 5)), (3, .inl (0, 4))]
def krK5_S : List sT := [.inl (0, 15984), .inl (0, 15984), .inl (0, 5)]
def krK5_A : sAs := ([], [], [], [])
def krK5_P : List sP0 := []
def krK5_G : List sP0 := []
def krK5_B : List (Nat × Nat × Int) := []
def krK5_m : sM := []
def krK5_e0 : sXe := (19, [], [(0, .inr (.inl 0)), (1, .inl sf32), (2, .inl sf32), (3, .inl sf32)], sA0, [], ([], [], [(1, ([(0, 1)], 0)), (2, ([(5, 1)], 0)), (3, ([(2, 1)], 1))], [([(0, (-1)), (2, 1)], 0), ([(3, (-1)), (4, 1)], 0), ([(3, 1), (4, (-1))], 0)]), [], [])
def krK5_e1 : sXe := (19, [], [(0, .inr (.inl 0)), (1, .inl sf32), (2, .inl sf32), (3, .inl sf32)], sA0, [], ([], [], [(1, ([(0, 1)], 0)), (2, ([(5, 1)], 1)), (3, ([(2, 1)], 1))], [([(0, 1), (2, (-1))], (-1)), ([(3, (-1)), (4, 1)], 0), ([(3, 1), (4, (-1))], 0)]), [], [])
def krK5_e2 : sXe := (19, [], [(0, .inr (.inl 0)), (1, .inl sf32), (2, .inl sf32), (3, .inl sf32)], sA0, [], ([], [], [(1, ([(0, 1)], 0)), (2, ([(5, 1)], 0)), (3, ([(2, 1)], 1))], []), [(([(4, 1)], 0), ([(3, 1)], 0))], [])
theorem krK5_b : syeB swM sT0 krK5_m 400 0 294 krK5_L krK5_S krK5_A krK5_P krK5_G krK5_B 55 [krK5_e0, krK5_e1, krK5_e2] [] = true := by decide +kernel
theorem krK5 {l : Launch} {Γ : zG} {d : Nat} (hd : 0 ≤ d) {Kp : Option Value → zH → Prop} {lo : zL} {h : zH} {x cc pp vd vc cd : Int} (hi : sInv swM h) (b_x : 0 ≤ x ∧ x ≤ 4) (b_cc : 0 ≤ cc ∧ cc ≤ 5) (b_pp : 0 ≤ pp ∧ pp ≤ 4) (b_vd : 0 ≤ vd ∧ vd ≤ 15984) (b_vc : 0 ≤ vc ∧ vc ≤ 15984) (b_cd : 0 ≤ cd ∧ cd ≤ 5) (l0 : zget lo 0 = some (.ref 0)) (l1 : zI lo 1 x) (l2 : zI lo 2 cc) (l3 : zI lo 3 pp) {x_vd : Int32} (e_vd : x_vd.toInt = vd) {x_vc : Int32} (e_vc : x_vc.toInt = vc) {x_cd : Int32} (e_cd : x_cd.toInt = cd)
    (hE0 : ∀ (lo' : zL) (h' : zH), sInv swM h' → sMd krK5_m h h' → 0 ≤ -x + pp → vc = vd → zget lo' 0 = some (.ref 0) → zI lo' 1 x → zI lo' 2 cd → zI lo' 3 (pp + 1) → zX l Γ false (d + 1) (zhd 294) (zMQ' Γ false (zhd 294) Kp) 0 0 19 lo' [] h')
    (hE1 : ∀ (lo' : zL) (h' : zH), sInv swM h' → sMd krK5_m h h' → 0 ≤ x - pp - 1 → vc = vd → zget lo' 0 = some (.ref 0) → zI lo' 1 x → zI lo' 2 (cd + 1) → zI lo' 3 (pp + 1) → zX l Γ false (d + 1) (zhd 294) (zMQ' Γ false (zhd 294) Kp) 0 0 19 lo' [] h')
    (hE2 : ∀ (lo' : zL) (h' : zH), sInv swM h' → sMd krK5_m h h' → vc ≠ vd → zget lo' 0 = some (.ref 0) → zI lo' 1 x → zI lo' 2 cd → zI lo' 3 (pp + 1) → zX l Γ false (d + 1) (zhd 294) (zMQ' Γ false (zhd 294) Kp) 0 0 19 lo' [] h') : zX l Γ false (d + 1) (zhd 294) (zMQ' Γ false (zhd 294) Kp) 0 0 55 lo [.int x_vd, .int x_vc, .int x_cd] h := by
  refine sye_ok (mi := 294) (pc := 55) (fun i => [x, cc, pp, vd, vc, cd].getD i 0) krK5_b (fun _ _ hc _ => nomatch hc) hd ⟨l0, zIm l1 (by show 0 ≤ x; omega) (by show x ≤ 4; omega), zIm l2 (by show 0 ≤ cc; omega) (by show cc ≤ 5; omega), zIm l3 (by show 0 ≤ pp; omega) (by show pp ≤ 4; omega), trivial⟩ ⟨x_vd, _, rfl, e_vd, ⟨by show 0 ≤ vd; omega, by show vd ≤ 15984; omega⟩, ⟨x_vc, _, rfl, e_vc, ⟨by show 0 ≤ vc; omega, by show vc ≤ 15984; omega⟩, ⟨x_cd, _, rfl, e_cd, ⟨by show 0 ≤ cd; omega, by show cd ≤ 5; omega⟩, rfl⟩⟩⟩ ⟨(fun _ hc => nomatch hc), (fun _ hc => nomatch hc), (fun _ hc => nomatch hc), Or.inl rfl⟩ trivial trivial (fun _ hc => nomatch hc) hi ?_ ?_
  · intro e he lo' st' h' hp hi' hm
    rcases List.mem_cons.mp he with rfl | he
    · obtain ⟨p1, p2, -, hz⟩ := hp
      obtain ⟨⟨z1, z2, z3, z4⟩, z5, z6⟩ := hz
      have c0 : 0 ≤ -x + pp := by have q_ : (0 : Int) ≤ ((-1) * x + (1 * pp + 0)) + 0 := z4 ([(0, (-1)), (2, 1)], 0) (List.mem_of_getElem? (i := 0) rfl); omega
      have c1 : vc = vd := by have q_ : (0 : Int) ≤ ((-1) * vd + (1 * vc + 0)) + 0 := z4 ([(3, (-1)), (4, 1)], 0) (List.mem_of_getElem? (i := 1) rfl); have q2_ : (0 : Int) ≤ (1 * vd + ((-1) * vc + 0)) + 0 := z4 ([(3, 1), (4, (-1))], 0) (List.mem_of_getElem? (i := 2) rfl); omega
      have o0 : zget lo' 0 = some (.ref 0) := locR (p2 (0, .inr (.inl 0)) (List.mem_of_getElem? (i := 0) rfl))
      have o1 : zI lo' 1 x := zI_of (p2 (1, .inl sf32) (List.mem_of_getElem? (i := 1) rfl)) (z3 (1, ([(0, 1)], 0)) (List.mem_of_getElem? (i := 0) rfl)) (show (1 * x + 0) + 0 = x from by omega)
      have o2 : zI lo' 2 cd := zI_of (p2 (2, .inl sf32) (List.mem_of_getElem? (i := 2) rfl)) (z3 (2, ([(5, 1)], 0)) (List.mem_of_getElem? (i := 1) rfl)) (show (1 * cd + 0) + 0 = cd from by omega)
      have o3 : zI lo' 3 (pp + 1) := zI_of (p2 (3, .inl sf32) (List.mem_of_getElem? (i := 3) rfl)) (z3 (3, ([(2, 1)], 1)) (List.mem_of_getElem? (i := 2) rfl)) (show (1 * pp + 0) + 1 = pp + 1 from by omega)
      have p1 : _ = [] := p1
      subst p1
      exact hE0 lo' h' hi' hm c0 c1 o0 o1 o2 o3
    rcases List.mem_cons.mp he with rfl | he
    · obtain ⟨p1, p2, -, hz⟩ := hp
      obtain ⟨⟨z1, z2, z3, z4⟩, z5, z6⟩ := hz
      have c0 : 0 ≤ x - pp - 1 := by have q_ : (0 : Int) ≤ (1 * x + ((-1) * pp + 0)) + (-1) := z4 ([(0, 1), (2, (-1))], (-1)) (List.mem_of_getElem? (i := 0) rfl); omega
      have c1 : vc = vd := by have q_ : (0 : Int) ≤ ((-1) * vd + (1 * vc + 0)) + 0 := z4 ([(3, (-1)), (4, 1)], 0) (List.mem_of_getElem? (i := 1) rfl); have q2_ : (0 : Int) ≤ (1 * vd + ((-1) * vc + 0)) + 0 := z4 ([(3, 1), (4, (-1))], 0) (List.mem_of_getElem? (i := 2) rfl); omega
      have o0 : zget lo' 0 = some (.ref 0) := locR (p2 (0, .inr (.inl 0)) (List.mem_of_getElem? (i := 0) rfl))
      have o1 : zI lo' 1 x := zI_of (p2 (1, .inl sf32) (List.mem_of_getElem? (i := 1) rfl)) (z3 (1, ([(0, 1)], 0)) (List.mem_of_getElem? (i := 0) rfl)) (show (1 * x + 0) + 0 = x from by omega)
      have o2 : zI lo' 2 (cd + 1) := zI_of (p2 (2, .inl sf32) (List.mem_of_getElem? (i := 2) rfl)) (z3 (2, ([(5, 1)], 1)) (List.mem_of_getElem? (i := 1) rfl)) (show (1 * cd + 0) + 1 = cd + 1 from by omega)
      have o3 : zI lo' 3 (pp + 1) := zI_of (p2 (3, .inl sf32) (List.mem_of_getElem? (i := 3) rfl)) (z3 (3, ([(2, 1)], 1)) (List.mem_of_getElem? (i := 2) rfl)) (show (1 * pp + 0) + 1 = pp + 1 from by omega)
      have p1 : _ = [] := p1
      subst p1
      exact hE1 lo' h' hi' hm c0 c1 o0 o1 o2 o3
    rcases List.mem_cons.mp he with rfl | he
    · obtain ⟨p1, p2, -, hz⟩ := hp
      obtain ⟨⟨z1, z2, z3, z4⟩, z5, z6⟩ := hz
      have n0 : vc ≠ vd := fun e_ => z5 (([(4, 1)], 0), ([(3, 1)], 0)) (List.mem_of_getElem? (i := 0) rfl) (by show (1 * vc + 0) + 0 = (1 * vd + 0) + 0; omega)
      have o0 : zget lo' 0 = some (.ref 0) := locR (p2 (0, .inr (.inl 0)) (List.mem_of_getElem? (i := 0) rfl))
      have o1 : zI lo' 1 x := zI_of (p2 (1, .inl sf32) (List.mem_of_getElem? (i := 1) rfl)) (z3 (1, ([(0, 1)], 0)) (List.mem_of_getElem? (i := 0) rfl)) (show (1 * x + 0) + 0 = x from by omega)
      have o2 : zI lo' 2 cd := zI_of (p2 (2, .inl sf32) (List.mem_of_getElem? (i := 2) rfl)) (z3 (2, ([(5, 1)], 0)) (List.mem_of_getElem? (i := 1) rfl)) (show (1 * cd + 0) + 0 = cd from by omega)
      have o3 : zI lo' 3 (pp + 1) := zI_of (p2 (3, .inl sf32) (List.mem_of_getElem? (i := 3) rfl)) (z3 (3, ([(2, 1)], 1)) (List.mem_of_getElem? (i := 2) rfl)) (show (1 * pp + 0) + 1 = pp + 1 from by omega)
      have p1 : _ = [] := p1
      subst p1
      exact hE2 lo' h' hi' hm n0 o0 o1 o2 o3
    cases he
  · intro e he r' h' hp hi' hm
    cases he
def krK6_L (p : Nat) : List (Nat × sT) := [(0, .inr (.inl 0)), (1, .inl (0, 4)), (2, .inl (0, 5)), (3, .inl ((p : Int), (p : Int)))]
def krK6_S (p : Nat) : List sT := []
def krK6_A (p : Nat) : sAs := ([], [], [], [])
def krK6_P (p : Nat) : List sP0 := [(0, (none, 12), (0, (p : Int)))]
def krK6_G (p : Nat) : List sP0 := []
def krK6_B (p : Nat) : List (Nat × Nat × Int) := []
def krK6_m (p : Nat) : sM := []
def krK6_r0 (p : Nat) : sXr := (some (.inl sf32), sA0, [], ([], [(0, ([(1, 1)], 0))], [], []), [], [])
theorem krK6_b : ((List.range 6).all fun p => syeB swM sT0 (krK6_m p) 400 0 294 (krK6_L p) (krK6_S p) (krK6_A p) (krK6_P p) (krK6_G p) (krK6_B p) 19 [] [krK6_r0 p]) = true := by decide +kernel
theorem krK6 {l : Launch} {Γ : zG} {d : Nat} (hd : 0 ≤ d) {Kp : Option Value → zH → Prop} {lo : zL} {h : zH} {p : Nat} (h_p : p < 6) {x cc n : Int} (hi : sInv swM h) (b_x : 0 ≤ x ∧ x ≤ 4) (b_cc : 0 ≤ cc ∧ cc ≤ 5) (b_n : 0 ≤ n ∧ n ≤ (p : Int)) (l0 : zget lo 0 = some (.ref 0)) (l1 : zI lo 1 x) (l2 : zI lo 2 cc) (l3 : zI lo 3 (p : Int)) (p_n : pI h 0 12 = n)
    (hR0 : ∀ (h' : zH) (r_ : Int32), sInv swM h' → sMd (krK6_m p) h h' → r_.toInt = cc → Kp (some (.int r_)) h') : zX l Γ false (d + 1) (zhd 294) (zMQ' Γ false (zhd 294) Kp) 0 0 19 lo [] h := by
  refine sye_ok (mi := 294) (pc := 19) (fun i => [x, cc, (p : Int), n].getD i 0) (zall_r krK6_b h_p) (fun _ _ hc _ => nomatch hc) hd ⟨l0, zIm l1 (by show 0 ≤ x; omega) (by show x ≤ 4; omega), zIm l2 (by show 0 ≤ cc; omega) (by show cc ≤ 5; omega), zIm l3 (by show (p : Int) ≤ (p : Int); omega) (by show (p : Int) ≤ (p : Int); omega), trivial⟩ rfl ⟨(fun _ hc => nomatch hc), (fun _ hc => nomatch hc), (fun _ hc => nomatch hc), Or.inl rfl⟩ ⟨⟨p_n, by show 0 ≤ n; omega, by show n ≤ (p : Int); omega⟩, trivial⟩ trivial (fun _ hc => nomatch hc) hi ?_ ?_
  · intro e he lo' st' h' hp hi' hm
    cases he
  · intro e he r' h' hp hi' hm
    rcases List.mem_cons.mp he with rfl | he
    · obtain ⟨p1, -, hz⟩ := hp
      obtain ⟨⟨z1, z2, z3, z4⟩, z5, z6⟩ := hz
      obtain ⟨r_, rfl, hv⟩ := ansI p1 (z2 (0, ([(1, 1)], 0)) (List.mem_of_getElem? (i := 0) rfl))
      have s0 : r_.toInt = cc := (show r_.toInt = (1 * cc + 0) + 0 from hv).trans (by omega)
      exact hR0 h' r_ hi' hm s0
    cases he
