def kqN0_L (t : Nat) : List sT := [.inr (.inl 0), .inl sf32, .inl sf32]
def kqN0_A (t : Nat) : sAs := ([], [(0, 5, (17 * t + 9))], [], [])
def kqN0_P (t : Nat) : List sP0 := [((17 * t + 10), (none, 3), (0, 5))]
def kqN0_G (t : Nat) : List sP0 := []
def kqN0_B (t : Nat) : List (Nat × Nat × Int) := []
def kqN0_m (t : Nat) : sM := []
def kqN0_e0 (t : Nat) : sXe := (45, [.inl sf32, .inr (.inl (17 * t + 9)), .inr (.inl 43)], [], sA0, [], ([], [(0, ([(0, 1)], 0))], [], [([(0, 1)], 0), ([(0, (-1)), (2, 1)], (-1)), ([(1, 1)], 0), ([(1, (-1))], 0)]), [], [])
def kqN0_e1 (t : Nat) : sXe := (54, [.inl sf32, .inr (.inl (17 * t + 9))], [], sA0, [], ([], [(0, ([(0, 1)], 0))], [], [([(0, 1)], 0), ([(0, (-1)), (2, 1)], (-1)), ([(1, 1)], (-1)), ([(1, (-1))], 1)]), [(([(1, 1)], 0), ([], 0))], [])
def kqN0_e2 (t : Nat) : sXe := (63, [.inl sf32, .inr (.inl (17 * t + 9))], [(0, .inr (.inl 0))], sA0, [], ([], [(0, ([(0, 1)], 0))], [], [([(0, 1)], 0), ([(0, (-1)), (2, 1)], (-1)), ([(1, 1)], (-2)), ([(1, (-1))], 2)]), [(([(1, 1)], 0), ([], 0)), (([(1, 1)], 0), ([], 1))], [])
def kqN0_r0 (t : Nat) : sXr := (some (.inl sf32), sA0, [], ([], [(0, ([], (-1)))], [], [([(0, (-1))], (-1))]), [], [])
def kqN0_r1 (t : Nat) : sXr := (some (.inl sf32), sA0, [], ([], [(0, ([], (-1)))], [], [([(0, 1)], 0), ([(0, (-1)), (2, 1)], (-1))]), [(([(1, 1)], 0), ([], 0)), (([(1, 1)], 0), ([], 1)), (([(1, 1)], 0), ([], 2))], [])
def kqN0_r2 (t : Nat) : sXr := (some (.inl sf32), sA0, [], ([], [(0, ([], (-1)))], [], [([(0, 1)], 0), ([(0, 1), (2, (-1))], 0)]), [], [])
theorem kqN0_b : ((List.range 2).all fun t => syfB swC sT0 (kqN0_m t) 400 1 78 (kqN0_L t) (kqN0_A t) (kqN0_P t) (kqN0_G t) (kqN0_B t) [kqN0_e0 t, kqN0_e1 t, kqN0_e2 t] [kqN0_r0 t, kqN0_r1 t, kqN0_r2 t]) = true := by decide +kernel
theorem kqN0 {l : Launch} {Γ : zG} {d : Nat} (hd : 1 ≤ d) {Kp : Option Value → zH → Prop} {h : zH} {t : Nat} (h_t : t < 2) {x y n : Int} (hi : sInv swC h) (b_x : (-2147483648) ≤ x ∧ x ≤ 2147483647) (b_y : (-2147483648) ≤ y ∧ y ≤ 2147483647) (b_n : 0 ≤ n ∧ n ≤ 5) {x_x : Int32} (e_x : x_x.toInt = x) {x_y : Int32} (e_y : x_y.toInt = y) (p_n : pI h (17 * t + 10) 3 = n) (q0 : h.2.2.2 0 5 = some (17 * t + 9))
    (hE0 : ∀ (lo' : zL) (h' : zH) (y0 : Int32), sInv swC h' → sMd (kqN0_m t) h h' → 0 ≤ x → 0 ≤ -x + n - 1 → y = 0 → y0.toInt = x → zX l Γ false (d + 1) (zhd 78) (zMQ' Γ false (zhd 78) Kp) 0 0 45 lo' [.int y0, .ref (17 * t + 9), .ref 43] h')
    (hE1 : ∀ (lo' : zL) (h' : zH) (y0 : Int32), sInv swC h' → sMd (kqN0_m t) h h' → 0 ≤ x → 0 ≤ -x + n - 1 → y = 1 → y ≠ 0 → y0.toInt = x → zX l Γ false (d + 1) (zhd 78) (zMQ' Γ false (zhd 78) Kp) 0 0 54 lo' [.int y0, .ref (17 * t + 9)] h')
    (hE2 : ∀ (lo' : zL) (h' : zH) (y0 : Int32), sInv swC h' → sMd (kqN0_m t) h h' → 0 ≤ x → 0 ≤ -x + n - 1 → y = 2 → y ≠ 0 → y ≠ 1 → zget lo' 0 = some (.ref 0) → y0.toInt = x → zX l Γ false (d + 1) (zhd 78) (zMQ' Γ false (zhd 78) Kp) 0 0 63 lo' [.int y0, .ref (17 * t + 9)] h')
    (hR0 : ∀ (h' : zH) (r_ : Int32), sInv swC h' → sMd (kqN0_m t) h h' → 0 ≤ -x - 1 → r_.toInt = (-1) → Kp (some (.int r_)) h')
    (hR1 : ∀ (h' : zH) (r_ : Int32), sInv swC h' → sMd (kqN0_m t) h h' → 0 ≤ x → 0 ≤ -x + n - 1 → y ≠ 0 → y ≠ 1 → y ≠ 2 → r_.toInt = (-1) → Kp (some (.int r_)) h')
    (hR2 : ∀ (h' : zH) (r_ : Int32), sInv swC h' → sMd (kqN0_m t) h h' → 0 ≤ x → 0 ≤ x - n → r_.toInt = (-1) → Kp (some (.int r_)) h') : zSem l Γ false (d + 1) (zhd 78) [.ref 0, .int x_x, .int x_y] h Kp := by
  refine syf_ok (mi := 78) (fun i => [x, y, n].getD i 0) (zall_r kqN0_b h_t) (fun _ _ hc _ => nomatch hc) hd ⟨_, _, rfl, rfl, ⟨_, _, rfl, ⟨x_x, rfl, by show (-2147483648) ≤ x_x.toInt; omega, by show x_x.toInt ≤ 2147483647; omega⟩, ⟨_, _, rfl, ⟨x_y, rfl, by show (-2147483648) ≤ x_y.toInt; omega, by show x_y.toInt ≤ 2147483647; omega⟩, rfl⟩⟩⟩ ⟨rfl, ⟨x_x, rfl, e_x, by show (-2147483648) ≤ x; omega, by show x ≤ 2147483647; omega⟩, ⟨x_y, rfl, e_y, by show (-2147483648) ≤ y; omega, by show y ≤ 2147483647; omega⟩, trivial⟩ ⟨(fun _ hc => nomatch hc), (sfm q0 (fun _ hc => nomatch hc)), (fun _ hc => nomatch hc), Or.inl rfl⟩ ⟨⟨p_n, by show 0 ≤ n; omega, by show n ≤ 5; omega⟩, trivial⟩ trivial (fun _ hc => nomatch hc) hi ?_ ?_
  · intro e he lo' st' h' hp hi' hm
    rcases List.mem_cons.mp he with rfl | he
    · obtain ⟨p1, p2, -, hz⟩ := hp
      obtain ⟨⟨z1, z2, z3, z4⟩, z5, z6⟩ := hz
      have c0 : 0 ≤ x := by have q_ : (0 : Int) ≤ (1 * x + 0) + 0 := z4 ([(0, 1)], 0) (List.mem_of_getElem? (i := 0) rfl); omega
      have c1 : 0 ≤ -x + n - 1 := by have q_ : (0 : Int) ≤ ((-1) * x + (1 * n + 0)) + (-1) := z4 ([(0, (-1)), (2, 1)], (-1)) (List.mem_of_getElem? (i := 1) rfl); omega
      have c2 : y = 0 := by have q_ : (0 : Int) ≤ (1 * y + 0) + 0 := z4 ([(1, 1)], 0) (List.mem_of_getElem? (i := 2) rfl); have q2_ : (0 : Int) ≤ ((-1) * y + 0) + 0 := z4 ([(1, (-1))], 0) (List.mem_of_getElem? (i := 3) rfl); omega
      obtain ⟨_, _, rfl, ⟨y0, rfl, -⟩, p1⟩ := p1
      obtain ⟨_, _, rfl, hr, p1⟩ := p1
      have hr : _ = Value.ref (17 * t + 9) := hr
      subst hr
      obtain ⟨_, _, rfl, hr, p1⟩ := p1
      have hr : _ = Value.ref 43 := hr
      subst hr
      have p1 : _ = [] := p1
      subst p1
      obtain ⟨v_, ev, hv⟩ := z2 (0, ([(0, 1)], 0)) (List.mem_of_getElem? (i := 0) rfl)
      cases ev
      have s0 : y0.toInt = x := (show y0.toInt = (1 * x + 0) + 0 from hv).trans (by omega)
      exact hE0 lo' h' y0 hi' hm c0 c1 c2 s0
    rcases List.mem_cons.mp he with rfl | he
    · obtain ⟨p1, p2, -, hz⟩ := hp
      obtain ⟨⟨z1, z2, z3, z4⟩, z5, z6⟩ := hz
      have c0 : 0 ≤ x := by have q_ : (0 : Int) ≤ (1 * x + 0) + 0 := z4 ([(0, 1)], 0) (List.mem_of_getElem? (i := 0) rfl); omega
      have c1 : 0 ≤ -x + n - 1 := by have q_ : (0 : Int) ≤ ((-1) * x + (1 * n + 0)) + (-1) := z4 ([(0, (-1)), (2, 1)], (-1)) (List.mem_of_getElem? (i := 1) rfl); omega
      have c2 : y = 1 := by have q_ : (0 : Int) ≤ (1 * y + 0) + (-1) := z4 ([(1, 1)], (-1)) (List.mem_of_getElem? (i := 2) rfl); have q2_ : (0 : Int) ≤ ((-1) * y + 0) + 1 := z4 ([(1, (-1))], 1) (List.mem_of_getElem? (i := 3) rfl); omega
      have n0 : y ≠ 0 := fun e_ => z5 (([(1, 1)], 0), ([], 0)) (List.mem_of_getElem? (i := 0) rfl) (by show (1 * y + 0) + 0 = 0 + 0; omega)
      obtain ⟨_, _, rfl, ⟨y0, rfl, -⟩, p1⟩ := p1
      obtain ⟨_, _, rfl, hr, p1⟩ := p1
      have hr : _ = Value.ref (17 * t + 9) := hr
      subst hr
      have p1 : _ = [] := p1
      subst p1
      obtain ⟨v_, ev, hv⟩ := z2 (0, ([(0, 1)], 0)) (List.mem_of_getElem? (i := 0) rfl)
      cases ev
      have s0 : y0.toInt = x := (show y0.toInt = (1 * x + 0) + 0 from hv).trans (by omega)
      exact hE1 lo' h' y0 hi' hm c0 c1 c2 n0 s0
    rcases List.mem_cons.mp he with rfl | he
    · obtain ⟨p1, p2, -, hz⟩ := hp
      obtain ⟨⟨z1, z2, z3, z4⟩, z5, z6⟩ := hz
      have c0 : 0 ≤ x := by have q_ : (0 : Int) ≤ (1 * x + 0) + 0 := z4 ([(0, 1)], 0) (List.mem_of_getElem? (i := 0) rfl); omega
      have c1 : 0 ≤ -x + n - 1 := by have q_ : (0 : Int) ≤ ((-1) * x + (1 * n + 0)) + (-1) := z4 ([(0, (-1)), (2, 1)], (-1)) (List.mem_of_getElem? (i := 1) rfl); omega
      have c2 : y = 2 := by have q_ : (0 : Int) ≤ (1 * y + 0) + (-2) := z4 ([(1, 1)], (-2)) (List.mem_of_getElem? (i := 2) rfl); have q2_ : (0 : Int) ≤ ((-1) * y + 0) + 2 := z4 ([(1, (-1))], 2) (List.mem_of_getElem? (i := 3) rfl); omega
      have n0 : y ≠ 0 := fun e_ => z5 (([(1, 1)], 0), ([], 0)) (List.mem_of_getElem? (i := 0) rfl) (by show (1 * y + 0) + 0 = 0 + 0; omega)
      have n1 : y ≠ 1 := fun e_ => z5 (([(1, 1)], 0), ([], 1)) (List.mem_of_getElem? (i := 1) rfl) (by show (1 * y + 0) + 0 = 0 + 1; omega)
      have o0 : zget lo' 0 = some (.ref 0) := locR (p2 (0, .inr (.inl 0)) (List.mem_of_getElem? (i := 0) rfl))
      obtain ⟨_, _, rfl, ⟨y0, rfl, -⟩, p1⟩ := p1
      obtain ⟨_, _, rfl, hr, p1⟩ := p1
      have hr : _ = Value.ref (17 * t + 9) := hr
      subst hr
      have p1 : _ = [] := p1
      subst p1
      obtain ⟨v_, ev, hv⟩ := z2 (0, ([(0, 1)], 0)) (List.mem_of_getElem? (i := 0) rfl)
      cases ev
      have s0 : y0.toInt = x := (show y0.toInt = (1 * x + 0) + 0 from hv).trans (by omega)
      exact hE2 lo' h' y0 hi' hm c0 c1 c2 n0 n1 o0 s0
    cases he
  · intro e he r' h' hp hi' hm
    rcases List.mem_cons.mp he with rfl | he
    · obtain ⟨p1, -, hz⟩ := hp
      obtain ⟨⟨z1, z2, z3, z4⟩, z5, z6⟩ := hz
      have c0 : 0 ≤ -x - 1 := by have q_ : (0 : Int) ≤ ((-1) * x + 0) + (-1) := z4 ([(0, (-1))], (-1)) (List.mem_of_getElem? (i := 0) rfl); omega
      obtain ⟨r_, rfl, hv⟩ := ansI p1 (z2 (0, ([], (-1))) (List.mem_of_getElem? (i := 0) rfl))
      have s0 : r_.toInt = (-1) := (show r_.toInt = 0 + (-1) from hv).trans (by omega)
      exact hR0 h' r_ hi' hm c0 s0
    rcases List.mem_cons.mp he with rfl | he
    · obtain ⟨p1, -, hz⟩ := hp
      obtain ⟨⟨z1, z2, z3, z4⟩, z5, z6⟩ := hz
      have c0 : 0 ≤ x := by have q_ : (0 : Int) ≤ (1 * x + 0) + 0 := z4 ([(0, 1)], 0) (List.mem_of_getElem? (i := 0) rfl); omega
      have c1 : 0 ≤ -x + n - 1 := by have q_ : (0 : Int) ≤ ((-1) * x + (1 * n + 0)) + (-1) := z4 ([(0, (-1)), (2, 1)], (-1)) (List.mem_of_getElem? (i := 1) rfl); omega
      have n0 : y ≠ 0 := fun e_ => z5 (([(1, 1)], 0), ([], 0)) (List.mem_of_getElem? (i := 0) rfl) (by show (1 * y + 0) + 0 = 0 + 0; omega)
      have n1 : y ≠ 1 := fun e_ => z5 (([(1, 1)], 0), ([], 1)) (List.mem_of_getElem? (i := 1) rfl) (by show (1 * y + 0) + 0 = 0 + 1; omega)
      have n2 : y ≠ 2 := fun e_ => z5 (([(1, 1)], 0), ([], 2)) (List.mem_of_getElem? (i := 2) rfl) (by show (1 * y + 0) + 0 = 0 + 2; omega)
      obtain ⟨r_, rfl, hv⟩ := ansI p1 (z2 (0, ([], (-1))) (List.mem_of_getElem? (i := 0) rfl))
      have s0 : r_.toInt = (-1) := (show r_.toInt = 0 + (-1) from hv).trans (by omega)
      exact hR1 h' r_ hi' hm c0 c1 n0 n1 n2 s0
    rcases List.mem_cons.mp he with rfl | he
    · obtain ⟨p1, -, hz⟩ := hp
      obtain ⟨⟨z1, z2, z3, z4⟩, z5, z6⟩ := hz
      have c0 : 0 ≤ x := by have q_ : (0 : Int) ≤ (1 * x + 0) + 0 := z4 ([(0, 1)], 0) (List.mem_of_getElem? (i := 0) rfl); omega
      have c1 : 0 ≤ x - n := by have q_ : (0 : Int) ≤ (1 * x + ((-1) * n + 0)) + 0 := z4 ([(0, 1), (2, (-1))], 0) (List.mem_of_getElem? (i := 1) rfl); omega
      obtain ⟨r_, rfl, hv⟩ := ansI p1 (z2 (0, ([], (-1))) (List.mem_of_getElem? (i := 0) rfl))
      have s0 : r_.toInt = (-1) := (show r_.toInt = 0 + (-1) from hv).trans (by omega)
      exact hR2 h' r_ hi' hm c0 c1 s0
    cases he
def kqN1_L : List (Nat × sT) := []
def kqN1_S : List sT := [.inl sf32]
def kqN1_A : sAs := ([], [], [], [])
def kqN1_P : List sP0 := []
def kqN1_G : List sP0 := []
def kqN1_B : List (Nat × Nat × Int) := []
def kqN1_m : sM := []
def kqN1_r0 : sXr := (some (.inl sf32), sA0, [], ([], [(0, ([(0, 1)], 0))], [], []), [], [])
theorem kqN1_b : syeB swC sT0 kqN1_m 400 0 78 kqN1_L kqN1_S kqN1_A kqN1_P kqN1_G kqN1_B 48 [] [kqN1_r0] = true := by decide +kernel
theorem kqN1 {l : Launch} {Γ : zG} {d : Nat} (hd : 0 ≤ d) {Kp : Option Value → zH → Prop} {lo : zL} {h : zH} {v : Int} (hi : sInv swC h) (b_v : (-2147483648) ≤ v ∧ v ≤ 2147483647) {x_v : Int32} (e_v : x_v.toInt = v)
    (hR0 : ∀ (h' : zH) (r_ : Int32), sInv swC h' → sMd kqN1_m h h' → r_.toInt = v → Kp (some (.int r_)) h') : zX l Γ false (d + 1) (zhd 78) (zMQ' Γ false (zhd 78) Kp) 0 0 48 lo [.int x_v] h := by
  refine sye_ok (mi := 78) (pc := 48) (fun i => [v].getD i 0) kqN1_b (fun _ _ hc _ => nomatch hc) hd trivial ⟨x_v, _, rfl, e_v, ⟨by show (-2147483648) ≤ v; omega, by show v ≤ 2147483647; omega⟩, rfl⟩ ⟨(fun _ hc => nomatch hc), (fun _ hc => nomatch hc), (fun _ hc => nomatch hc), Or.inl rfl⟩ trivial trivial (fun _ hc => nomatch hc) hi ?_ ?_
  · intro e he lo' st' h' hp hi' hm
    cases he
  · intro e he r' h' hp hi' hm
    rcases List.mem_cons.mp he with rfl | he
    · obtain ⟨p1, -, hz⟩ := hp
      obtain ⟨⟨z1, z2, z3, z4⟩, z5, z6⟩ := hz
      obtain ⟨r_, rfl, hv⟩ := ansI p1 (z2 (0, ([(0, 1)], 0)) (List.mem_of_getElem? (i := 0) rfl))
      have s0 : r_.toInt = v := (show r_.toInt = (1 * v + 0) + 0 from hv).trans (by omega)
      exact hR0 h' r_ hi' hm s0
    cases he
def kqN2_L : List (Nat × sT) := []
def kqN2_S : List sT := [.inl sf32]
def kqN2_A : sAs := ([], [], [], [])
def kqN2_P : List sP0 := []
def kqN2_G : List sP0 := []
def kqN2_B : List (Nat × Nat × Int) := []
def kqN2_m : sM := []
def kqN2_r0 : sXr := (some (.inl sf32), sA0, [], ([], [(0, ([(0, 1)], 0))], [], []), [], [])
theorem kqN2_b : syeB swC sT0 kqN2_m 400 0 78 kqN2_L kqN2_S kqN2_A kqN2_P kqN2_G kqN2_B 57 [] [kqN2_r0] = true := by decide +kernel
theorem kqN2 {l : Launch} {Γ : zG} {d : Nat} (hd : 0 ≤ d) {Kp : Option Value → zH → Prop} {lo : zL} {h : zH} {v : Int} (hi : sInv swC h) (b_v : (-2147483648) ≤ v ∧ v ≤ 2147483647) {x_v : Int32} (e_v : x_v.toInt = v)
    (hR0 : ∀ (h' : zH) (r_ : Int32), sInv swC h' → sMd kqN2_m h h' → r_.toInt = v → Kp (some (.int r_)) h') : zX l Γ false (d + 1) (zhd 78) (zMQ' Γ false (zhd 78) Kp) 0 0 57 lo [.int x_v] h := by
  refine sye_ok (mi := 78) (pc := 57) (fun i => [v].getD i 0) kqN2_b (fun _ _ hc _ => nomatch hc) hd trivial ⟨x_v, _, rfl, e_v, ⟨by show (-2147483648) ≤ v; omega, by show v ≤ 2147483647; omega⟩, rfl⟩ ⟨(fun _ hc => nomatch hc), (fun _ hc => nomatch hc), (fun _ hc => nomatch hc), Or.inl rfl⟩ trivial trivial (fun _ hc => nomatch hc) hi ?_ ?_
  · intro e he lo' st' h' hp hi' hm
    cases he
  · intro e he r' h' hp hi' hm
    rcases List.mem_cons.mp he with rfl | he
    · obtain ⟨p1, -, hz⟩ := hp
      obtain ⟨⟨z1, z2, z3, z4⟩, z5, z6⟩ := hz
      obtain ⟨r_, rfl, hv⟩ := ansI p1 (z2 (0, ([(0, 1)], 0)) (List.mem_of_getElem? (i := 0) rfl))
      have s0 : r_.toInt = v := (show r_.toInt = (1 * v + 0) + 0 from hv).trans (by omega)
      exact hR0 h' r_ hi' hm s0
    cases he
def kqN3_L : List (Nat × sT) := [(0, .inr (.inl 0))]
def kqN3_S : List sT := [.inl (0, 255)]
def kqN3_A : sAs := ([], [], [], [])
def kqN3_P : List sP0 := [(43, (none, 3), (0, 255))]
def kqN3_G : List sP0 := []
def kqN3_B : List (Nat × Nat × Int) := []
def kqN3_m : sM := []
def kqN3_r0 : sXr := (some (.inl sf32), sA0, [(0, 2, ([(0, 1)], 0), ([(1, 1)], 0))], ([], [(0, ([(2, 1)], 0))], [], []), [], [])
theorem kqN3_b : syeB swC sT0 kqN3_m 400 0 78 kqN3_L kqN3_S kqN3_A kqN3_P kqN3_G kqN3_B 66 [] [kqN3_r0] = true := by decide +kernel
theorem kqN3 {l : Launch} {Γ : zG} {d : Nat} (hd : 0 ≤ d) {Kp : Option Value → zH → Prop} {lo : zL} {h : zH} {v wv : Int} (hi : sInv swC h) (b_v : 0 ≤ v ∧ v ≤ 255) (b_wv : 0 ≤ wv ∧ wv ≤ 255) (l0 : zget lo 0 = some (.ref 0)) {x_v : Int32} (e_v : x_v.toInt = v) (p_wv : pI h 43 3 = wv)
    (hR0 : ∀ (h' : zH) (w0 : Int) (r_ : Int32), sInv swC h' → sMd kqN3_m h h' → w0 = sgfn 2 v wv → r_.toInt = w0 → Kp (some (.int r_)) h') : zX l Γ false (d + 1) (zhd 78) (zMQ' Γ false (zhd 78) Kp) 0 0 66 lo [.int x_v] h := by
  refine sye_ok (mi := 78) (pc := 66) (fun i => [v, wv].getD i 0) kqN3_b (fun _ _ hc _ => nomatch hc) hd ⟨l0, trivial⟩ ⟨x_v, _, rfl, e_v, ⟨by show 0 ≤ v; omega, by show v ≤ 255; omega⟩, rfl⟩ ⟨(fun _ hc => nomatch hc), (fun _ hc => nomatch hc), (fun _ hc => nomatch hc), Or.inl rfl⟩ ⟨⟨p_wv, by show 0 ≤ wv; omega, by show wv ≤ 255; omega⟩, trivial⟩ trivial (fun _ hc => nomatch hc) hi ?_ ?_
  · intro e he lo' st' h' hp hi' hm
    cases he
  · intro e he r' h' hp hi' hm
    rcases List.mem_cons.mp he with rfl | he
    · obtain ⟨p1, -, hz⟩ := hp
      obtain ⟨w0, f0, hz⟩ := hz
      obtain ⟨⟨z1, z2, z3, z4⟩, z5, z6⟩ := hz
      have g0 : w0 = sgfn 2 v wv := (show w0 = sgfn 2 ((1 * v + 0) + 0) ((1 * wv + 0) + 0) from f0).trans (sgfn_c (by omega) (by omega))
      obtain ⟨r_, rfl, hv⟩ := ansI p1 (z2 (0, ([(2, 1)], 0)) (List.mem_of_getElem? (i := 0) rfl))
      have s0 : r_.toInt = w0 := (show r_.toInt = (1 * w0 + 0) + 0 from hv).trans (by omega)
      exact hR0 h' w0 r_ hi' hm g0 s0
    cases he
def kqG0_L (t : Nat) : List sT := [.inr (.inl (17 * t + 9)), .inl sf32]
def kqG0_A (t : Nat) : sAs := ([], [], [], [])
def kqG0_P (t : Nat) : List sP0 := []
def kqG0_G (t : Nat) : List sP0 := []
def kqG0_B (t : Nat) : List (Nat × Nat × Int) := []
def kqG0_m (t : Nat) : sM := []
def kqG0_e0 (t : Nat) : sXe := (4, [], [(0, .inr (.inl (17 * t + 9))), (1, .inl sf32), (2, .inl sf32), (3, .inl sf32)], sA0, [], ([], [], [(1, ([(0, 1)], 0)), (2, ([], 0)), (3, ([], 0))], []), [], [])
theorem kqG0_b : ((List.range 2).all fun t => syfB swC sT0 (kqG0_m t) 400 0 81 (kqG0_L t) (kqG0_A t) (kqG0_P t) (kqG0_G t) (kqG0_B t) [kqG0_e0 t] []) = true := by decide +kernel
theorem kqG0 {l : Launch} {Γ : zG} {d : Nat} (hd : 0 ≤ d) {Kp : Option Value → zH → Prop} {h : zH} {t : Nat} (h_t : t < 2) {mm : Int} (hi : sInv swC h) (b_mm : (-2147483648) ≤ mm ∧ mm ≤ 2147483647) {x_mm : Int32} (e_mm : x_mm.toInt = mm)
    (hE0 : ∀ (lo' : zL) (h' : zH), sInv swC h' → sMd (kqG0_m t) h h' → zget lo' 0 = some (.ref (17 * t + 9)) → zI lo' 1 mm → zI lo' 2 0 → zI lo' 3 0 → zX l Γ false (d + 1) (zhd 81) (zMQ' Γ false (zhd 81) Kp) 0 0 4 lo' [] h') : zSem l Γ false (d + 1) (zhd 81) [.ref (17 * t + 9), .int x_mm] h Kp := by
  refine syf_ok (mi := 81) (fun i => [mm].getD i 0) (zall_r kqG0_b h_t) (fun _ _ hc _ => nomatch hc) hd ⟨_, _, rfl, rfl, ⟨_, _, rfl, ⟨x_mm, rfl, by show (-2147483648) ≤ x_mm.toInt; omega, by show x_mm.toInt ≤ 2147483647; omega⟩, rfl⟩⟩ ⟨rfl, ⟨x_mm, rfl, e_mm, by show (-2147483648) ≤ mm; omega, by show mm ≤ 2147483647; omega⟩, trivial⟩ ⟨(fun _ hc => nomatch hc), (fun _ hc => nomatch hc), (fun _ hc => nomatch hc), Or.inl rfl⟩ trivial trivial (fun _ hc => nomatch hc) hi ?_ ?_
  · intro e he lo' st' h' hp hi' hm
    rcases List.mem_cons.mp he with rfl | he
    · obtain ⟨p1, p2, -, hz⟩ := hp
      obtain ⟨⟨z1, z2, z3, z4⟩, z5, z6⟩ := hz
      have o0 : zget lo' 0 = some (.ref (17 * t + 9)) := locR (p2 (0, .inr (.inl (17 * t + 9))) (List.mem_of_getElem? (i := 0) rfl))
      have o1 : zI lo' 1 mm := zI_of (p2 (1, .inl sf32) (List.mem_of_getElem? (i := 1) rfl)) (z3 (1, ([(0, 1)], 0)) (List.mem_of_getElem? (i := 0) rfl)) (show (1 * mm + 0) + 0 = mm from by omega)
      have o2 : zI lo' 2 0 := zI_of (p2 (2, .inl sf32) (List.mem_of_getElem? (i := 2) rfl)) (z3 (2, ([], 0)) (List.mem_of_getElem? (i := 1) rfl)) (show 0 + 0 = 0 from by omega)
      have o3 : zI lo' 3 0 := zI_of (p2 (3, .inl sf32) (List.mem_of_getElem? (i := 3) rfl)) (z3 (3, ([], 0)) (List.mem_of_getElem? (i := 2) rfl)) (show 0 + 0 = 0 from by omega)
      have p1 : _ = [] := p1
      subst p1
      exact hE0 lo' h' hi' hm o0 o1 o2 o3
    cases he
  · intro e he r' h' hp hi' hm
    cases he
def kqG1_L (g : Nat) (t : Nat) : List (Nat × sT) := [(0, .inr (.inl (17 * t + 9))), (1, .inl sf32), (2, .inl (0, 255)), (3, .inl ((g : Int), (g : Int)))]
def kqG1_S (g : Nat) (t : Nat) : List sT := []
def kqG1_A (g : Nat) (t : Nat) : sAs := ([], [], [], [])
def kqG1_P (g : Nat) (t : Nat) : List sP0 := [((17 * t + 12), (none, 3), (((g : Int) + 1), 8)), ((17 * t + 13), (none, (((6 * g + 1) : Nat) : Int)), sf32)]
def kqG1_G (g : Nat) (t : Nat) : List sP0 := []
def kqG1_B (g : Nat) (t : Nat) : List (Nat × Nat × Int) := []
def kqG1_m (g : Nat) (t : Nat) : sM := []
def kqG1_e0 (g : Nat) (t : Nat) : sXe := (4, [], [(0, .inr (.inl (17 * t + 9))), (1, .inl sf32), (2, .inl sf32), (3, .inl sf32)], sA0, [(0, 3, ([], 1), ([], (g : Int))), (0, 0, ([(1, 1)], 0), ([(5, 1)], 0))], ([], [], [(1, ([(0, 1)], 0)), (2, ([(6, 1)], 0)), (3, ([], ((g : Int) + 1)))], [([(0, (-1)), (4, 1)], 0), ([(0, 1), (4, (-1))], 0)]), [], [])
def kqG1_e1 (g : Nat) (t : Nat) : sXe := (4, [], [(0, .inr (.inl (17 * t + 9))), (1, .inl sf32), (2, .inl sf32), (3, .inl sf32)], sA0, [], ([], [], [(1, ([(0, 1)], 0)), (2, ([(1, 1)], 0)), (3, ([], ((g : Int) + 1)))], []), [(([(4, 1)], 0), ([(0, 1)], 0))], [])
theorem kqG1_b : ((List.range 8).all fun g => ((List.range 2).all fun t => syeB swC sT0 (kqG1_m g t) 400 1 81 (kqG1_L g t) (kqG1_S g t) (kqG1_A g t) (kqG1_P g t) (kqG1_G g t) (kqG1_B g t) 4 [kqG1_e0 g t, kqG1_e1 g t] [])) = true := by decide +kernel
theorem kqG1 {l : Launch} {Γ : zG} {d : Nat} (hd : 1 ≤ d) {Kp : Option Value → zH → Prop} {lo : zL} {h : zH} {g : Nat} (h_g : g < 8) {t : Nat} (h_t : t < 2) {mm ac n who : Int} (hi : sInv swC h) (b_mm : (-2147483648) ≤ mm ∧ mm ≤ 2147483647) (b_ac : 0 ≤ ac ∧ ac ≤ 255) (b_n : ((g : Int) + 1) ≤ n ∧ n ≤ 8) (b_who : (-2147483648) ≤ who ∧ who ≤ 2147483647) (l0 : zget lo 0 = some (.ref (17 * t + 9))) (l1 : zI lo 1 mm) (l2 : zI lo 2 ac) (l3 : zI lo 3 (g : Int)) (p_n : pI h (17 * t + 12) 3 = n) (p_who : pI h (17 * t + 13) (6 * g + 1) = who)
    (hE0 : ∀ (lo' : zL) (h' : zH) (w0 w1 : Int), sInv swC h' → sMd (kqG1_m g t) h h' → w0 = sgfn 3 1 (g : Int) → w1 = sgfn 0 ac w0 → who = mm → zget lo' 0 = some (.ref (17 * t + 9)) → zI lo' 1 mm → zI lo' 2 w1 → zI lo' 3 ((g : Int) + 1) → zX l Γ false (d + 1) (zhd 81) (zMQ' Γ false (zhd 81) Kp) 0 0 4 lo' [] h')
    (hE1 : ∀ (lo' : zL) (h' : zH), sInv swC h' → sMd (kqG1_m g t) h h' → who ≠ mm → zget lo' 0 = some (.ref (17 * t + 9)) → zI lo' 1 mm → zI lo' 2 ac → zI lo' 3 ((g : Int) + 1) → zX l Γ false (d + 1) (zhd 81) (zMQ' Γ false (zhd 81) Kp) 0 0 4 lo' [] h') : zX l Γ false (d + 1) (zhd 81) (zMQ' Γ false (zhd 81) Kp) 0 0 4 lo [] h := by
  refine sye_ok (mi := 81) (pc := 4) (fun i => [mm, ac, (g : Int), n, who].getD i 0) (zall_r (zall_r kqG1_b h_g) h_t) (fun _ _ hc _ => nomatch hc) hd ⟨l0, zIm l1 (by show (-2147483648) ≤ mm; omega) (by show mm ≤ 2147483647; omega), zIm l2 (by show 0 ≤ ac; omega) (by show ac ≤ 255; omega), zIm l3 (by show (g : Int) ≤ (g : Int); omega) (by show (g : Int) ≤ (g : Int); omega), trivial⟩ rfl ⟨(fun _ hc => nomatch hc), (fun _ hc => nomatch hc), (fun _ hc => nomatch hc), Or.inl rfl⟩ ⟨⟨p_n, by show ((g : Int) + 1) ≤ n; omega, by show n ≤ 8; omega⟩, ⟨p_who, by show (-2147483648) ≤ who; omega, by show who ≤ 2147483647; omega⟩, trivial⟩ trivial (fun _ hc => nomatch hc) hi ?_ ?_
  · intro e he lo' st' h' hp hi' hm
    rcases List.mem_cons.mp he with rfl | he
    · obtain ⟨p1, p2, -, hz⟩ := hp
      obtain ⟨w0, f0, hz⟩ := hz
      obtain ⟨w1, f1, hz⟩ := hz
      obtain ⟨⟨z1, z2, z3, z4⟩, z5, z6⟩ := hz
      have g0 : w0 = sgfn 3 1 (g : Int) := (show w0 = sgfn 3 (0 + 1) (0 + (g : Int)) from f0).trans (sgfn_c (by omega) (by omega))
      have g1 : w1 = sgfn 0 ac w0 := (show w1 = sgfn 0 ((1 * ac + 0) + 0) ((1 * w0 + 0) + 0) from f1).trans (sgfn_c (by omega) (by omega))
      have c0 : who = mm := by have q_ : (0 : Int) ≤ ((-1) * mm + (1 * who + 0)) + 0 := z4 ([(0, (-1)), (4, 1)], 0) (List.mem_of_getElem? (i := 0) rfl); have q2_ : (0 : Int) ≤ (1 * mm + ((-1) * who + 0)) + 0 := z4 ([(0, 1), (4, (-1))], 0) (List.mem_of_getElem? (i := 1) rfl); omega
      have o0 : zget lo' 0 = some (.ref (17 * t + 9)) := locR (p2 (0, .inr (.inl (17 * t + 9))) (List.mem_of_getElem? (i := 0) rfl))
      have o1 : zI lo' 1 mm := zI_of (p2 (1, .inl sf32) (List.mem_of_getElem? (i := 1) rfl)) (z3 (1, ([(0, 1)], 0)) (List.mem_of_getElem? (i := 0) rfl)) (show (1 * mm + 0) + 0 = mm from by omega)
      have o2 : zI lo' 2 w1 := zI_of (p2 (2, .inl sf32) (List.mem_of_getElem? (i := 2) rfl)) (z3 (2, ([(6, 1)], 0)) (List.mem_of_getElem? (i := 1) rfl)) (show (1 * w1 + 0) + 0 = w1 from by omega)
      have o3 : zI lo' 3 ((g : Int) + 1) := zI_of (p2 (3, .inl sf32) (List.mem_of_getElem? (i := 3) rfl)) (z3 (3, ([], ((g : Int) + 1))) (List.mem_of_getElem? (i := 2) rfl)) (show 0 + ((g : Int) + 1) = ((g : Int) + 1) from by omega)
      have p1 : _ = [] := p1
      subst p1
      exact hE0 lo' h' w0 w1 hi' hm g0 g1 c0 o0 o1 o2 o3
    rcases List.mem_cons.mp he with rfl | he
    · obtain ⟨p1, p2, -, hz⟩ := hp
      obtain ⟨⟨z1, z2, z3, z4⟩, z5, z6⟩ := hz
      have n0 : who ≠ mm := fun e_ => z5 (([(4, 1)], 0), ([(0, 1)], 0)) (List.mem_of_getElem? (i := 0) rfl) (by show (1 * who + 0) + 0 = (1 * mm + 0) + 0; omega)
      have o0 : zget lo' 0 = some (.ref (17 * t + 9)) := locR (p2 (0, .inr (.inl (17 * t + 9))) (List.mem_of_getElem? (i := 0) rfl))
      have o1 : zI lo' 1 mm := zI_of (p2 (1, .inl sf32) (List.mem_of_getElem? (i := 1) rfl)) (z3 (1, ([(0, 1)], 0)) (List.mem_of_getElem? (i := 0) rfl)) (show (1 * mm + 0) + 0 = mm from by omega)
      have o2 : zI lo' 2 ac := zI_of (p2 (2, .inl sf32) (List.mem_of_getElem? (i := 2) rfl)) (z3 (2, ([(1, 1)], 0)) (List.mem_of_getElem? (i := 1) rfl)) (show (1 * ac + 0) + 0 = ac from by omega)
      have o3 : zI lo' 3 ((g : Int) + 1) := zI_of (p2 (3, .inl sf32) (List.mem_of_getElem? (i := 3) rfl)) (z3 (3, ([], ((g : Int) + 1))) (List.mem_of_getElem? (i := 2) rfl)) (show 0 + ((g : Int) + 1) = ((g : Int) + 1) from by omega)
      have p1 : _ = [] := p1
      subst p1
      exact hE1 lo' h' hi' hm n0 o0 o1 o2 o3
    cases he
  · intro e he r' h' hp hi' hm
    cases he
def kqG2_L (g : Nat) (t : Nat) : List (Nat × sT) := [(0, .inr (.inl (17 * t + 9))), (1, .inl sf32), (2, .inl (0, 255)), (3, .inl ((g : Int), (g : Int)))]
def kqG2_S (g : Nat) (t : Nat) : List sT := []
def kqG2_A (g : Nat) (t : Nat) : sAs := ([], [], [], [])
def kqG2_P (g : Nat) (t : Nat) : List sP0 := [((17 * t + 12), (none, 3), (0, (g : Int)))]
def kqG2_G (g : Nat) (t : Nat) : List sP0 := []
def kqG2_B (g : Nat) (t : Nat) : List (Nat × Nat × Int) := []
def kqG2_m (g : Nat) (t : Nat) : sM := []
def kqG2_r0 (g : Nat) (t : Nat) : sXr := (some (.inl sf32), sA0, [], ([], [(0, ([(1, 1)], 0))], [], []), [], [])
theorem kqG2_b : ((List.range 9).all fun g => ((List.range 2).all fun t => syeB swC sT0 (kqG2_m g t) 400 0 81 (kqG2_L g t) (kqG2_S g t) (kqG2_A g t) (kqG2_P g t) (kqG2_G g t) (kqG2_B g t) 4 [] [kqG2_r0 g t])) = true := by decide +kernel
theorem kqG2 {l : Launch} {Γ : zG} {d : Nat} (hd : 0 ≤ d) {Kp : Option Value → zH → Prop} {lo : zL} {h : zH} {g : Nat} (h_g : g < 9) {t : Nat} (h_t : t < 2) {mm ac n : Int} (hi : sInv swC h) (b_mm : (-2147483648) ≤ mm ∧ mm ≤ 2147483647) (b_ac : 0 ≤ ac ∧ ac ≤ 255) (b_n : 0 ≤ n ∧ n ≤ (g : Int)) (l0 : zget lo 0 = some (.ref (17 * t + 9))) (l1 : zI lo 1 mm) (l2 : zI lo 2 ac) (l3 : zI lo 3 (g : Int)) (p_n : pI h (17 * t + 12) 3 = n)
    (hR0 : ∀ (h' : zH) (r_ : Int32), sInv swC h' → sMd (kqG2_m g t) h h' → r_.toInt = ac → Kp (some (.int r_)) h') : zX l Γ false (d + 1) (zhd 81) (zMQ' Γ false (zhd 81) Kp) 0 0 4 lo [] h := by
  refine sye_ok (mi := 81) (pc := 4) (fun i => [mm, ac, (g : Int), n].getD i 0) (zall_r (zall_r kqG2_b h_g) h_t) (fun _ _ hc _ => nomatch hc) hd ⟨l0, zIm l1 (by show (-2147483648) ≤ mm; omega) (by show mm ≤ 2147483647; omega), zIm l2 (by show 0 ≤ ac; omega) (by show ac ≤ 255; omega), zIm l3 (by show (g : Int) ≤ (g : Int); omega) (by show (g : Int) ≤ (g : Int); omega), trivial⟩ rfl ⟨(fun _ hc => nomatch hc), (fun _ hc => nomatch hc), (fun _ hc => nomatch hc), Or.inl rfl⟩ ⟨⟨p_n, by show 0 ≤ n; omega, by show n ≤ (g : Int); omega⟩, trivial⟩ trivial (fun _ hc => nomatch hc) hi ?_ ?_
  · intro e he lo' st' h' hp hi' hm
    cases he
  · intro e he r' h' hp hi' hm
    rcases List.mem_cons.mp he with rfl | he
    · obtain ⟨p1, -, hz⟩ := hp
      obtain ⟨⟨z1, z2, z3, z4⟩, z5, z6⟩ := hz
      obtain ⟨r_, rfl, hv⟩ := ansI p1 (z2 (0, ([(1, 1)], 0)) (List.mem_of_getElem? (i := 0) rfl))
      have s0 : r_.toInt = ac := (show r_.toInt = (1 * ac + 0) + 0 from hv).trans (by omega)
      exact hR0 h' r_ hi' hm s0
    cases he
def krN0_L : List sT := [.inr (.inl 0), .inl sf32, .inl sf32]
def krN0_A : sAs := ([], [], [], [])
def krN0_P : List sP0 := [(0, (none, 12), (0, 5))]
def krN0_G : List sP0 := []
def krN0_B : List (Nat × Nat × Int) := []
def krN0_m : sM := [(0, 2, 3)]
def krN0_e0 : sXe := (22, [.inl sf32, .inl sf32, .inr (.inl 0)], [], sA0, [], ([(0, (none, 2), ([], 0))], [(0, ([(0, 1)], 0)), (1, ([], 0))], [], [([(0, 1)], 0), ([(0, (-1)), (2, 1)], (-1)), ([(1, 1)], 0), ([(1, (-1))], 0)]), [], [])
def krN0_e1 : sXe := (36, [.inl sf32, .inl sf32, .inr (.inl 0)], [], sA0, [], ([(0, (none, 2), ([], 0))], [(0, ([], 0)), (1, ([(0, 1)], 0))], [], [([(0, 1)], 0), ([(0, (-1)), (2, 1)], (-1)), ([(1, 1)], (-1)), ([(1, (-1))], 1)]), [(([(1, 1)], 0), ([], 0))], [])
def krN0_e2 : sXe := (50, [.inl sf32, .inl sf32, .inr (.inl 0)], [], sA0, [], ([(0, (none, 2), ([], 0))], [(0, ([], 1)), (1, ([(0, 1)], 0))], [], [([(0, 1)], 0), ([(0, (-1)), (2, 1)], (-1)), ([(1, 1)], (-2)), ([(1, (-1))], 2)]), [(([(1, 1)], 0), ([], 0)), (([(1, 1)], 0), ([], 1))], [])
def krN0_r0 : sXr := (some (.inl sf32), sA0, [], ([(0, (none, 2), ([], 0))], [(0, ([], (-1)))], [], [([(0, (-1))], (-1))]), [], [])
def krN0_r1 : sXr := (some (.inl sf32), sA0, [], ([(0, (none, 2), ([], 0))], [(0, ([], (-1)))], [], [([(0, 1)], 0), ([(0, 1), (2, (-1))], 0)]), [], [])
def krN0_r2 : sXr := (some (.inl sf32), sA0, [], ([(0, (none, 2), ([], 0))], [(0, ([], (-1)))], [], [([(0, 1)], 0), ([(0, (-1)), (2, 1)], (-1))]), [(([(1, 1)], 0), ([], 0)), (([(1, 1)], 0), ([], 1)), (([(1, 1)], 0), ([], 2))], [])
theorem krN0_b : syfB swM sT0 krN0_m 400 1 231 krN0_L krN0_A krN0_P krN0_G krN0_B [krN0_e0, krN0_e1, krN0_e2] [krN0_r0, krN0_r1, krN0_r2] = true := by decide +kernel
theorem krN0 {l : Launch} {Γ : zG} {d : Nat} (hd : 1 ≤ d) {Kp : Option Value → zH → Prop} {h : zH} {x y n : Int} (hi : sInv swM h) (b_x : (-2147483648) ≤ x ∧ x ≤ 2147483647) (b_y : (-2147483648) ≤ y ∧ y ≤ 2147483647) (b_n : 0 ≤ n ∧ n ≤ 5) {x_x : Int32} (e_x : x_x.toInt = x) {x_y : Int32} (e_y : x_y.toInt = y) (p_n : pI h 0 12 = n)
    (hE0 : ∀ (lo' : zL) (h' : zH) (y0 : Int32) (y1 : Int32), sInv swM h' → sMd krN0_m h h' → 0 ≤ x → 0 ≤ -x + n - 1 → y = 0 → pI h' 0 2 = 0 → y0.toInt = x → y1.toInt = 0 → zX l Γ false (d + 1) (zhd 231) (zMQ' Γ false (zhd 231) Kp) 0 0 22 lo' [.int y0, .int y1, .ref 0] h')
    (hE1 : ∀ (lo' : zL) (h' : zH) (y0 : Int32) (y1 : Int32), sInv swM h' → sMd krN0_m h h' → 0 ≤ x → 0 ≤ -x + n - 1 → y = 1 → y ≠ 0 → pI h' 0 2 = 0 → y0.toInt = 0 → y1.toInt = x → zX l Γ false (d + 1) (zhd 231) (zMQ' Γ false (zhd 231) Kp) 0 0 36 lo' [.int y0, .int y1, .ref 0] h')
    (hE2 : ∀ (lo' : zL) (h' : zH) (y0 : Int32) (y1 : Int32), sInv swM h' → sMd krN0_m h h' → 0 ≤ x → 0 ≤ -x + n - 1 → y = 2 → y ≠ 0 → y ≠ 1 → pI h' 0 2 = 0 → y0.toInt = 1 → y1.toInt = x → zX l Γ false (d + 1) (zhd 231) (zMQ' Γ false (zhd 231) Kp) 0 0 50 lo' [.int y0, .int y1, .ref 0] h')
    (hR0 : ∀ (h' : zH) (r_ : Int32), sInv swM h' → sMd krN0_m h h' → 0 ≤ -x - 1 → pI h' 0 2 = 0 → r_.toInt = (-1) → Kp (some (.int r_)) h')
    (hR1 : ∀ (h' : zH) (r_ : Int32), sInv swM h' → sMd krN0_m h h' → 0 ≤ x → 0 ≤ x - n → pI h' 0 2 = 0 → r_.toInt = (-1) → Kp (some (.int r_)) h')
    (hR2 : ∀ (h' : zH) (r_ : Int32), sInv swM h' → sMd krN0_m h h' → 0 ≤ x → 0 ≤ -x + n - 1 → y ≠ 0 → y ≠ 1 → y ≠ 2 → pI h' 0 2 = 0 → r_.toInt = (-1) → Kp (some (.int r_)) h') : zSem l Γ false (d + 1) (zhd 231) [.ref 0, .int x_x, .int x_y] h Kp := by
  refine syf_ok (mi := 231) (fun i => [x, y, n].getD i 0) krN0_b (fun _ _ hc _ => nomatch hc) hd ⟨_, _, rfl, rfl, ⟨_, _, rfl, ⟨x_x, rfl, by show (-2147483648) ≤ x_x.toInt; omega, by show x_x.toInt ≤ 2147483647; omega⟩, ⟨_, _, rfl, ⟨x_y, rfl, by show (-2147483648) ≤ x_y.toInt; omega, by show x_y.toInt ≤ 2147483647; omega⟩, rfl⟩⟩⟩ ⟨rfl, ⟨x_x, rfl, e_x, by show (-2147483648) ≤ x; omega, by show x ≤ 2147483647; omega⟩, ⟨x_y, rfl, e_y, by show (-2147483648) ≤ y; omega, by show y ≤ 2147483647; omega⟩, trivial⟩ ⟨(fun _ hc => nomatch hc), (fun _ hc => nomatch hc), (fun _ hc => nomatch hc), Or.inl rfl⟩ ⟨⟨p_n, by show 0 ≤ n; omega, by show n ≤ 5; omega⟩, trivial⟩ trivial (fun _ hc => nomatch hc) hi ?_ ?_
  · intro e he lo' st' h' hp hi' hm
    rcases List.mem_cons.mp he with rfl | he
    · obtain ⟨p1, p2, -, hz⟩ := hp
      obtain ⟨⟨z1, z2, z3, z4⟩, z5, z6⟩ := hz
      have c0 : 0 ≤ x := by have q_ : (0 : Int) ≤ (1 * x + 0) + 0 := z4 ([(0, 1)], 0) (List.mem_of_getElem? (i := 0) rfl); omega
      have c1 : 0 ≤ -x + n - 1 := by have q_ : (0 : Int) ≤ ((-1) * x + (1 * n + 0)) + (-1) := z4 ([(0, (-1)), (2, 1)], (-1)) (List.mem_of_getElem? (i := 1) rfl); omega
      have c2 : y = 0 := by have q_ : (0 : Int) ≤ (1 * y + 0) + 0 := z4 ([(1, 1)], 0) (List.mem_of_getElem? (i := 2) rfl); have q2_ : (0 : Int) ≤ ((-1) * y + 0) + 0 := z4 ([(1, (-1))], 0) (List.mem_of_getElem? (i := 3) rfl); omega
      have k0 : pI h' 0 2 = 0 := (show pI h' 0 2 = 0 + 0 from z1 (0, (none, 2), ([], 0)) (List.mem_of_getElem? (i := 0) rfl)).trans (by omega)
      obtain ⟨_, _, rfl, ⟨y0, rfl, -⟩, p1⟩ := p1
      obtain ⟨_, _, rfl, ⟨y1, rfl, -⟩, p1⟩ := p1
      obtain ⟨_, _, rfl, hr, p1⟩ := p1
      have hr : _ = Value.ref 0 := hr
      subst hr
      have p1 : _ = [] := p1
      subst p1
      obtain ⟨v_, ev, hv⟩ := z2 (0, ([(0, 1)], 0)) (List.mem_of_getElem? (i := 0) rfl)
      cases ev
      have s0 : y0.toInt = x := (show y0.toInt = (1 * x + 0) + 0 from hv).trans (by omega)
      obtain ⟨v_, ev, hv⟩ := z2 (1, ([], 0)) (List.mem_of_getElem? (i := 1) rfl)
      cases ev
      have s1 : y1.toInt = 0 := (show y1.toInt = 0 + 0 from hv).trans (by omega)
      exact hE0 lo' h' y0 y1 hi' hm c0 c1 c2 k0 s0 s1
    rcases List.mem_cons.mp he with rfl | he
    · obtain ⟨p1, p2, -, hz⟩ := hp
      obtain ⟨⟨z1, z2, z3, z4⟩, z5, z6⟩ := hz
      have c0 : 0 ≤ x := by have q_ : (0 : Int) ≤ (1 * x + 0) + 0 := z4 ([(0, 1)], 0) (List.mem_of_getElem? (i := 0) rfl); omega
      have c1 : 0 ≤ -x + n - 1 := by have q_ : (0 : Int) ≤ ((-1) * x + (1 * n + 0)) + (-1) := z4 ([(0, (-1)), (2, 1)], (-1)) (List.mem_of_getElem? (i := 1) rfl); omega
      have c2 : y = 1 := by have q_ : (0 : Int) ≤ (1 * y + 0) + (-1) := z4 ([(1, 1)], (-1)) (List.mem_of_getElem? (i := 2) rfl); have q2_ : (0 : Int) ≤ ((-1) * y + 0) + 1 := z4 ([(1, (-1))], 1) (List.mem_of_getElem? (i := 3) rfl); omega
      have n0 : y ≠ 0 := fun e_ => z5 (([(1, 1)], 0), ([], 0)) (List.mem_of_getElem? (i := 0) rfl) (by show (1 * y + 0) + 0 = 0 + 0; omega)
      have k0 : pI h' 0 2 = 0 := (show pI h' 0 2 = 0 + 0 from z1 (0, (none, 2), ([], 0)) (List.mem_of_getElem? (i := 0) rfl)).trans (by omega)
      obtain ⟨_, _, rfl, ⟨y0, rfl, -⟩, p1⟩ := p1
      obtain ⟨_, _, rfl, ⟨y1, rfl, -⟩, p1⟩ := p1
      obtain ⟨_, _, rfl, hr, p1⟩ := p1
      have hr : _ = Value.ref 0 := hr
      subst hr
      have p1 : _ = [] := p1
      subst p1
      obtain ⟨v_, ev, hv⟩ := z2 (0, ([], 0)) (List.mem_of_getElem? (i := 0) rfl)
      cases ev
      have s0 : y0.toInt = 0 := (show y0.toInt = 0 + 0 from hv).trans (by omega)
      obtain ⟨v_, ev, hv⟩ := z2 (1, ([(0, 1)], 0)) (List.mem_of_getElem? (i := 1) rfl)
      cases ev
      have s1 : y1.toInt = x := (show y1.toInt = (1 * x + 0) + 0 from hv).trans (by omega)
      exact hE1 lo' h' y0 y1 hi' hm c0 c1 c2 n0 k0 s0 s1
    rcases List.mem_cons.mp he with rfl | he
    · obtain ⟨p1, p2, -, hz⟩ := hp
      obtain ⟨⟨z1, z2, z3, z4⟩, z5, z6⟩ := hz
      have c0 : 0 ≤ x := by have q_ : (0 : Int) ≤ (1 * x + 0) + 0 := z4 ([(0, 1)], 0) (List.mem_of_getElem? (i := 0) rfl); omega
      have c1 : 0 ≤ -x + n - 1 := by have q_ : (0 : Int) ≤ ((-1) * x + (1 * n + 0)) + (-1) := z4 ([(0, (-1)), (2, 1)], (-1)) (List.mem_of_getElem? (i := 1) rfl); omega
      have c2 : y = 2 := by have q_ : (0 : Int) ≤ (1 * y + 0) + (-2) := z4 ([(1, 1)], (-2)) (List.mem_of_getElem? (i := 2) rfl); have q2_ : (0 : Int) ≤ ((-1) * y + 0) + 2 := z4 ([(1, (-1))], 2) (List.mem_of_getElem? (i := 3) rfl); omega
      have n0 : y ≠ 0 := fun e_ => z5 (([(1, 1)], 0), ([], 0)) (List.mem_of_getElem? (i := 0) rfl) (by show (1 * y + 0) + 0 = 0 + 0; omega)
      have n1 : y ≠ 1 := fun e_ => z5 (([(1, 1)], 0), ([], 1)) (List.mem_of_getElem? (i := 1) rfl) (by show (1 * y + 0) + 0 = 0 + 1; omega)
      have k0 : pI h' 0 2 = 0 := (show pI h' 0 2 = 0 + 0 from z1 (0, (none, 2), ([], 0)) (List.mem_of_getElem? (i := 0) rfl)).trans (by omega)
      obtain ⟨_, _, rfl, ⟨y0, rfl, -⟩, p1⟩ := p1
      obtain ⟨_, _, rfl, ⟨y1, rfl, -⟩, p1⟩ := p1
      obtain ⟨_, _, rfl, hr, p1⟩ := p1
      have hr : _ = Value.ref 0 := hr
      subst hr
      have p1 : _ = [] := p1
      subst p1
      obtain ⟨v_, ev, hv⟩ := z2 (0, ([], 1)) (List.mem_of_getElem? (i := 0) rfl)
      cases ev
      have s0 : y0.toInt = 1 := (show y0.toInt = 0 + 1 from hv).trans (by omega)
      obtain ⟨v_, ev, hv⟩ := z2 (1, ([(0, 1)], 0)) (List.mem_of_getElem? (i := 1) rfl)
      cases ev
      have s1 : y1.toInt = x := (show y1.toInt = (1 * x + 0) + 0 from hv).trans (by omega)
      exact hE2 lo' h' y0 y1 hi' hm c0 c1 c2 n0 n1 k0 s0 s1
    cases he
  · intro e he r' h' hp hi' hm
    rcases List.mem_cons.mp he with rfl | he
    · obtain ⟨p1, -, hz⟩ := hp
      obtain ⟨⟨z1, z2, z3, z4⟩, z5, z6⟩ := hz
      have c0 : 0 ≤ -x - 1 := by have q_ : (0 : Int) ≤ ((-1) * x + 0) + (-1) := z4 ([(0, (-1))], (-1)) (List.mem_of_getElem? (i := 0) rfl); omega
      have k0 : pI h' 0 2 = 0 := (show pI h' 0 2 = 0 + 0 from z1 (0, (none, 2), ([], 0)) (List.mem_of_getElem? (i := 0) rfl)).trans (by omega)
      obtain ⟨r_, rfl, hv⟩ := ansI p1 (z2 (0, ([], (-1))) (List.mem_of_getElem? (i := 0) rfl))
      have s0 : r_.toInt = (-1) := (show r_.toInt = 0 + (-1) from hv).trans (by omega)
      exact hR0 h' r_ hi' hm c0 k0 s0
    rcases List.mem_cons.mp he with rfl | he
    · obtain ⟨p1, -, hz⟩ := hp
      obtain ⟨⟨z1, z2, z3, z4⟩, z5, z6⟩ := hz
      have c0 : 0 ≤ x := by have q_ : (0 : Int) ≤ (1 * x + 0) + 0 := z4 ([(0, 1)], 0) (List.mem_of_getElem? (i := 0) rfl); omega
      have c1 : 0 ≤ x - n := by have q_ : (0 : Int) ≤ (1 * x + ((-1) * n + 0)) + 0 := z4 ([(0, 1), (2, (-1))], 0) (List.mem_of_getElem? (i := 1) rfl); omega
      have k0 : pI h' 0 2 = 0 := (show pI h' 0 2 = 0 + 0 from z1 (0, (none, 2), ([], 0)) (List.mem_of_getElem? (i := 0) rfl)).trans (by omega)
      obtain ⟨r_, rfl, hv⟩ := ansI p1 (z2 (0, ([], (-1))) (List.mem_of_getElem? (i := 0) rfl))
      have s0 : r_.toInt = (-1) := (show r_.toInt = 0 + (-1) from hv).trans (by omega)
      exact hR1 h' r_ hi' hm c0 c1 k0 s0
    rcases List.mem_cons.mp he with rfl | he
    · obtain ⟨p1, -, hz⟩ := hp
      obtain ⟨⟨z1, z2, z3, z4⟩, z5, z6⟩ := hz
      have c0 : 0 ≤ x := by have q_ : (0 : Int) ≤ (1 * x + 0) + 0 := z4 ([(0, 1)], 0) (List.mem_of_getElem? (i := 0) rfl); omega
      have c1 : 0 ≤ -x + n - 1 := by have q_ : (0 : Int) ≤ ((-1) * x + (1 * n + 0)) + (-1) := z4 ([(0, (-1)), (2, 1)], (-1)) (List.mem_of_getElem? (i := 1) rfl); omega
      have n0 : y ≠ 0 := fun e_ => z5 (([(1, 1)], 0), ([], 0)) (List.mem_of_getElem? (i := 0) rfl) (by show (1 * y + 0) + 0 = 0 + 0; omega)
      have n1 : y ≠ 1 := fun e_ => z5 (([(1, 1)], 0), ([], 1)) (List.mem_of_getElem? (i := 1) rfl) (by show (1 * y + 0) + 0 = 0 + 1; omega)
      have n2 : y ≠ 2 := fun e_ => z5 (([(1, 1)], 0), ([], 2)) (List.mem_of_getElem? (i := 2) rfl) (by show (1 * y + 0) + 0 = 0 + 2; omega)
      have k0 : pI h' 0 2 = 0 := (show pI h' 0 2 = 0 + 0 from z1 (0, (none, 2), ([], 0)) (List.mem_of_getElem? (i := 0) rfl)).trans (by omega)
      obtain ⟨r_, rfl, hv⟩ := ansI p1 (z2 (0, ([], (-1))) (List.mem_of_getElem? (i := 0) rfl))
      have s0 : r_.toInt = (-1) := (show r_.toInt = 0 + (-1) from hv).trans (by omega)
      exact hR2 h' r_ hi' hm c0 c1 n0 n1 n2 k0 s0
    cases he
def krN1_L : List (Nat × sT) := []
def krN1_S : List sT := [.inl sf32]
def krN1_A : sAs := ([], [], [], [])
def krN1_P : List sP0 := []
def krN1_G : List sP0 := []
def krN1_B : List (Nat × Nat × Int) := []
def krN1_m : sM := []
def krN1_r0 : sXr := (some (.inl sf32), sA0, [], ([], [(0, ([(0, 1)], 0))], [], []), [], [])
theorem krN1_b : syeB swM sT0 krN1_m 400 0 231 krN1_L krN1_S krN1_A krN1_P krN1_G krN1_B 25 [] [krN1_r0] = true := by decide +kernel
theorem krN1 {l : Launch} {Γ : zG} {d : Nat} (hd : 0 ≤ d) {Kp : Option Value → zH → Prop} {lo : zL} {h : zH} {v : Int} (hi : sInv swM h) (b_v : (-2147483648) ≤ v ∧ v ≤ 2147483647) {x_v : Int32} (e_v : x_v.toInt = v)
    (hR0 : ∀ (h' : zH) (r_ : Int32), sInv swM h' → sMd krN1_m h h' → r_.toInt = v → Kp (some (.int r_)) h') : zX l Γ false (d + 1) (zhd 231) (zMQ' Γ false (zhd 231) Kp) 0 0 25 lo [.int x_v] h := by
  refine sye_ok (mi := 231) (pc := 25) (fun i => [v].getD i 0) krN1_b (fun _ _ hc _ => nomatch hc) hd trivial ⟨x_v, _, rfl, e_v, ⟨by show (-2147483648) ≤ v; omega, by show v ≤ 2147483647; omega⟩, rfl⟩ ⟨(fun _ hc => nomatch hc), (fun _ hc => nomatch hc), (fun _ hc => nomatch hc), Or.inl rfl⟩ trivial trivial (fun _ hc => nomatch hc) hi ?_ ?_
  · intro e he lo' st' h' hp hi' hm
    cases he
  · intro e he r' h' hp hi' hm
    rcases List.mem_cons.mp he with rfl | he
    · obtain ⟨p1, -, hz⟩ := hp
      obtain ⟨⟨z1, z2, z3, z4⟩, z5, z6⟩ := hz
      obtain ⟨r_, rfl, hv⟩ := ansI p1 (z2 (0, ([(0, 1)], 0)) (List.mem_of_getElem? (i := 0) rfl))
      have s0 : r_.toInt = v := (show r_.toInt = (1 * v + 0) + 0 from hv).trans (by omega)
      exact hR0 h' r_ hi' hm s0
    cases he
def krN2_L : List (Nat × sT) := []
def krN2_S : List sT := [.inl sf32]
def krN2_A : sAs := ([], [], [], [])
def krN2_P : List sP0 := []
def krN2_G : List sP0 := []
def krN2_B : List (Nat × Nat × Int) := []
def krN2_m : sM := []
def krN2_r0 : sXr := (some (.inl sf32), sA0, [], ([], [(0, ([(0, 1)], 0))], [], []), [], [])
theorem krN2_b : syeB swM sT0 krN2_m 400 0 231 krN2_L krN2_S krN2_A krN2_P krN2_G krN2_B 39 [] [krN2_r0] = true := by decide +kernel
theorem krN2 {l : Launch} {Γ : zG} {d : Nat} (hd : 0 ≤ d) {Kp : Option Value → zH → Prop} {lo : zL} {h : zH} {v : Int} (hi : sInv swM h) (b_v : (-2147483648) ≤ v ∧ v ≤ 2147483647) {x_v : Int32} (e_v : x_v.toInt = v)
    (hR0 : ∀ (h' : zH) (r_ : Int32), sInv swM h' → sMd krN2_m h h' → r_.toInt = v → Kp (some (.int r_)) h') : zX l Γ false (d + 1) (zhd 231) (zMQ' Γ false (zhd 231) Kp) 0 0 39 lo [.int x_v] h := by
  refine sye_ok (mi := 231) (pc := 39) (fun i => [v].getD i 0) krN2_b (fun _ _ hc _ => nomatch hc) hd trivial ⟨x_v, _, rfl, e_v, ⟨by show (-2147483648) ≤ v; omega, by show v ≤ 2147483647; omega⟩, rfl⟩ ⟨(fun _ hc => nomatch hc), (fun _ hc => nomatch hc), (fun _ hc => nomatch hc), Or.inl rfl⟩ trivial trivial (fun _ hc => nomatch hc) hi ?_ ?_
  · intro e he lo' st' h' hp hi' hm
    cases he
  · intro e he r' h' hp hi' hm
    rcases List.mem_cons.mp he with rfl | he
    · obtain ⟨p1, -, hz⟩ := hp
      obtain ⟨⟨z1, z2, z3, z4⟩, z5, z6⟩ := hz
      obtain ⟨r_, rfl, hv⟩ := ansI p1 (z2 (0, ([(0, 1)], 0)) (List.mem_of_getElem? (i := 0) rfl))
      have s0 : r_.toInt = v := (show r_.toInt = (1 * v + 0) + 0 from hv).trans (by omega)
      exact hR0 h' r_ hi' hm s0
    cases he
def krN3_L : List (Nat × sT) := []
def krN3_S : List sT := [.inl sf32]
def krN3_A : sAs := ([], [], [], [])
def krN3_P : List sP0 := []
def krN3_G : List sP0 := []
def krN3_B : List (Nat × Nat × Int) := []
def krN3_m : sM := []
def krN3_r0 : sXr := (some (.inl sf32), sA0, [], ([], [(0, ([(0, 1)], 0))], [], []), [], [])
theorem krN3_b : syeB swM sT0 krN3_m 400 0 231 krN3_L krN3_S krN3_A krN3_P krN3_G krN3_B 53 [] [krN3_r0] = true := by decide +kernel
theorem krN3 {l : Launch} {Γ : zG} {d : Nat} (hd : 0 ≤ d) {Kp : Option Value → zH → Prop} {lo : zL} {h : zH} {v : Int} (hi : sInv swM h) (b_v : (-2147483648) ≤ v ∧ v ≤ 2147483647) {x_v : Int32} (e_v : x_v.toInt = v)
    (hR0 : ∀ (h' : zH) (r_ : Int32), sInv swM h' → sMd krN3_m h h' → r_.toInt = v → Kp (some (.int r_)) h') : zX l Γ false (d + 1) (zhd 231) (zMQ' Γ false (zhd 231) Kp) 0 0 53 lo [.int x_v] h := by
  refine sye_ok (mi := 231) (pc := 53) (fun i => [v].getD i 0) krN3_b (fun _ _ hc _ => nomatch hc) hd trivial ⟨x_v, _, rfl, e_v, ⟨by show (-2147483648) ≤ v; omega, by show v ≤ 2147483647; omega⟩, rfl⟩ ⟨(fun _ hc => nomatch hc), (fun _ hc => nomatch hc), (fun _ hc => nomatch hc), Or.inl rfl⟩ trivial trivial (fun _ hc => nomatch hc) hi ?_ ?_
  · intro e he lo' st' h' hp hi' hm
    cases he
  · intro e he r' h' hp hi' hm
    rcases List.mem_cons.mp he with rfl | he
    · obtain ⟨p1, -, hz⟩ := hp
      obtain ⟨⟨z1, z2, z3, z4⟩, z5, z6⟩ := hz
      obtain ⟨r_, rfl, hv⟩ := ansI p1 (z2 (0, ([(0, 1)], 0)) (List.mem_of_getElem? (i := 0) rfl))
      have s0 : r_.toInt = v := (show r_.toInt = (1 * v + 0) + 0 from hv).trans (by omega)
      exact hR0 h' r_ hi' hm s0
    cases he
def krGa0_L : List sT := [.inr (.inl 0), .inl sf32, .inl (0, 0)]
def krGa0_A : sAs := ([], [], [], [])
def krGa0_P : List sP0 := []
def krGa0_G : List sP0 := []
def krGa0_B : List (Nat × Nat × Int) := []
def krGa0_m : sM := []
def krGa0_e0 : sXe := (5, [], [(0, .inr (.inl 0)), (1, .inl sf32), (2, .inl sf32), (3, .inl sf32), (4, .inl sf32)], sA0, [], ([], [], [(1, ([(0, 1)], 0)), (2, ([], 0)), (3, ([], 0)), (4, ([], 0))], []), [], [])
theorem krGa0_b : syfB swM sT0 krGa0_m 400 0 234 krGa0_L krGa0_A krGa0_P krGa0_G krGa0_B [krGa0_e0] [] = true := by decide +kernel
theorem krGa0 {l : Launch} {Γ : zG} {d : Nat} (hd : 0 ≤ d) {Kp : Option Value → zH → Prop} {h : zH} {mm : Int} (hi : sInv swM h) (b_mm : (-2147483648) ≤ mm ∧ mm ≤ 2147483647) {x_mm : Int32} (e_mm : x_mm.toInt = mm) {x_ww : Int32} (e_ww : x_ww.toInt = 0)
    (hE0 : ∀ (lo' : zL) (h' : zH), sInv swM h' → sMd krGa0_m h h' → zget lo' 0 = some (.ref 0) → zI lo' 1 mm → zI lo' 2 0 → zI lo' 3 0 → zI lo' 4 0 → zX l Γ false (d + 1) (zhd 234) (zMQ' Γ false (zhd 234) Kp) 0 0 5 lo' [] h') : zSem l Γ false (d + 1) (zhd 234) [.ref 0, .int x_mm, .int x_ww] h Kp := by
  refine syf_ok (mi := 234) (fun i => [mm, 0].getD i 0) krGa0_b (fun _ _ hc _ => nomatch hc) hd ⟨_, _, rfl, rfl, ⟨_, _, rfl, ⟨x_mm, rfl, by show (-2147483648) ≤ x_mm.toInt; omega, by show x_mm.toInt ≤ 2147483647; omega⟩, ⟨_, _, rfl, ⟨x_ww, rfl, by show 0 ≤ x_ww.toInt; omega, by show x_ww.toInt ≤ 0; omega⟩, rfl⟩⟩⟩ ⟨rfl, ⟨x_mm, rfl, e_mm, by show (-2147483648) ≤ mm; omega, by show mm ≤ 2147483647; omega⟩, ⟨x_ww, rfl, e_ww, by show 0 ≤ 0; omega, by show 0 ≤ 0; omega⟩, trivial⟩ ⟨(fun _ hc => nomatch hc), (fun _ hc => nomatch hc), (fun _ hc => nomatch hc), Or.inl rfl⟩ trivial trivial (fun _ hc => nomatch hc) hi ?_ ?_
  · intro e he lo' st' h' hp hi' hm
    rcases List.mem_cons.mp he with rfl | he
    · obtain ⟨p1, p2, -, hz⟩ := hp
      obtain ⟨⟨z1, z2, z3, z4⟩, z5, z6⟩ := hz
      have o0 : zget lo' 0 = some (.ref 0) := locR (p2 (0, .inr (.inl 0)) (List.mem_of_getElem? (i := 0) rfl))
      have o1 : zI lo' 1 mm := zI_of (p2 (1, .inl sf32) (List.mem_of_getElem? (i := 1) rfl)) (z3 (1, ([(0, 1)], 0)) (List.mem_of_getElem? (i := 0) rfl)) (show (1 * mm + 0) + 0 = mm from by omega)
      have o2 : zI lo' 2 0 := zI_of (p2 (2, .inl sf32) (List.mem_of_getElem? (i := 2) rfl)) (z3 (2, ([], 0)) (List.mem_of_getElem? (i := 1) rfl)) (show 0 + 0 = 0 from by omega)
      have o3 : zI lo' 3 0 := zI_of (p2 (3, .inl sf32) (List.mem_of_getElem? (i := 3) rfl)) (z3 (3, ([], 0)) (List.mem_of_getElem? (i := 2) rfl)) (show 0 + 0 = 0 from by omega)
      have o4 : zI lo' 4 0 := zI_of (p2 (4, .inl sf32) (List.mem_of_getElem? (i := 4) rfl)) (z3 (4, ([], 0)) (List.mem_of_getElem? (i := 3) rfl)) (show 0 + 0 = 0 from by omega)
      have p1 : _ = [] := p1
      subst p1
      exact hE0 lo' h' hi' hm o0 o1 o2 o3 o4
    cases he
  · intro e he r' h' hp hi' hm
    cases he
def krGa1_L (g : Nat) : List (Nat × sT) := [(0, .inr (.inl 0)), (1, .inl sf32), (2, .inl (0, 0)), (3, .inl (0, 255)), (4, .inl ((g : Int), (g : Int)))]
def krGa1_S (g : Nat) : List sT := []
def krGa1_A (g : Nat) : sAs := ([], [], [], [])
def krGa1_P (g : Nat) : List sP0 := [(0, (none, 13), (((g : Int) + 1), 8)), (7, (none, ((g : Nat) : Int)), sf32), (31, (none, ((g : Nat) : Int)), (0, 1))]
def krGa1_G (g : Nat) : List sP0 := []
def krGa1_B (g : Nat) : List (Nat × Nat × Int) := []
def krGa1_m (g : Nat) : sM := []
def krGa1_e0 (g : Nat) : sXe := (5, [], [(0, .inr (.inl 0)), (1, .inl sf32), (2, .inl sf32), (3, .inl sf32), (4, .inl sf32)], sA0, [(0, 3, ([], 1), ([], (g : Int))), (0, 0, ([(2, 1)], 0), ([(7, 1)], 0))], ([], [], [(1, ([(0, 1)], 0)), (2, ([], 0)), (3, ([(8, 1)], 0)), (4, ([], ((g : Int) + 1)))], [([(0, (-1)), (5, 1)], 0), ([(0, 1), (5, (-1))], 0), ([(6, 1)], 0), ([(6, (-1))], 0)]), [], [])
def krGa1_e1 (g : Nat) : sXe := (5, [], [(0, .inr (.inl 0)), (1, .inl sf32), (2, .inl sf32), (3, .inl sf32), (4, .inl sf32)], sA0, [(0, 3, ([], 1), ([], (g : Int))), (0, 0, ([(2, 1)], 0), ([(7, 1)], 0))], ([], [], [(1, ([(0, 1)], 0)), (2, ([], 0)), (3, ([(8, 1)], 0)), (4, ([], ((g : Int) + 1)))], [([(0, (-1)), (5, 1)], 0), ([(0, 1), (5, (-1))], 0)]), [(([(6, 1)], 0), ([], 0))], [])
def krGa1_e2 (g : Nat) : sXe := (5, [], [(0, .inr (.inl 0)), (1, .inl sf32), (2, .inl sf32), (3, .inl sf32), (4, .inl sf32)], sA0, [(0, 0, ([(2, 1)], 0), ([], 0))], ([], [], [(1, ([(0, 1)], 0)), (2, ([], 0)), (3, ([(7, 1)], 0)), (4, ([], ((g : Int) + 1)))], []), [(([(5, 1)], 0), ([(0, 1)], 0))], [])
theorem krGa1_b : ((List.range 8).all fun g => syeB swM sT0 (krGa1_m g) 400 0 234 (krGa1_L g) (krGa1_S g) (krGa1_A g) (krGa1_P g) (krGa1_G g) (krGa1_B g) 5 [krGa1_e0 g, krGa1_e1 g, krGa1_e2 g] []) = true := by decide +kernel
theorem krGa1 {l : Launch} {Γ : zG} {d : Nat} (hd : 0 ≤ d) {Kp : Option Value → zH → Prop} {lo : zL} {h : zH} {g : Nat} (h_g : g < 8) {mm ac n who wt : Int} (hi : sInv swM h) (b_mm : (-2147483648) ≤ mm ∧ mm ≤ 2147483647) (b_ac : 0 ≤ ac ∧ ac ≤ 255) (b_n : ((g : Int) + 1) ≤ n ∧ n ≤ 8) (b_who : (-2147483648) ≤ who ∧ who ≤ 2147483647) (b_wt : 0 ≤ wt ∧ wt ≤ 1) (l0 : zget lo 0 = some (.ref 0)) (l1 : zI lo 1 mm) (l2 : zI lo 2 0) (l3 : zI lo 3 ac) (l4 : zI lo 4 (g : Int)) (p_n : pI h 0 13 = n) (p_who : pI h 7 g = who) (p_wt : pI h 31 g = wt)
    (hE0 : ∀ (lo' : zL) (h' : zH) (w0 w1 : Int), sInv swM h' → sMd (krGa1_m g) h h' → w0 = sgfn 3 1 (g : Int) → w1 = sgfn 0 ac w0 → who = mm → wt = 0 → zget lo' 0 = some (.ref 0) → zI lo' 1 mm → zI lo' 2 0 → zI lo' 3 w1 → zI lo' 4 ((g : Int) + 1) → zX l Γ false (d + 1) (zhd 234) (zMQ' Γ false (zhd 234) Kp) 0 0 5 lo' [] h')
    (hE1 : ∀ (lo' : zL) (h' : zH) (w0 w1 : Int), sInv swM h' → sMd (krGa1_m g) h h' → w0 = sgfn 3 1 (g : Int) → w1 = sgfn 0 ac w0 → who = mm → wt ≠ 0 → zget lo' 0 = some (.ref 0) → zI lo' 1 mm → zI lo' 2 0 → zI lo' 3 w1 → zI lo' 4 ((g : Int) + 1) → zX l Γ false (d + 1) (zhd 234) (zMQ' Γ false (zhd 234) Kp) 0 0 5 lo' [] h')
    (hE2 : ∀ (lo' : zL) (h' : zH) (w0 : Int), sInv swM h' → sMd (krGa1_m g) h h' → w0 = sgfn 0 ac 0 → who ≠ mm → zget lo' 0 = some (.ref 0) → zI lo' 1 mm → zI lo' 2 0 → zI lo' 3 w0 → zI lo' 4 ((g : Int) + 1) → zX l Γ false (d + 1) (zhd 234) (zMQ' Γ false (zhd 234) Kp) 0 0 5 lo' [] h') : zX l Γ false (d + 1) (zhd 234) (zMQ' Γ false (zhd 234) Kp) 0 0 5 lo [] h := by
  refine sye_ok (mi := 234) (pc := 5) (fun i => [mm, 0, ac, (g : Int), n, who, wt].getD i 0) (zall_r krGa1_b h_g) (fun _ _ hc _ => nomatch hc) hd ⟨l0, zIm l1 (by show (-2147483648) ≤ mm; omega) (by show mm ≤ 2147483647; omega), zIm l2 (by show 0 ≤ 0; omega) (by show 0 ≤ 0; omega), zIm l3 (by show 0 ≤ ac; omega) (by show ac ≤ 255; omega), zIm l4 (by show (g : Int) ≤ (g : Int); omega) (by show (g : Int) ≤ (g : Int); omega), trivial⟩ rfl ⟨(fun _ hc => nomatch hc), (fun _ hc => nomatch hc), (fun _ hc => nomatch hc), Or.inl rfl⟩ ⟨⟨p_n, by show ((g : Int) + 1) ≤ n; omega, by show n ≤ 8; omega⟩, ⟨p_who, by show (-2147483648) ≤ who; omega, by show who ≤ 2147483647; omega⟩, ⟨p_wt, by show 0 ≤ wt; omega, by show wt ≤ 1; omega⟩, trivial⟩ trivial (fun _ hc => nomatch hc) hi ?_ ?_
  · intro e he lo' st' h' hp hi' hm
    rcases List.mem_cons.mp he with rfl | he
    · obtain ⟨p1, p2, -, hz⟩ := hp
      obtain ⟨w0, f0, hz⟩ := hz
      obtain ⟨w1, f1, hz⟩ := hz
      obtain ⟨⟨z1, z2, z3, z4⟩, z5, z6⟩ := hz
      have g0 : w0 = sgfn 3 1 (g : Int) := (show w0 = sgfn 3 (0 + 1) (0 + (g : Int)) from f0).trans (sgfn_c (by omega) (by omega))
      have g1 : w1 = sgfn 0 ac w0 := (show w1 = sgfn 0 ((1 * ac + 0) + 0) ((1 * w0 + 0) + 0) from f1).trans (sgfn_c (by omega) (by omega))
      have c0 : who = mm := by have q_ : (0 : Int) ≤ ((-1) * mm + (1 * who + 0)) + 0 := z4 ([(0, (-1)), (5, 1)], 0) (List.mem_of_getElem? (i := 0) rfl); have q2_ : (0 : Int) ≤ (1 * mm + ((-1) * who + 0)) + 0 := z4 ([(0, 1), (5, (-1))], 0) (List.mem_of_getElem? (i := 1) rfl); omega
      have c2 : wt = 0 := by have q_ : (0 : Int) ≤ (1 * wt + 0) + 0 := z4 ([(6, 1)], 0) (List.mem_of_getElem? (i := 2) rfl); have q2_ : (0 : Int) ≤ ((-1) * wt + 0) + 0 := z4 ([(6, (-1))], 0) (List.mem_of_getElem? (i := 3) rfl); omega
      have o0 : zget lo' 0 = some (.ref 0) := locR (p2 (0, .inr (.inl 0)) (List.mem_of_getElem? (i := 0) rfl))
      have o1 : zI lo' 1 mm := zI_of (p2 (1, .inl sf32) (List.mem_of_getElem? (i := 1) rfl)) (z3 (1, ([(0, 1)], 0)) (List.mem_of_getElem? (i := 0) rfl)) (show (1 * mm + 0) + 0 = mm from by omega)
      have o2 : zI lo' 2 0 := zI_of (p2 (2, .inl sf32) (List.mem_of_getElem? (i := 2) rfl)) (z3 (2, ([], 0)) (List.mem_of_getElem? (i := 1) rfl)) (show 0 + 0 = 0 from by omega)
      have o3 : zI lo' 3 w1 := zI_of (p2 (3, .inl sf32) (List.mem_of_getElem? (i := 3) rfl)) (z3 (3, ([(8, 1)], 0)) (List.mem_of_getElem? (i := 2) rfl)) (show (1 * w1 + 0) + 0 = w1 from by omega)
      have o4 : zI lo' 4 ((g : Int) + 1) := zI_of (p2 (4, .inl sf32) (List.mem_of_getElem? (i := 4) rfl)) (z3 (4, ([], ((g : Int) + 1))) (List.mem_of_getElem? (i := 3) rfl)) (show 0 + ((g : Int) + 1) = ((g : Int) + 1) from by omega)
      have p1 : _ = [] := p1
      subst p1
      exact hE0 lo' h' w0 w1 hi' hm g0 g1 c0 c2 o0 o1 o2 o3 o4
    rcases List.mem_cons.mp he with rfl | he
    · obtain ⟨p1, p2, -, hz⟩ := hp
      obtain ⟨w0, f0, hz⟩ := hz
      obtain ⟨w1, f1, hz⟩ := hz
      obtain ⟨⟨z1, z2, z3, z4⟩, z5, z6⟩ := hz
      have g0 : w0 = sgfn 3 1 (g : Int) := (show w0 = sgfn 3 (0 + 1) (0 + (g : Int)) from f0).trans (sgfn_c (by omega) (by omega))
      have g1 : w1 = sgfn 0 ac w0 := (show w1 = sgfn 0 ((1 * ac + 0) + 0) ((1 * w0 + 0) + 0) from f1).trans (sgfn_c (by omega) (by omega))
      have c0 : who = mm := by have q_ : (0 : Int) ≤ ((-1) * mm + (1 * who + 0)) + 0 := z4 ([(0, (-1)), (5, 1)], 0) (List.mem_of_getElem? (i := 0) rfl); have q2_ : (0 : Int) ≤ (1 * mm + ((-1) * who + 0)) + 0 := z4 ([(0, 1), (5, (-1))], 0) (List.mem_of_getElem? (i := 1) rfl); omega
      have n0 : wt ≠ 0 := fun e_ => z5 (([(6, 1)], 0), ([], 0)) (List.mem_of_getElem? (i := 0) rfl) (by show (1 * wt + 0) + 0 = 0 + 0; omega)
      have o0 : zget lo' 0 = some (.ref 0) := locR (p2 (0, .inr (.inl 0)) (List.mem_of_getElem? (i := 0) rfl))
      have o1 : zI lo' 1 mm := zI_of (p2 (1, .inl sf32) (List.mem_of_getElem? (i := 1) rfl)) (z3 (1, ([(0, 1)], 0)) (List.mem_of_getElem? (i := 0) rfl)) (show (1 * mm + 0) + 0 = mm from by omega)
      have o2 : zI lo' 2 0 := zI_of (p2 (2, .inl sf32) (List.mem_of_getElem? (i := 2) rfl)) (z3 (2, ([], 0)) (List.mem_of_getElem? (i := 1) rfl)) (show 0 + 0 = 0 from by omega)
      have o3 : zI lo' 3 w1 := zI_of (p2 (3, .inl sf32) (List.mem_of_getElem? (i := 3) rfl)) (z3 (3, ([(8, 1)], 0)) (List.mem_of_getElem? (i := 2) rfl)) (show (1 * w1 + 0) + 0 = w1 from by omega)
      have o4 : zI lo' 4 ((g : Int) + 1) := zI_of (p2 (4, .inl sf32) (List.mem_of_getElem? (i := 4) rfl)) (z3 (4, ([], ((g : Int) + 1))) (List.mem_of_getElem? (i := 3) rfl)) (show 0 + ((g : Int) + 1) = ((g : Int) + 1) from by omega)
      have p1 : _ = [] := p1
      subst p1
      exact hE1 lo' h' w0 w1 hi' hm g0 g1 c0 n0 o0 o1 o2 o3 o4
    rcases List.mem_cons.mp he with rfl | he
    · obtain ⟨p1, p2, -, hz⟩ := hp
      obtain ⟨w0, f0, hz⟩ := hz
      obtain ⟨⟨z1, z2, z3, z4⟩, z5, z6⟩ := hz
      have g0 : w0 = sgfn 0 ac 0 := (show w0 = sgfn 0 ((1 * ac + 0) + 0) (0 + 0) from f0).trans (sgfn_c (by omega) (by omega))
      have n0 : who ≠ mm := fun e_ => z5 (([(5, 1)], 0), ([(0, 1)], 0)) (List.mem_of_getElem? (i := 0) rfl) (by show (1 * who + 0) + 0 = (1 * mm + 0) + 0; omega)
      have o0 : zget lo' 0 = some (.ref 0) := locR (p2 (0, .inr (.inl 0)) (List.mem_of_getElem? (i := 0) rfl))
      have o1 : zI lo' 1 mm := zI_of (p2 (1, .inl sf32) (List.mem_of_getElem? (i := 1) rfl)) (z3 (1, ([(0, 1)], 0)) (List.mem_of_getElem? (i := 0) rfl)) (show (1 * mm + 0) + 0 = mm from by omega)
      have o2 : zI lo' 2 0 := zI_of (p2 (2, .inl sf32) (List.mem_of_getElem? (i := 2) rfl)) (z3 (2, ([], 0)) (List.mem_of_getElem? (i := 1) rfl)) (show 0 + 0 = 0 from by omega)
      have o3 : zI lo' 3 w0 := zI_of (p2 (3, .inl sf32) (List.mem_of_getElem? (i := 3) rfl)) (z3 (3, ([(7, 1)], 0)) (List.mem_of_getElem? (i := 2) rfl)) (show (1 * w0 + 0) + 0 = w0 from by omega)
      have o4 : zI lo' 4 ((g : Int) + 1) := zI_of (p2 (4, .inl sf32) (List.mem_of_getElem? (i := 4) rfl)) (z3 (4, ([], ((g : Int) + 1))) (List.mem_of_getElem? (i := 3) rfl)) (show 0 + ((g : Int) + 1) = ((g : Int) + 1) from by omega)
      have p1 : _ = [] := p1
      subst p1
      exact hE2 lo' h' w0 hi' hm g0 n0 o0 o1 o2 o3 o4
    cases he
  · intro e he r' h' hp hi' hm
    cases he
def krGa2_L (g : Nat) : List (Nat × sT) := [(0, .inr (.inl 0)), (1, .inl sf32), (2, .inl (0, 0)), (3, .inl (0, 255)), (4, .inl ((g : Int), (g : Int)))]
def krGa2_S (g : Nat) : List sT := []
def krGa2_A (g : Nat) : sAs := ([], [], [], [])
def krGa2_P (g : Nat) : List sP0 := [(0, (none, 13), (0, (g : Int)))]
def krGa2_G (g : Nat) : List sP0 := []
def krGa2_B (g : Nat) : List (Nat × Nat × Int) := []
def krGa2_m (g : Nat) : sM := []
def krGa2_r0 (g : Nat) : sXr := (some (.inl sf32), sA0, [], ([], [(0, ([(2, 1)], 0))], [], []), [], [])
theorem krGa2_b : ((List.range 9).all fun g => syeB swM sT0 (krGa2_m g) 400 0 234 (krGa2_L g) (krGa2_S g) (krGa2_A g) (krGa2_P g) (krGa2_G g) (krGa2_B g) 5 [] [krGa2_r0 g]) = true := by decide +kernel
theorem krGa2 {l : Launch} {Γ : zG} {d : Nat} (hd : 0 ≤ d) {Kp : Option Value → zH → Prop} {lo : zL} {h : zH} {g : Nat} (h_g : g < 9) {mm ac n : Int} (hi : sInv swM h) (b_mm : (-2147483648) ≤ mm ∧ mm ≤ 2147483647) (b_ac : 0 ≤ ac ∧ ac ≤ 255) (b_n : 0 ≤ n ∧ n ≤ (g : Int)) (l0 : zget lo 0 = some (.ref 0)) (l1 : zI lo 1 mm) (l2 : zI lo 2 0) (l3 : zI lo 3 ac) (l4 : zI lo 4 (g : Int)) (p_n : pI h 0 13 = n)
    (hR0 : ∀ (h' : zH) (r_ : Int32), sInv swM h' → sMd (krGa2_m g) h h' → r_.toInt = ac → Kp (some (.int r_)) h') : zX l Γ false (d + 1) (zhd 234) (zMQ' Γ false (zhd 234) Kp) 0 0 5 lo [] h := by
  refine sye_ok (mi := 234) (pc := 5) (fun i => [mm, 0, ac, (g : Int), n].getD i 0) (zall_r krGa2_b h_g) (fun _ _ hc _ => nomatch hc) hd ⟨l0, zIm l1 (by show (-2147483648) ≤ mm; omega) (by show mm ≤ 2147483647; omega), zIm l2 (by show 0 ≤ 0; omega) (by show 0 ≤ 0; omega), zIm l3 (by show 0 ≤ ac; omega) (by show ac ≤ 255; omega), zIm l4 (by show (g : Int) ≤ (g : Int); omega) (by show (g : Int) ≤ (g : Int); omega), trivial⟩ rfl ⟨(fun _ hc => nomatch hc), (fun _ hc => nomatch hc), (fun _ hc => nomatch hc), Or.inl rfl⟩ ⟨⟨p_n, by show 0 ≤ n; omega, by show n ≤ (g : Int); omega⟩, trivial⟩ trivial (fun _ hc => nomatch hc) hi ?_ ?_
  · intro e he lo' st' h' hp hi' hm
    cases he
  · intro e he r' h' hp hi' hm
    rcases List.mem_cons.mp he with rfl | he
    · obtain ⟨p1, -, hz⟩ := hp
      obtain ⟨⟨z1, z2, z3, z4⟩, z5, z6⟩ := hz
      obtain ⟨r_, rfl, hv⟩ := ansI p1 (z2 (0, ([(2, 1)], 0)) (List.mem_of_getElem? (i := 0) rfl))
      have s0 : r_.toInt = ac := (show r_.toInt = (1 * ac + 0) + 0 from hv).trans (by omega)
      exact hR0 h' r_ hi' hm s0
    cases he
def krGb0_L : List sT := [.inr (.inl 0), .inl sf32, .inl (1, 1)]
def krGb0_A : sAs := ([], [], [], [])
def krGb0_P : List sP0 := []
def krGb0_G : List sP0 := []
def krGb0_B : List (Nat × Nat × Int) := []
def krGb0_m : sM := []
def krGb0_e0 : sXe := (5, [], [(0, .inr (.inl 0)), (1, .inl sf32), (2, .inl sf32), (3, .inl sf32), (4, .inl sf32)], sA0, [], ([], [], [(1, ([(0, 1)], 0)), (2, ([], 1)), (3, ([], 0)), (4, ([], 0))], []), [], [])
theorem krGb0_b : syfB swM sT0 krGb0_m 400 0 234 krGb0_L krGb0_A krGb0_P krGb0_G krGb0_B [krGb0_e0] [] = true := by decide +kernel
theorem krGb0 {l : Launch} {Γ : zG} {d : Nat} (hd : 0 ≤ d) {Kp : Option Value → zH → Prop} {h : zH} {mm : Int} (hi : sInv swM h) (b_mm : (-2147483648) ≤ mm ∧ mm ≤ 2147483647) {x_mm : Int32} (e_mm : x_mm.toInt = mm) {x_ww : Int32} (e_ww : x_ww.toInt = 1)
    (hE0 : ∀ (lo' : zL) (h' : zH), sInv swM h' → sMd krGb0_m h h' → zget lo' 0 = some (.ref 0) → zI lo' 1 mm → zI lo' 2 1 → zI lo' 3 0 → zI lo' 4 0 → zX l Γ false (d + 1) (zhd 234) (zMQ' Γ false (zhd 234) Kp) 0 0 5 lo' [] h') : zSem l Γ false (d + 1) (zhd 234) [.ref 0, .int x_mm, .int x_ww] h Kp := by
  refine syf_ok (mi := 234) (fun i => [mm, 1].getD i 0) krGb0_b (fun _ _ hc _ => nomatch hc) hd ⟨_, _, rfl, rfl, ⟨_, _, rfl, ⟨x_mm, rfl, by show (-2147483648) ≤ x_mm.toInt; omega, by show x_mm.toInt ≤ 2147483647; omega⟩, ⟨_, _, rfl, ⟨x_ww, rfl, by show 1 ≤ x_ww.toInt; omega, by show x_ww.toInt ≤ 1; omega⟩, rfl⟩⟩⟩ ⟨rfl, ⟨x_mm, rfl, e_mm, by show (-2147483648) ≤ mm; omega, by show mm ≤ 2147483647; omega⟩, ⟨x_ww, rfl, e_ww, by show 1 ≤ 1; omega, by show 1 ≤ 1; omega⟩, trivial⟩ ⟨(fun _ hc => nomatch hc), (fun _ hc => nomatch hc), (fun _ hc => nomatch hc), Or.inl rfl⟩ trivial trivial (fun _ hc => nomatch hc) hi ?_ ?_
  · intro e he lo' st' h' hp hi' hm
    rcases List.mem_cons.mp he with rfl | he
    · obtain ⟨p1, p2, -, hz⟩ := hp
      obtain ⟨⟨z1, z2, z3, z4⟩, z5, z6⟩ := hz
      have o0 : zget lo' 0 = some (.ref 0) := locR (p2 (0, .inr (.inl 0)) (List.mem_of_getElem? (i := 0) rfl))
      have o1 : zI lo' 1 mm := zI_of (p2 (1, .inl sf32) (List.mem_of_getElem? (i := 1) rfl)) (z3 (1, ([(0, 1)], 0)) (List.mem_of_getElem? (i := 0) rfl)) (show (1 * mm + 0) + 0 = mm from by omega)
      have o2 : zI lo' 2 1 := zI_of (p2 (2, .inl sf32) (List.mem_of_getElem? (i := 2) rfl)) (z3 (2, ([], 1)) (List.mem_of_getElem? (i := 1) rfl)) (show 0 + 1 = 1 from by omega)
      have o3 : zI lo' 3 0 := zI_of (p2 (3, .inl sf32) (List.mem_of_getElem? (i := 3) rfl)) (z3 (3, ([], 0)) (List.mem_of_getElem? (i := 2) rfl)) (show 0 + 0 = 0 from by omega)
      have o4 : zI lo' 4 0 := zI_of (p2 (4, .inl sf32) (List.mem_of_getElem? (i := 4) rfl)) (z3 (4, ([], 0)) (List.mem_of_getElem? (i := 3) rfl)) (show 0 + 0 = 0 from by omega)
      have p1 : _ = [] := p1
      subst p1
      exact hE0 lo' h' hi' hm o0 o1 o2 o3 o4
    cases he
  · intro e he r' h' hp hi' hm
    cases he
def krGb1_L (g : Nat) : List (Nat × sT) := [(0, .inr (.inl 0)), (1, .inl sf32), (2, .inl (1, 1)), (3, .inl (0, 255)), (4, .inl ((g : Int), (g : Int)))]
def krGb1_S (g : Nat) : List sT := []
def krGb1_A (g : Nat) : sAs := ([], [], [], [])
def krGb1_P (g : Nat) : List sP0 := [(0, (none, 13), (((g : Int) + 1), 8)), (7, (none, ((g : Nat) : Int)), sf32), (31, (none, ((g : Nat) : Int)), (0, 1))]
def krGb1_G (g : Nat) : List sP0 := []
def krGb1_B (g : Nat) : List (Nat × Nat × Int) := []
def krGb1_m (g : Nat) : sM := []
def krGb1_e0 (g : Nat) : sXe := (5, [], [(0, .inr (.inl 0)), (1, .inl sf32), (2, .inl sf32), (3, .inl sf32), (4, .inl sf32)], sA0, [(0, 0, ([(2, 1)], 0), ([], 0))], ([], [], [(1, ([(0, 1)], 0)), (2, ([], 1)), (3, ([(7, 1)], 0)), (4, ([], ((g : Int) + 1)))], [([(0, (-1)), (5, 1)], 0), ([(0, 1), (5, (-1))], 0), ([(6, 1)], 0), ([(6, (-1))], 0)]), [], [])
def krGb1_e1 (g : Nat) : sXe := (5, [], [(0, .inr (.inl 0)), (1, .inl sf32), (2, .inl sf32), (3, .inl sf32), (4, .inl sf32)], sA0, [(0, 3, ([], 1), ([], (g : Int))), (0, 0, ([(2, 1)], 0), ([(7, 1)], 0))], ([], [], [(1, ([(0, 1)], 0)), (2, ([], 1)), (3, ([(8, 1)], 0)), (4, ([], ((g : Int) + 1)))], [([(0, (-1)), (5, 1)], 0), ([(0, 1), (5, (-1))], 0)]), [(([(6, 1)], 0), ([], 0))], [])
def krGb1_e2 (g : Nat) : sXe := (5, [], [(0, .inr (.inl 0)), (1, .inl sf32), (2, .inl sf32), (3, .inl sf32), (4, .inl sf32)], sA0, [(0, 0, ([(2, 1)], 0), ([], 0))], ([], [], [(1, ([(0, 1)], 0)), (2, ([], 1)), (3, ([(7, 1)], 0)), (4, ([], ((g : Int) + 1)))], []), [(([(5, 1)], 0), ([(0, 1)], 0))], [])
theorem krGb1_b : ((List.range 8).all fun g => syeB swM sT0 (krGb1_m g) 400 0 234 (krGb1_L g) (krGb1_S g) (krGb1_A g) (krGb1_P g) (krGb1_G g) (krGb1_B g) 5 [krGb1_e0 g, krGb1_e1 g, krGb1_e2 g] []) = true := by decide +kernel
theorem krGb1 {l : Launch} {Γ : zG} {d : Nat} (hd : 0 ≤ d) {Kp : Option Value → zH → Prop} {lo : zL} {h : zH} {g : Nat} (h_g : g < 8) {mm ac n who wt : Int} (hi : sInv swM h) (b_mm : (-2147483648) ≤ mm ∧ mm ≤ 2147483647) (b_ac : 0 ≤ ac ∧ ac ≤ 255) (b_n : ((g : Int) + 1) ≤ n ∧ n ≤ 8) (b_who : (-2147483648) ≤ who ∧ who ≤ 2147483647) (b_wt : 0 ≤ wt ∧ wt ≤ 1) (l0 : zget lo 0 = some (.ref 0)) (l1 : zI lo 1 mm) (l2 : zI lo 2 1) (l3 : zI lo 3 ac) (l4 : zI lo 4 (g : Int)) (p_n : pI h 0 13 = n) (p_who : pI h 7 g = who) (p_wt : pI h 31 g = wt)
    (hE0 : ∀ (lo' : zL) (h' : zH) (w0 : Int), sInv swM h' → sMd (krGb1_m g) h h' → w0 = sgfn 0 ac 0 → who = mm → wt = 0 → zget lo' 0 = some (.ref 0) → zI lo' 1 mm → zI lo' 2 1 → zI lo' 3 w0 → zI lo' 4 ((g : Int) + 1) → zX l Γ false (d + 1) (zhd 234) (zMQ' Γ false (zhd 234) Kp) 0 0 5 lo' [] h')
    (hE1 : ∀ (lo' : zL) (h' : zH) (w0 w1 : Int), sInv swM h' → sMd (krGb1_m g) h h' → w0 = sgfn 3 1 (g : Int) → w1 = sgfn 0 ac w0 → who = mm → wt ≠ 0 → zget lo' 0 = some (.ref 0) → zI lo' 1 mm → zI lo' 2 1 → zI lo' 3 w1 → zI lo' 4 ((g : Int) + 1) → zX l Γ false (d + 1) (zhd 234) (zMQ' Γ false (zhd 234) Kp) 0 0 5 lo' [] h')
    (hE2 : ∀ (lo' : zL) (h' : zH) (w0 : Int), sInv swM h' → sMd (krGb1_m g) h h' → w0 = sgfn 0 ac 0 → who ≠ mm → zget lo' 0 = some (.ref 0) → zI lo' 1 mm → zI lo' 2 1 → zI lo' 3 w0 → zI lo' 4 ((g : Int) + 1) → zX l Γ false (d + 1) (zhd 234) (zMQ' Γ false (zhd 234) Kp) 0 0 5 lo' [] h') : zX l Γ false (d + 1) (zhd 234) (zMQ' Γ false (zhd 234) Kp) 0 0 5 lo [] h := by
  refine sye_ok (mi := 234) (pc := 5) (fun i => [mm, 1, ac, (g : Int), n, who, wt].getD i 0) (zall_r krGb1_b h_g) (fun _ _ hc _ => nomatch hc) hd ⟨l0, zIm l1 (by show (-2147483648) ≤ mm; omega) (by show mm ≤ 2147483647; omega), zIm l2 (by show 1 ≤ 1; omega) (by show 1 ≤ 1; omega), zIm l3 (by show 0 ≤ ac; omega) (by show ac ≤ 255; omega), zIm l4 (by show (g : Int) ≤ (g : Int); omega) (by show (g : Int) ≤ (g : Int); omega), trivial⟩ rfl ⟨(fun _ hc => nomatch hc), (fun _ hc => nomatch hc), (fun _ hc => nomatch hc), Or.inl rfl⟩ ⟨⟨p_n, by show ((g : Int) + 1) ≤ n; omega, by show n ≤ 8; omega⟩, ⟨p_who, by show (-2147483648) ≤ who; omega, by show who ≤ 2147483647; omega⟩, ⟨p_wt, by show 0 ≤ wt; omega, by show wt ≤ 1; omega⟩, trivial⟩ trivial (fun _ hc => nomatch hc) hi ?_ ?_
  · intro e he lo' st' h' hp hi' hm
    rcases List.mem_cons.mp he with rfl | he
    · obtain ⟨p1, p2, -, hz⟩ := hp
      obtain ⟨w0, f0, hz⟩ := hz
      obtain ⟨⟨z1, z2, z3, z4⟩, z5, z6⟩ := hz
      have g0 : w0 = sgfn 0 ac 0 := (show w0 = sgfn 0 ((1 * ac + 0) + 0) (0 + 0) from f0).trans (sgfn_c (by omega) (by omega))
      have c0 : who = mm := by have q_ : (0 : Int) ≤ ((-1) * mm + (1 * who + 0)) + 0 := z4 ([(0, (-1)), (5, 1)], 0) (List.mem_of_getElem? (i := 0) rfl); have q2_ : (0 : Int) ≤ (1 * mm + ((-1) * who + 0)) + 0 := z4 ([(0, 1), (5, (-1))], 0) (List.mem_of_getElem? (i := 1) rfl); omega
      have c2 : wt = 0 := by have q_ : (0 : Int) ≤ (1 * wt + 0) + 0 := z4 ([(6, 1)], 0) (List.mem_of_getElem? (i := 2) rfl); have q2_ : (0 : Int) ≤ ((-1) * wt + 0) + 0 := z4 ([(6, (-1))], 0) (List.mem_of_getElem? (i := 3) rfl); omega
      have o0 : zget lo' 0 = some (.ref 0) := locR (p2 (0, .inr (.inl 0)) (List.mem_of_getElem? (i := 0) rfl))
      have o1 : zI lo' 1 mm := zI_of (p2 (1, .inl sf32) (List.mem_of_getElem? (i := 1) rfl)) (z3 (1, ([(0, 1)], 0)) (List.mem_of_getElem? (i := 0) rfl)) (show (1 * mm + 0) + 0 = mm from by omega)
      have o2 : zI lo' 2 1 := zI_of (p2 (2, .inl sf32) (List.mem_of_getElem? (i := 2) rfl)) (z3 (2, ([], 1)) (List.mem_of_getElem? (i := 1) rfl)) (show 0 + 1 = 1 from by omega)
      have o3 : zI lo' 3 w0 := zI_of (p2 (3, .inl sf32) (List.mem_of_getElem? (i := 3) rfl)) (z3 (3, ([(7, 1)], 0)) (List.mem_of_getElem? (i := 2) rfl)) (show (1 * w0 + 0) + 0 = w0 from by omega)
      have o4 : zI lo' 4 ((g : Int) + 1) := zI_of (p2 (4, .inl sf32) (List.mem_of_getElem? (i := 4) rfl)) (z3 (4, ([], ((g : Int) + 1))) (List.mem_of_getElem? (i := 3) rfl)) (show 0 + ((g : Int) + 1) = ((g : Int) + 1) from by omega)
      have p1 : _ = [] := p1
      subst p1
      exact hE0 lo' h' w0 hi' hm g0 c0 c2 o0 o1 o2 o3 o4
    rcases List.mem_cons.mp he with rfl | he
    · obtain ⟨p1, p2, -, hz⟩ := hp
      obtain ⟨w0, f0, hz⟩ := hz
      obtain ⟨w1, f1, hz⟩ := hz
      obtain ⟨⟨z1, z2, z3, z4⟩, z5, z6⟩ := hz
      have g0 : w0 = sgfn 3 1 (g : Int) := (show w0 = sgfn 3 (0 + 1) (0 + (g : Int)) from f0).trans (sgfn_c (by omega) (by omega))
      have g1 : w1 = sgfn 0 ac w0 := (show w1 = sgfn 0 ((1 * ac + 0) + 0) ((1 * w0 + 0) + 0) from f1).trans (sgfn_c (by omega) (by omega))
      have c0 : who = mm := by have q_ : (0 : Int) ≤ ((-1) * mm + (1 * who + 0)) + 0 := z4 ([(0, (-1)), (5, 1)], 0) (List.mem_of_getElem? (i := 0) rfl); have q2_ : (0 : Int) ≤ (1 * mm + ((-1) * who + 0)) + 0 := z4 ([(0, 1), (5, (-1))], 0) (List.mem_of_getElem? (i := 1) rfl); omega
      have n0 : wt ≠ 0 := fun e_ => z5 (([(6, 1)], 0), ([], 0)) (List.mem_of_getElem? (i := 0) rfl) (by show (1 * wt + 0) + 0 = 0 + 0; omega)
      have o0 : zget lo' 0 = some (.ref 0) := locR (p2 (0, .inr (.inl 0)) (List.mem_of_getElem? (i := 0) rfl))
      have o1 : zI lo' 1 mm := zI_of (p2 (1, .inl sf32) (List.mem_of_getElem? (i := 1) rfl)) (z3 (1, ([(0, 1)], 0)) (List.mem_of_getElem? (i := 0) rfl)) (show (1 * mm + 0) + 0 = mm from by omega)
      have o2 : zI lo' 2 1 := zI_of (p2 (2, .inl sf32) (List.mem_of_getElem? (i := 2) rfl)) (z3 (2, ([], 1)) (List.mem_of_getElem? (i := 1) rfl)) (show 0 + 1 = 1 from by omega)
      have o3 : zI lo' 3 w1 := zI_of (p2 (3, .inl sf32) (List.mem_of_getElem? (i := 3) rfl)) (z3 (3, ([(8, 1)], 0)) (List.mem_of_getElem? (i := 2) rfl)) (show (1 * w1 + 0) + 0 = w1 from by omega)
      have o4 : zI lo' 4 ((g : Int) + 1) := zI_of (p2 (4, .inl sf32) (List.mem_of_getElem? (i := 4) rfl)) (z3 (4, ([], ((g : Int) + 1))) (List.mem_of_getElem? (i := 3) rfl)) (show 0 + ((g : Int) + 1) = ((g : Int) + 1) from by omega)
      have p1 : _ = [] := p1
      subst p1
      exact hE1 lo' h' w0 w1 hi' hm g0 g1 c0 n0 o0 o1 o2 o3 o4
    rcases List.mem_cons.mp he with rfl | he
    · obtain ⟨p1, p2, -, hz⟩ := hp
      obtain ⟨w0, f0, hz⟩ := hz
      obtain ⟨⟨z1, z2, z3, z4⟩, z5, z6⟩ := hz
      have g0 : w0 = sgfn 0 ac 0 := (show w0 = sgfn 0 ((1 * ac + 0) + 0) (0 + 0) from f0).trans (sgfn_c (by omega) (by omega))
      have n0 : who ≠ mm := fun e_ => z5 (([(5, 1)], 0), ([(0, 1)], 0)) (List.mem_of_getElem? (i := 0) rfl) (by show (1 * who + 0) + 0 = (1 * mm + 0) + 0; omega)
      have o0 : zget lo' 0 = some (.ref 0) := locR (p2 (0, .inr (.inl 0)) (List.mem_of_getElem? (i := 0) rfl))
      have o1 : zI lo' 1 mm := zI_of (p2 (1, .inl sf32) (List.mem_of_getElem? (i := 1) rfl)) (z3 (1, ([(0, 1)], 0)) (List.mem_of_getElem? (i := 0) rfl)) (show (1 * mm + 0) + 0 = mm from by omega)
      have o2 : zI lo' 2 1 := zI_of (p2 (2, .inl sf32) (List.mem_of_getElem? (i := 2) rfl)) (z3 (2, ([], 1)) (List.mem_of_getElem? (i := 1) rfl)) (show 0 + 1 = 1 from by omega)
      have o3 : zI lo' 3 w0 := zI_of (p2 (3, .inl sf32) (List.mem_of_getElem? (i := 3) rfl)) (z3 (3, ([(7, 1)], 0)) (List.mem_of_getElem? (i := 2) rfl)) (show (1 * w0 + 0) + 0 = w0 from by omega)
      have o4 : zI lo' 4 ((g : Int) + 1) := zI_of (p2 (4, .inl sf32) (List.mem_of_getElem? (i := 4) rfl)) (z3 (4, ([], ((g : Int) + 1))) (List.mem_of_getElem? (i := 3) rfl)) (show 0 + ((g : Int) + 1) = ((g : Int) + 1) from by omega)
      have p1 : _ = [] := p1
      subst p1
      exact hE2 lo' h' w0 hi' hm g0 n0 o0 o1 o2 o3 o4
    cases he
  · intro e he r' h' hp hi' hm
    cases he
def krGb2_L (g : Nat) : List (Nat × sT) := [(0, .inr (.inl 0)), (1, .inl sf32), (2, .inl (1, 1)), (3, .inl (0, 255)), (4, .inl ((g : Int), (g : Int)))]
def krGb2_S (g : Nat) : List sT := []
def krGb2_A (g : Nat) : sAs := ([], [], [], [])
def krGb2_P (g : Nat) : List sP0 := [(0, (none, 13), (0, (g : Int)))]
def krGb2_G (g : Nat) : List sP0 := []
def krGb2_B (g : Nat) : List (Nat × Nat × Int) := []
def krGb2_m (g : Nat) : sM := []
def krGb2_r0 (g : Nat) : sXr := (some (.inl sf32), sA0, [], ([], [(0, ([(2, 1)], 0))], [], []), [], [])
theorem krGb2_b : ((List.range 9).all fun g => syeB swM sT0 (krGb2_m g) 400 0 234 (krGb2_L g) (krGb2_S g) (krGb2_A g) (krGb2_P g) (krGb2_G g) (krGb2_B g) 5 [] [krGb2_r0 g]) = true := by decide +kernel
theorem krGb2 {l : Launch} {Γ : zG} {d : Nat} (hd : 0 ≤ d) {Kp : Option Value → zH → Prop} {lo : zL} {h : zH} {g : Nat} (h_g : g < 9) {mm ac n : Int} (hi : sInv swM h) (b_mm : (-2147483648) ≤ mm ∧ mm ≤ 2147483647) (b_ac : 0 ≤ ac ∧ ac ≤ 255) (b_n : 0 ≤ n ∧ n ≤ (g : Int)) (l0 : zget lo 0 = some (.ref 0)) (l1 : zI lo 1 mm) (l2 : zI lo 2 1) (l3 : zI lo 3 ac) (l4 : zI lo 4 (g : Int)) (p_n : pI h 0 13 = n)
    (hR0 : ∀ (h' : zH) (r_ : Int32), sInv swM h' → sMd (krGb2_m g) h h' → r_.toInt = ac → Kp (some (.int r_)) h') : zX l Γ false (d + 1) (zhd 234) (zMQ' Γ false (zhd 234) Kp) 0 0 5 lo [] h := by
  refine sye_ok (mi := 234) (pc := 5) (fun i => [mm, 1, ac, (g : Int), n].getD i 0) (zall_r krGb2_b h_g) (fun _ _ hc _ => nomatch hc) hd ⟨l0, zIm l1 (by show (-2147483648) ≤ mm; omega) (by show mm ≤ 2147483647; omega), zIm l2 (by show 1 ≤ 1; omega) (by show 1 ≤ 1; omega), zIm l3 (by show 0 ≤ ac; omega) (by show ac ≤ 255; omega), zIm l4 (by show (g : Int) ≤ (g : Int); omega) (by show (g : Int) ≤ (g : Int); omega), trivial⟩ rfl ⟨(fun _ hc => nomatch hc), (fun _ hc => nomatch hc), (fun _ hc => nomatch hc), Or.inl rfl⟩ ⟨⟨p_n, by show 0 ≤ n; omega, by show n ≤ (g : Int); omega⟩, trivial⟩ trivial (fun _ hc => nomatch hc) hi ?_ ?_
  · intro e he lo' st' h' hp hi' hm
    cases he
  · intro e he r' h' hp hi' hm
    rcases List.mem_cons.mp he with rfl | he
    · obtain ⟨p1, -, hz⟩ := hp
      obtain ⟨⟨z1, z2, z3, z4⟩, z5, z6⟩ := hz
      obtain ⟨r_, rfl, hv⟩ := ansI p1 (z2 (0, ([(2, 1)], 0)) (List.mem_of_getElem? (i := 0) rfl))
      have s0 : r_.toInt = ac := (show r_.toInt = (1 * ac + 0) + 0 from hv).trans (by omega)
      exact hR0 h' r_ hi' hm s0
    cases he
