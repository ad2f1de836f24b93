def wealC_L (g : Nat) (t : Nat) : List (Nat × sT) := [(0, .inr (.inl 43)), (1, .inr (.inl (17 * t + 9))), (2, .inl (0, 4)), (3, .inl (0, 16000)), (4, .inl ((g : Int), (g : Int)))]
def wealC_S (g : Nat) (t : Nat) : List sT := []
def wealC_A (g : Nat) (t : Nat) : sAs := ([], [], [], [])
def wealC_P (g : Nat) (t : Nat) : List sP0 := [((17 * t + 12), (none, 3), (0, 8)), ((17 * t + 13), (none, (((6 * g + 1) : Nat) : Int)), sf32), (44, (none, ((g : Nat) : Int)), (0, 999)), (45, (none, ((g : Nat) : Int)), (0, 999))]
def wealC_G (g : Nat) (t : Nat) : List sP0 := []
def wealC_B (g : Nat) (t : Nat) : List (Nat × Nat × Int) := []
def wealC_m (g : Nat) (t : Nat) : sM := []
def wealC_e0 (g : Nat) (t : Nat) : sXe := (5, [], [(0, .inr (.inl 43)), (1, .inr (.inl (17 * t + 9))), (2, .inl sf32), (3, .inl sf32), (4, .inl sf32)], sA0, [], ([], [], [(2, ([(0, 1)], 0)), (3, ([(1, 1), (5, 1), (6, 1)], 0)), (4, ([], ((g : Int) + 1)))], [([(3, 1)], (-1 * (g : Int) - 1)), ([(0, (-1)), (4, 1)], 0), ([(0, 1), (4, (-1))], 0)]), [], [])
def wealC_e1 (g : Nat) (t : Nat) : sXe := (5, [], [(0, .inr (.inl 43)), (1, .inr (.inl (17 * t + 9))), (2, .inl sf32), (3, .inl sf32), (4, .inl sf32)], sA0, [], ([], [], [(2, ([(0, 1)], 0)), (3, ([(1, 1)], 0)), (4, ([], ((g : Int) + 1)))], [([(3, 1)], (-1 * (g : Int) - 1))]), [(([(4, 1)], 0), ([(0, 1)], 0))], [])
def wealC_r0 (g : Nat) (t : Nat) : sXr := (some (.inl sf32), sA0, [], ([], [(0, ([(1, 1)], 0))], [], [([(3, (-1))], (g : Int))]), [], [])
theorem wealC_b : ((List.range 8).all fun g => ((List.range 2).all fun t => syeB swC sT0 (wealC_m g t) 400 1 80 (wealC_L g t) (wealC_S g t) (wealC_A g t) (wealC_P g t) (wealC_G g t) (wealC_B g t) 5 [wealC_e0 g t, wealC_e1 g t] [wealC_r0 g t])) = true := by decide +kernel
theorem wealC {l : Launch} {Γ : zG} {d : Nat} (hd : 1 ≤ d) {Kp : Option Value → zH → Prop} {lo : zL} {h : zH} {g : Nat} (h_g : g < 8) {t : Nat} (h_t : t < 2) {m s n o a b : Int} (hi : sInv swC h) (b_m : 0 ≤ m ∧ m ≤ 4) (b_s : 0 ≤ s ∧ s ≤ 16000) (b_n : 0 ≤ n ∧ n ≤ 8) (b_o : (-2147483648) ≤ o ∧ o ≤ 2147483647) (b_a : 0 ≤ a ∧ a ≤ 999) (b_b : 0 ≤ b ∧ b ≤ 999) (l0 : zget lo 0 = some (.ref 43)) (l1 : zget lo 1 = some (.ref (17 * t + 9))) (l2 : zI lo 2 m) (l3 : zI lo 3 s) (l4 : zI lo 4 (g : Int)) (p_n : pI h (17 * t + 12) 3 = n) (p_o : pI h (17 * t + 13) (6 * g + 1) = o) (p_a : pI h 44 g = a) (p_b : pI h 45 g = b)
    (hE0 : ∀ (lo' : zL) (h' : zH), sInv swC h' → sMd (wealC_m g t) h h' → 0 ≤ n + (-1 * (g : Int) - 1) → o = m → zget lo' 0 = some (.ref 43) → zget lo' 1 = some (.ref (17 * t + 9)) → zI lo' 2 m → zI lo' 3 (s + a + b) → zI lo' 4 ((g : Int) + 1) → zX l Γ false (d + 1) (zhd 80) (zMQ' Γ false (zhd 80) Kp) 0 0 5 lo' [] h')
    (hE1 : ∀ (lo' : zL) (h' : zH), sInv swC h' → sMd (wealC_m g t) h h' → 0 ≤ n + (-1 * (g : Int) - 1) → o ≠ m → zget lo' 0 = some (.ref 43) → zget lo' 1 = some (.ref (17 * t + 9)) → zI lo' 2 m → zI lo' 3 s → zI lo' 4 ((g : Int) + 1) → zX l Γ false (d + 1) (zhd 80) (zMQ' Γ false (zhd 80) Kp) 0 0 5 lo' [] h')
    (hR0 : ∀ (h' : zH) (r_ : Int32), sInv swC h' → sMd (wealC_m g t) h h' → 0 ≤ -n + (g : Int) → r_.toInt = s → Kp (some (.int r_)) h') : zX l Γ false (d + 1) (zhd 80) (zMQ' Γ false (zhd 80) Kp) 0 0 5 lo [] h := by
  refine sye_ok (mi := 80) (pc := 5) (fun i => [m, s, (g : Int), n, o, a, b].getD i 0) (zall_r (zall_r wealC_b h_g) h_t) (fun _ _ hc _ => nomatch hc) hd ⟨l0, l1, zIm l2 (by show 0 ≤ m; omega) (by show m ≤ 4; omega), zIm l3 (by show 0 ≤ s; omega) (by show s ≤ 16000; omega), zIm l4 (by show (g : Int) ≤ (g : Int); omega) (by show (g : Int) ≤ (g : Int); omega), trivial⟩ rfl ⟨(fun _ hc => nomatch hc), (fun _ hc => nomatch hc), (fun _ hc => nomatch hc), Or.inl rfl⟩ ⟨⟨p_n, by show 0 ≤ n; omega, by show n ≤ 8; omega⟩, ⟨p_o, by show (-2147483648) ≤ o; omega, by show o ≤ 2147483647; omega⟩, ⟨p_a, by show 0 ≤ a; omega, by show a ≤ 999; omega⟩, ⟨p_b, by show 0 ≤ b; omega, by show b ≤ 999; omega⟩, trivial⟩ trivial (fun _ hc => nomatch hc) hi ?_ ?_
  · intro e he lo' st' h' hp hi' hm
    rcases List.mem_cons.mp he with rfl | he
    · obtain ⟨p1, p2, -, hz⟩ := hp
      obtain ⟨⟨z1, z2, z3, z4⟩, z5, z6⟩ := hz
      have c0 : 0 ≤ n + (-1 * (g : Int) - 1) := by have q_ : (0 : Int) ≤ (1 * n + 0) + (-1 * (g : Int) - 1) := z4 ([(3, 1)], (-1 * (g : Int) - 1)) (List.mem_of_getElem? (i := 0) rfl); omega
      have c1 : o = m := by have q_ : (0 : Int) ≤ ((-1) * m + (1 * o + 0)) + 0 := z4 ([(0, (-1)), (4, 1)], 0) (List.mem_of_getElem? (i := 1) rfl); have q2_ : (0 : Int) ≤ (1 * m + ((-1) * o + 0)) + 0 := z4 ([(0, 1), (4, (-1))], 0) (List.mem_of_getElem? (i := 2) rfl); omega
      have o0 : zget lo' 0 = some (.ref 43) := locR (p2 (0, .inr (.inl 43)) (List.mem_of_getElem? (i := 0) rfl))
      have o1 : zget lo' 1 = some (.ref (17 * t + 9)) := locR (p2 (1, .inr (.inl (17 * t + 9))) (List.mem_of_getElem? (i := 1) rfl))
      have o2 : zI lo' 2 m := zI_of (p2 (2, .inl sf32) (List.mem_of_getElem? (i := 2) rfl)) (z3 (2, ([(0, 1)], 0)) (List.mem_of_getElem? (i := 0) rfl)) (show (1 * m + 0) + 0 = m from by omega)
      have o3 : zI lo' 3 (s + a + b) := zI_of (p2 (3, .inl sf32) (List.mem_of_getElem? (i := 3) rfl)) (z3 (3, ([(1, 1), (5, 1), (6, 1)], 0)) (List.mem_of_getElem? (i := 1) rfl)) (show (1 * s + (1 * a + (1 * b + 0))) + 0 = s + a + b from by omega)
      have o4 : zI lo' 4 ((g : Int) + 1) := zI_of (p2 (4, .inl sf32) (List.mem_of_getElem? (i := 4) rfl)) (z3 (4, ([], ((g : Int) + 1))) (List.mem_of_getElem? (i := 2) rfl)) (show 0 + ((g : Int) + 1) = ((g : Int) + 1) from by omega)
      have p1 : _ = [] := p1
      subst p1
      exact hE0 lo' h' hi' hm c0 c1 o0 o1 o2 o3 o4
    rcases List.mem_cons.mp he with rfl | he
    · obtain ⟨p1, p2, -, hz⟩ := hp
      obtain ⟨⟨z1, z2, z3, z4⟩, z5, z6⟩ := hz
      have c0 : 0 ≤ n + (-1 * (g : Int) - 1) := by have q_ : (0 : Int) ≤ (1 * n + 0) + (-1 * (g : Int) - 1) := z4 ([(3, 1)], (-1 * (g : Int) - 1)) (List.mem_of_getElem? (i := 0) rfl); omega
      have n0 : o ≠ m := fun e_ => z5 (([(4, 1)], 0), ([(0, 1)], 0)) (List.mem_of_getElem? (i := 0) rfl) (by show (1 * o + 0) + 0 = (1 * m + 0) + 0; omega)
      have o0 : zget lo' 0 = some (.ref 43) := locR (p2 (0, .inr (.inl 43)) (List.mem_of_getElem? (i := 0) rfl))
      have o1 : zget lo' 1 = some (.ref (17 * t + 9)) := locR (p2 (1, .inr (.inl (17 * t + 9))) (List.mem_of_getElem? (i := 1) rfl))
      have o2 : zI lo' 2 m := zI_of (p2 (2, .inl sf32) (List.mem_of_getElem? (i := 2) rfl)) (z3 (2, ([(0, 1)], 0)) (List.mem_of_getElem? (i := 0) rfl)) (show (1 * m + 0) + 0 = m from by omega)
      have o3 : zI lo' 3 s := zI_of (p2 (3, .inl sf32) (List.mem_of_getElem? (i := 3) rfl)) (z3 (3, ([(1, 1)], 0)) (List.mem_of_getElem? (i := 1) rfl)) (show (1 * s + 0) + 0 = s from by omega)
      have o4 : zI lo' 4 ((g : Int) + 1) := zI_of (p2 (4, .inl sf32) (List.mem_of_getElem? (i := 4) rfl)) (z3 (4, ([], ((g : Int) + 1))) (List.mem_of_getElem? (i := 2) rfl)) (show 0 + ((g : Int) + 1) = ((g : Int) + 1) from by omega)
      have p1 : _ = [] := p1
      subst p1
      exact hE1 lo' h' hi' hm c0 n0 o0 o1 o2 o3 o4
    cases he
  · intro e he r' h' hp hi' hm
    rcases List.mem_cons.mp he with rfl | he
    · obtain ⟨p1, -, hz⟩ := hp
      obtain ⟨⟨z1, z2, z3, z4⟩, z5, z6⟩ := hz
      have c0 : 0 ≤ -n + (g : Int) := by have q_ : (0 : Int) ≤ ((-1) * n + 0) + (g : Int) := z4 ([(3, (-1))], (g : Int)) (List.mem_of_getElem? (i := 0) rfl); omega
      obtain ⟨r_, rfl, hv⟩ := ansI p1 (z2 (0, ([(1, 1)], 0)) (List.mem_of_getElem? (i := 0) rfl))
      have s0 : r_.toInt = s := (show r_.toInt = (1 * s + 0) + 0 from hv).trans (by omega)
      exact hR0 h' r_ hi' hm c0 s0
    cases he
