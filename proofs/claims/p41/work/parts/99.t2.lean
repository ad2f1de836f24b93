def gdC_L (g : Nat) (t : Nat) : List (Nat × sT) := [(0, .inr (.inl 61)), (1, .inr (.inl 43)), (2, .inl (0, 100)), (3, .inl (0, 1)), (4, .inl (0, 1)), (5, .inl ((g : Int), (g : Int)))]
def gdC_S (g : Nat) (t : Nat) : List sT := []
def gdC_A (g : Nat) (t : Nat) : sAs := ([], [(61, 0, (17 * t + 9))], [], [])
def gdC_P (g : Nat) (t : Nat) : List sP0 := [((17 * t + 12), (none, 3), (0, 8)), (43, (none, 3), (0, 255))]
def gdC_G (g : Nat) (t : Nat) : List sP0 := [(43, (none, 1), (0, 2147483647))]
def gdC_B (g : Nat) (t : Nat) : List (Nat × Nat × Int) := []
def gdC_m (g : Nat) (t : Nat) : sM := [(43, 1, 2), (43, 3, 4)]
def gdC_e0 (g : Nat) (t : Nat) : sXe := (68, [], [(0, .inr (.inl 61)), (1, .inr (.inl 43)), (2, .inl sf32), (3, .inl sf32), (4, .inl sf32), (5, .inl sf32)], sA0, [(0, 4, ([(5, 1)], 0), ([], (g : Int))), (0, 2, ([(7, 1)], 0), ([], 1))], ([], [], [(2, ([(0, 1)], 0)), (3, ([(1, 1)], 0)), (4, ([(2, 1)], 0)), (5, ([], ((g : Int) + 1)))], [([(4, 1)], (-1 * (g : Int) - 1)), ([(8, 1)], (-1)), ([(8, (-1))], 1)]), [], [])
def gdC_e1 (g : Nat) (t : Nat) : sXe := (68, [], [(0, .inr (.inl 61)), (1, .inr (.inl 43)), (2, .inl sf32), (3, .inl sf32), (4, .inl sf32), (5, .inl sf32)], sA0, [(0, 4, ([(5, 1)], 0), ([], (g : Int))), (0, 2, ([(7, 1)], 0), ([], 1))], ([], [], [(2, ([(0, 1)], 0)), (3, ([(1, 1)], 0)), (4, ([(2, 1)], 0)), (5, ([], ((g : Int) + 1)))], [([(4, 1)], (-1 * (g : Int) - 1)), ([(1, 1)], 0), ([(1, (-1))], 0), ([(2, 1)], 0), ([(2, (-1))], 0)]), [(([(8, 1)], 0), ([], 1))], [])
def gdC_e2 (g : Nat) (t : Nat) : sXe := (68, [], [(0, .inr (.inl 61)), (1, .inr (.inl 43)), (2, .inl sf32), (3, .inl sf32), (4, .inl sf32), (5, .inl sf32)], sA0, [(0, 3, ([], 1), ([], (g : Int))), (0, 0, ([(5, 1)], 0), ([(7, 1)], 0)), (0, 4, ([(5, 1)], 0), ([], (g : Int))), (0, 2, ([(9, 1)], 0), ([], 1))], ([(43, (none, 3), ([(8, 1)], 0))], [], [(2, ([(0, 1)], 0)), (3, ([(1, 1)], 0)), (4, ([(2, 1)], 0)), (5, ([], ((g : Int) + 1)))], [([(4, 1)], (-1 * (g : Int) - 1)), ([(1, 1)], 0), ([(1, (-1))], 0)]), [(([(10, 1)], 0), ([], 1)), (([(2, 1)], 0), ([], 0))], [])
def gdC_e3 (g : Nat) (t : Nat) : sXe := (68, [], [(0, .inr (.inl 61)), (1, .inr (.inl 43)), (2, .inl sf32), (3, .inl sf32), (4, .inl sf32), (5, .inl sf32)], sA0, [(0, 16, ([(6, 1)], 0), ([], 1103515245)), (0, 12, ([(7, 1)], 12345), ([], 2147483647)), (0, 4, ([(5, 1)], 0), ([], (g : Int))), (0, 2, ([(9, 1)], 0), ([], 1)), (0, 17, ([(8, 1)], 0), ([], 65536)), (0, 11, ([(11, 1)], 0), ([], 0)), (0, 8, ([(12, 1)], 0), ([], 100)), (2, 43, ([], 1), ([], 0))], ([], [], [(2, ([(0, 1)], 0)), (3, ([(1, 1)], 0)), (4, ([(2, 1)], 0)), (5, ([], ((g : Int) + 1)))], [([(4, 1)], (-1 * (g : Int) - 1)), ([(0, (-1)), (13, 1)], 0)]), [(([(10, 1)], 0), ([], 1)), (([(1, 1)], 0), ([], 0))], [(14, ([(8, 1)], 0))])
def gdC_e4 (g : Nat) (t : Nat) : sXe := (68, [], [(0, .inr (.inl 61)), (1, .inr (.inl 43)), (2, .inl sf32), (3, .inl sf32), (4, .inl sf32), (5, .inl sf32)], sA0, [(0, 3, ([], 1), ([], (g : Int))), (0, 0, ([(5, 1)], 0), ([(7, 1)], 0)), (0, 16, ([(6, 1)], 0), ([], 1103515245)), (0, 12, ([(9, 1)], 12345), ([], 2147483647)), (0, 4, ([(5, 1)], 0), ([], (g : Int))), (0, 2, ([(11, 1)], 0), ([], 1)), (0, 17, ([(10, 1)], 0), ([], 65536)), (0, 11, ([(13, 1)], 0), ([], 0)), (0, 8, ([(14, 1)], 0), ([], 100)), (2, 43, ([], 1), ([], 0))], ([(43, (none, 3), ([(8, 1)], 0))], [], [(2, ([(0, 1)], 0)), (3, ([(1, 1)], 0)), (4, ([(2, 1)], 0)), (5, ([], ((g : Int) + 1)))], [([(4, 1)], (-1 * (g : Int) - 1)), ([(0, 1), (15, (-1))], (-1))]), [(([(12, 1)], 0), ([], 1)), (([(1, 1)], 0), ([], 0))], [(16, ([(10, 1)], 0))])
def gdC_r0 (g : Nat) (t : Nat) : sXr := (none, sA0, [], ([], [], [], [([(4, (-1))], (g : Int))]), [], [])
theorem gdC_b : ((List.range 8).all fun g => ((List.range 2).all fun t => syeB swC sT0 (gdC_m g t) 400 1 105 (gdC_L g t) (gdC_S g t) (gdC_A g t) (gdC_P g t) (gdC_G g t) (gdC_B g t) 68 [gdC_e0 g t, gdC_e1 g t, gdC_e2 g t, gdC_e3 g t, gdC_e4 g t] [gdC_r0 g t])) = true := by decide +kernel
theorem gdC {l : Launch} {Γ : zG} {d : Nat} (hd : 1 ≤ d) {Kp : Option Value → zH → Prop} {lo : zL} {h : zH} {g : Nat} (h_g : g < 8) {t : Nat} (h_t : t < 2) {dm bd al n w nu : Int} (hi : sInv swC h) (b_dm : 0 ≤ dm ∧ dm ≤ 100) (b_bd : 0 ≤ bd ∧ bd ≤ 1) (b_al : 0 ≤ al ∧ al ≤ 1) (b_n : 0 ≤ n ∧ n ≤ 8) (b_w : 0 ≤ w ∧ w ≤ 255) (b_nu : 0 ≤ nu ∧ nu ≤ 2147483647) (l0 : zget lo 0 = some (.ref 61)) (l1 : zget lo 1 = some (.ref 43)) (l2 : zI lo 2 dm) (l3 : zI lo 3 bd) (l4 : zI lo 4 al) (l5 : zI lo 5 (g : Int)) (p_n : pI h (17 * t + 12) 3 = n) (p_w : pI h 43 3 = w) (p_nu : pL h 43 1 = nu) (q0 : h.2.2.2 61 0 = some (17 * t + 9))
    (hE0 : ∀ (lo' : zL) (h' : zH) (w0 w1 : Int), sInv swC h' → sMd (gdC_m g t) h h' → w0 = sgfn 4 w (g : Int) → w1 = sgfn 2 w0 1 → 0 ≤ n + (-1 * (g : Int) - 1) → w1 = 1 → zget lo' 0 = some (.ref 61) → zget lo' 1 = some (.ref 43) → zI lo' 2 dm → zI lo' 3 bd → zI lo' 4 al → zI lo' 5 ((g : Int) + 1) → zX l Γ false (d + 1) (zhd 105) (zMQ' Γ false (zhd 105) Kp) 0 0 68 lo' [] h')
    (hE1 : ∀ (lo' : zL) (h' : zH) (w0 w1 : Int), sInv swC h' → sMd (gdC_m g t) h h' → w0 = sgfn 4 w (g : Int) → w1 = sgfn 2 w0 1 → 0 ≤ n + (-1 * (g : Int) - 1) → bd = 0 → al = 0 → w1 ≠ 1 → zget lo' 0 = some (.ref 61) → zget lo' 1 = some (.ref 43) → zI lo' 2 dm → zI lo' 3 bd → zI lo' 4 al → zI lo' 5 ((g : Int) + 1) → zX l Γ false (d + 1) (zhd 105) (zMQ' Γ false (zhd 105) Kp) 0 0 68 lo' [] h')
    (hE2 : ∀ (lo' : zL) (h' : zH) (w0 w1 w2 w3 : Int), sInv swC h' → sMd (gdC_m g t) h h' → w0 = sgfn 3 1 (g : Int) → w1 = sgfn 0 w w0 → w2 = sgfn 4 w (g : Int) → w3 = sgfn 2 w2 1 → 0 ≤ n + (-1 * (g : Int) - 1) → bd = 0 → w3 ≠ 1 → al ≠ 0 → pI h' 43 3 = w1 → zget lo' 0 = some (.ref 61) → zget lo' 1 = some (.ref 43) → zI lo' 2 dm → zI lo' 3 bd → zI lo' 4 al → zI lo' 5 ((g : Int) + 1) → zX l Γ false (d + 1) (zhd 105) (zMQ' Γ false (zhd 105) Kp) 0 0 68 lo' [] h')
    (hE3 : ∀ (lo' : zL) (h' : zH) (w0 w1 w2 w3 w4 w5 w6 u0 : Int), sInv swC h' → sMd (gdC_m g t) h h' → w0 = sgfn 16 nu 1103515245 → w1 = sgfn 12 (w0 + 12345) 2147483647 → w2 = sgfn 4 w (g : Int) → w3 = sgfn 2 w2 1 → w4 = sgfn 17 w1 65536 → w5 = sgfn 11 w4 0 → w6 = sgfn 8 w5 100 → pL h' 43 1 = u0 → u0 = w1 → 0 ≤ n + (-1 * (g : Int) - 1) → 0 ≤ -dm + w6 → w3 ≠ 1 → bd ≠ 0 → zget lo' 0 = some (.ref 61) → zget lo' 1 = some (.ref 43) → zI lo' 2 dm → zI lo' 3 bd → zI lo' 4 al → zI lo' 5 ((g : Int) + 1) → zX l Γ false (d + 1) (zhd 105) (zMQ' Γ false (zhd 105) Kp) 0 0 68 lo' [] h')
    (hE4 : ∀ (lo' : zL) (h' : zH) (w0 w1 w2 w3 w4 w5 w6 w7 w8 u0 : Int), sInv swC h' → sMd (gdC_m g t) h h' → w0 = sgfn 3 1 (g : Int) → w1 = sgfn 0 w w0 → w2 = sgfn 16 nu 1103515245 → w3 = sgfn 12 (w2 + 12345) 2147483647 → w4 = sgfn 4 w (g : Int) → w5 = sgfn 2 w4 1 → w6 = sgfn 17 w3 65536 → w7 = sgfn 11 w6 0 → w8 = sgfn 8 w7 100 → pL h' 43 1 = u0 → u0 = w3 → 0 ≤ n + (-1 * (g : Int) - 1) → 0 ≤ dm - w8 - 1 → w5 ≠ 1 → bd ≠ 0 → pI h' 43 3 = w1 → zget lo' 0 = some (.ref 61) → zget lo' 1 = some (.ref 43) → zI lo' 2 dm → zI lo' 3 bd → zI lo' 4 al → zI lo' 5 ((g : Int) + 1) → zX l Γ false (d + 1) (zhd 105) (zMQ' Γ false (zhd 105) Kp) 0 0 68 lo' [] h')
    (hR0 : ∀ (h' : zH), sInv swC h' → sMd (gdC_m g t) h h' → 0 ≤ -n + (g : Int) → Kp none h') : zX l Γ false (d + 1) (zhd 105) (zMQ' Γ false (zhd 105) Kp) 0 0 68 lo [] h := by
  refine sye_ok (mi := 105) (pc := 68) (fun i => [dm, bd, al, (g : Int), n, w, nu].getD i 0) (zall_r (zall_r gdC_b h_g) h_t) (fun _ _ hc _ => nomatch hc) hd ⟨l0, l1, zIm l2 (by show 0 ≤ dm; omega) (by show dm ≤ 100; omega), zIm l3 (by show 0 ≤ bd; omega) (by show bd ≤ 1; omega), zIm l4 (by show 0 ≤ al; omega) (by show al ≤ 1; omega), zIm l5 (by show (g : Int) ≤ (g : Int); omega) (by show (g : Int) ≤ (g : Int); omega), trivial⟩ rfl ⟨(fun _ hc => nomatch hc), (sfm q0 (fun _ hc => nomatch hc)), (fun _ hc => nomatch hc), Or.inl rfl⟩ ⟨⟨p_n, by show 0 ≤ n; omega, by show n ≤ 8; omega⟩, ⟨p_w, by show 0 ≤ w; omega, by show w ≤ 255; omega⟩, trivial⟩ ⟨⟨p_nu, by show 0 ≤ nu; omega, by show nu ≤ 2147483647; omega⟩, trivial⟩ (fun _ hc => nomatch hc) hi ?_ ?_
  · intro e he lo' st' h' hp hi' hm
    rcases List.mem_cons.mp he with rfl | he
    · obtain ⟨p1, p2, -, hz⟩ := hp
      obtain ⟨w0, f0, hz⟩ := hz
      obtain ⟨w1, f1, hz⟩ := hz
      obtain ⟨⟨z1, z2, z3, z4⟩, z5, z6⟩ := hz
      have g0 : w0 = sgfn 4 w (g : Int) := (show w0 = sgfn 4 ((1 * w + 0) + 0) (0 + (g : Int)) from f0).trans (sgfn_c (by omega) (by omega))
      have g1 : w1 = sgfn 2 w0 1 := (show w1 = sgfn 2 ((1 * w0 + 0) + 0) (0 + 1) from f1).trans (sgfn_c (by omega) (by omega))
      have c0 : 0 ≤ n + (-1 * (g : Int) - 1) := by have q_ : (0 : Int) ≤ (1 * n + 0) + (-1 * (g : Int) - 1) := z4 ([(4, 1)], (-1 * (g : Int) - 1)) (List.mem_of_getElem? (i := 0) rfl); omega
      have c1 : w1 = 1 := by have q_ : (0 : Int) ≤ (1 * w1 + 0) + (-1) := z4 ([(8, 1)], (-1)) (List.mem_of_getElem? (i := 1) rfl); have q2_ : (0 : Int) ≤ ((-1) * w1 + 0) + 1 := z4 ([(8, (-1))], 1) (List.mem_of_getElem? (i := 2) rfl); omega
      have o0 : zget lo' 0 = some (.ref 61) := locR (p2 (0, .inr (.inl 61)) (List.mem_of_getElem? (i := 0) rfl))
      have o1 : zget lo' 1 = some (.ref 43) := locR (p2 (1, .inr (.inl 43)) (List.mem_of_getElem? (i := 1) rfl))
      have o2 : zI lo' 2 dm := zI_of (p2 (2, .inl sf32) (List.mem_of_getElem? (i := 2) rfl)) (z3 (2, ([(0, 1)], 0)) (List.mem_of_getElem? (i := 0) rfl)) (show (1 * dm + 0) + 0 = dm from by omega)
      have o3 : zI lo' 3 bd := zI_of (p2 (3, .inl sf32) (List.mem_of_getElem? (i := 3) rfl)) (z3 (3, ([(1, 1)], 0)) (List.mem_of_getElem? (i := 1) rfl)) (show (1 * bd + 0) + 0 = bd from by omega)
      have o4 : zI lo' 4 al := zI_of (p2 (4, .inl sf32) (List.mem_of_getElem? (i := 4) rfl)) (z3 (4, ([(2, 1)], 0)) (List.mem_of_getElem? (i := 2) rfl)) (show (1 * al + 0) + 0 = al from by omega)
      have o5 : zI lo' 5 ((g : Int) + 1) := zI_of (p2 (5, .inl sf32) (List.mem_of_getElem? (i := 5) rfl)) (z3 (5, ([], ((g : Int) + 1))) (List.mem_of_getElem? (i := 3) rfl)) (show 0 + ((g : Int) + 1) = ((g : Int) + 1) from by omega)
      have p1 : _ = [] := p1
      subst p1
      exact hE0 lo' h' w0 w1 hi' hm g0 g1 c0 c1 o0 o1 o2 o3 o4 o5
    rcases List.mem_cons.mp he with rfl | he
    · obtain ⟨p1, p2, -, hz⟩ := hp
      obtain ⟨w0, f0, hz⟩ := hz
      obtain ⟨w1, f1, hz⟩ := hz
      obtain ⟨⟨z1, z2, z3, z4⟩, z5, z6⟩ := hz
      have g0 : w0 = sgfn 4 w (g : Int) := (show w0 = sgfn 4 ((1 * w + 0) + 0) (0 + (g : Int)) from f0).trans (sgfn_c (by omega) (by omega))
      have g1 : w1 = sgfn 2 w0 1 := (show w1 = sgfn 2 ((1 * w0 + 0) + 0) (0 + 1) from f1).trans (sgfn_c (by omega) (by omega))
      have c0 : 0 ≤ n + (-1 * (g : Int) - 1) := by have q_ : (0 : Int) ≤ (1 * n + 0) + (-1 * (g : Int) - 1) := z4 ([(4, 1)], (-1 * (g : Int) - 1)) (List.mem_of_getElem? (i := 0) rfl); omega
      have c1 : bd = 0 := by have q_ : (0 : Int) ≤ (1 * bd + 0) + 0 := z4 ([(1, 1)], 0) (List.mem_of_getElem? (i := 1) rfl); have q2_ : (0 : Int) ≤ ((-1) * bd + 0) + 0 := z4 ([(1, (-1))], 0) (List.mem_of_getElem? (i := 2) rfl); omega
      have c3 : al = 0 := by have q_ : (0 : Int) ≤ (1 * al + 0) + 0 := z4 ([(2, 1)], 0) (List.mem_of_getElem? (i := 3) rfl); have q2_ : (0 : Int) ≤ ((-1) * al + 0) + 0 := z4 ([(2, (-1))], 0) (List.mem_of_getElem? (i := 4) rfl); omega
      have n0 : w1 ≠ 1 := fun e_ => z5 (([(8, 1)], 0), ([], 1)) (List.mem_of_getElem? (i := 0) rfl) (by show (1 * w1 + 0) + 0 = 0 + 1; omega)
      have o0 : zget lo' 0 = some (.ref 61) := locR (p2 (0, .inr (.inl 61)) (List.mem_of_getElem? (i := 0) rfl))
      have o1 : zget lo' 1 = some (.ref 43) := locR (p2 (1, .inr (.inl 43)) (List.mem_of_getElem? (i := 1) rfl))
      have o2 : zI lo' 2 dm := zI_of (p2 (2, .inl sf32) (List.mem_of_getElem? (i := 2) rfl)) (z3 (2, ([(0, 1)], 0)) (List.mem_of_getElem? (i := 0) rfl)) (show (1 * dm + 0) + 0 = dm from by omega)
      have o3 : zI lo' 3 bd := zI_of (p2 (3, .inl sf32) (List.mem_of_getElem? (i := 3) rfl)) (z3 (3, ([(1, 1)], 0)) (List.mem_of_getElem? (i := 1) rfl)) (show (1 * bd + 0) + 0 = bd from by omega)
      have o4 : zI lo' 4 al := zI_of (p2 (4, .inl sf32) (List.mem_of_getElem? (i := 4) rfl)) (z3 (4, ([(2, 1)], 0)) (List.mem_of_getElem? (i := 2) rfl)) (show (1 * al + 0) + 0 = al from by omega)
      have o5 : zI lo' 5 ((g : Int) + 1) := zI_of (p2 (5, .inl sf32) (List.mem_of_getElem? (i := 5) rfl)) (z3 (5, ([], ((g : Int) + 1))) (List.mem_of_getElem? (i := 3) rfl)) (show 0 + ((g : Int) + 1) = ((g : Int) + 1) from by omega)
      have p1 : _ = [] := p1
      subst p1
      exact hE1 lo' h' w0 w1 hi' hm g0 g1 c0 c1 c3 n0 o0 o1 o2 o3 o4 o5
    rcases List.mem_cons.mp he with rfl | he
    · obtain ⟨p1, p2, -, hz⟩ := hp
      obtain ⟨w0, f0, hz⟩ := hz
      obtain ⟨w1, f1, hz⟩ := hz
      obtain ⟨w2, f2, hz⟩ := hz
      obtain ⟨w3, f3, hz⟩ := hz
      obtain ⟨⟨z1, z2, z3, z4⟩, z5, z6⟩ := hz
      have g0 : w0 = sgfn 3 1 (g : Int) := (show w0 = sgfn 3 (0 + 1) (0 + (g : Int)) from f0).trans (sgfn_c (by omega) (by omega))
      have g1 : w1 = sgfn 0 w w0 := (show w1 = sgfn 0 ((1 * w + 0) + 0) ((1 * w0 + 0) + 0) from f1).trans (sgfn_c (by omega) (by omega))
      have g2 : w2 = sgfn 4 w (g : Int) := (show w2 = sgfn 4 ((1 * w + 0) + 0) (0 + (g : Int)) from f2).trans (sgfn_c (by omega) (by omega))
      have g3 : w3 = sgfn 2 w2 1 := (show w3 = sgfn 2 ((1 * w2 + 0) + 0) (0 + 1) from f3).trans (sgfn_c (by omega) (by omega))
      have c0 : 0 ≤ n + (-1 * (g : Int) - 1) := by have q_ : (0 : Int) ≤ (1 * n + 0) + (-1 * (g : Int) - 1) := z4 ([(4, 1)], (-1 * (g : Int) - 1)) (List.mem_of_getElem? (i := 0) rfl); omega
      have c1 : bd = 0 := by have q_ : (0 : Int) ≤ (1 * bd + 0) + 0 := z4 ([(1, 1)], 0) (List.mem_of_getElem? (i := 1) rfl); have q2_ : (0 : Int) ≤ ((-1) * bd + 0) + 0 := z4 ([(1, (-1))], 0) (List.mem_of_getElem? (i := 2) rfl); omega
      have n0 : w3 ≠ 1 := fun e_ => z5 (([(10, 1)], 0), ([], 1)) (List.mem_of_getElem? (i := 0) rfl) (by show (1 * w3 + 0) + 0 = 0 + 1; omega)
      have n1 : al ≠ 0 := fun e_ => z5 (([(2, 1)], 0), ([], 0)) (List.mem_of_getElem? (i := 1) rfl) (by show (1 * al + 0) + 0 = 0 + 0; omega)
      have k0 : pI h' 43 3 = w1 := (show pI h' 43 3 = (1 * w1 + 0) + 0 from z1 (43, (none, 3), ([(8, 1)], 0)) (List.mem_of_getElem? (i := 0) rfl)).trans (by omega)
      have o0 : zget lo' 0 = some (.ref 61) := locR (p2 (0, .inr (.inl 61)) (List.mem_of_getElem? (i := 0) rfl))
      have o1 : zget lo' 1 = some (.ref 43) := locR (p2 (1, .inr (.inl 43)) (List.mem_of_getElem? (i := 1) rfl))
      have o2 : zI lo' 2 dm := zI_of (p2 (2, .inl sf32) (List.mem_of_getElem? (i := 2) rfl)) (z3 (2, ([(0, 1)], 0)) (List.mem_of_getElem? (i := 0) rfl)) (show (1 * dm + 0) + 0 = dm from by omega)
      have o3 : zI lo' 3 bd := zI_of (p2 (3, .inl sf32) (List.mem_of_getElem? (i := 3) rfl)) (z3 (3, ([(1, 1)], 0)) (List.mem_of_getElem? (i := 1) rfl)) (show (1 * bd + 0) + 0 = bd from by omega)
      have o4 : zI lo' 4 al := zI_of (p2 (4, .inl sf32) (List.mem_of_getElem? (i := 4) rfl)) (z3 (4, ([(2, 1)], 0)) (List.mem_of_getElem? (i := 2) rfl)) (show (1 * al + 0) + 0 = al from by omega)
      have o5 : zI lo' 5 ((g : Int) + 1) := zI_of (p2 (5, .inl sf32) (List.mem_of_getElem? (i := 5) rfl)) (z3 (5, ([], ((g : Int) + 1))) (List.mem_of_getElem? (i := 3) rfl)) (show 0 + ((g : Int) + 1) = ((g : Int) + 1) from by omega)
      have p1 : _ = [] := p1
      subst p1
      exact hE2 lo' h' w0 w1 w2 w3 hi' hm g0 g1 g2 g3 c0 c1 n0 n1 k0 o0 o1 o2 o3 o4 o5
    rcases List.mem_cons.mp he with rfl | he
    · obtain ⟨p1, p2, -, hz⟩ := hp
      obtain ⟨w0, f0, hz⟩ := hz
      obtain ⟨w1, f1, hz⟩ := hz
      obtain ⟨w2, f2, hz⟩ := hz
      obtain ⟨w3, f3, hz⟩ := hz
      obtain ⟨w4, f4, hz⟩ := hz
      obtain ⟨w5, f5, hz⟩ := hz
      obtain ⟨w6, f6, hz⟩ := hz
      obtain ⟨u0, f7, hz⟩ := hz
      obtain ⟨⟨z1, z2, z3, z4⟩, z5, z6⟩ := hz
      have g0 : w0 = sgfn 16 nu 1103515245 := (show w0 = sgfn 16 ((1 * nu + 0) + 0) (0 + 1103515245) from f0).trans (sgfn_c (by omega) (by omega))
      have g1 : w1 = sgfn 12 (w0 + 12345) 2147483647 := (show w1 = sgfn 12 ((1 * w0 + 0) + 12345) (0 + 2147483647) from f1).trans (sgfn_c (by omega) (by omega))
      have g2 : w2 = sgfn 4 w (g : Int) := (show w2 = sgfn 4 ((1 * w + 0) + 0) (0 + (g : Int)) from f2).trans (sgfn_c (by omega) (by omega))
      have g3 : w3 = sgfn 2 w2 1 := (show w3 = sgfn 2 ((1 * w2 + 0) + 0) (0 + 1) from f3).trans (sgfn_c (by omega) (by omega))
      have g4 : w4 = sgfn 17 w1 65536 := (show w4 = sgfn 17 ((1 * w1 + 0) + 0) (0 + 65536) from f4).trans (sgfn_c (by omega) (by omega))
      have g5 : w5 = sgfn 11 w4 0 := (show w5 = sgfn 11 ((1 * w4 + 0) + 0) (0 + 0) from f5).trans (sgfn_c (by omega) (by omega))
      have g6 : w6 = sgfn 8 w5 100 := (show w6 = sgfn 8 ((1 * w5 + 0) + 0) (0 + 100) from f6).trans (sgfn_c (by omega) (by omega))
      have g7 : pL h' 43 1 = u0 := by
        rw [← (show (0 + 1).toNat = 1 from by omega)]
        exact f7
      have j0 : u0 = w1 := (show u0 = (1 * w1 + 0) + 0 from z6 (14, ([(8, 1)], 0)) (List.mem_of_getElem? (i := 0) rfl)).trans (by omega)
      have c0 : 0 ≤ n + (-1 * (g : Int) - 1) := by have q_ : (0 : Int) ≤ (1 * n + 0) + (-1 * (g : Int) - 1) := z4 ([(4, 1)], (-1 * (g : Int) - 1)) (List.mem_of_getElem? (i := 0) rfl); omega
      have c1 : 0 ≤ -dm + w6 := by have q_ : (0 : Int) ≤ ((-1) * dm + (1 * w6 + 0)) + 0 := z4 ([(0, (-1)), (13, 1)], 0) (List.mem_of_getElem? (i := 1) rfl); omega
      have n0 : w3 ≠ 1 := fun e_ => z5 (([(10, 1)], 0), ([], 1)) (List.mem_of_getElem? (i := 0) rfl) (by show (1 * w3 + 0) + 0 = 0 + 1; omega)
      have n1 : bd ≠ 0 := fun e_ => z5 (([(1, 1)], 0), ([], 0)) (List.mem_of_getElem? (i := 1) rfl) (by show (1 * bd + 0) + 0 = 0 + 0; omega)
      have o0 : zget lo' 0 = some (.ref 61) := locR (p2 (0, .inr (.inl 61)) (List.mem_of_getElem? (i := 0) rfl))
      have o1 : zget lo' 1 = some (.ref 43) := locR (p2 (1, .inr (.inl 43)) (List.mem_of_getElem? (i := 1) rfl))
      have o2 : zI lo' 2 dm := zI_of (p2 (2, .inl sf32) (List.mem_of_getElem? (i := 2) rfl)) (z3 (2, ([(0, 1)], 0)) (List.mem_of_getElem? (i := 0) rfl)) (show (1 * dm + 0) + 0 = dm from by omega)
      have o3 : zI lo' 3 bd := zI_of (p2 (3, .inl sf32) (List.mem_of_getElem? (i := 3) rfl)) (z3 (3, ([(1, 1)], 0)) (List.mem_of_getElem? (i := 1) rfl)) (show (1 * bd + 0) + 0 = bd from by omega)
      have o4 : zI lo' 4 al := zI_of (p2 (4, .inl sf32) (List.mem_of_getElem? (i := 4) rfl)) (z3 (4, ([(2, 1)], 0)) (List.mem_of_getElem? (i := 2) rfl)) (show (1 * al + 0) + 0 = al from by omega)
      have o5 : zI lo' 5 ((g : Int) + 1) := zI_of (p2 (5, .inl sf32) (List.mem_of_getElem? (i := 5) rfl)) (z3 (5, ([], ((g : Int) + 1))) (List.mem_of_getElem? (i := 3) rfl)) (show 0 + ((g : Int) + 1) = ((g : Int) + 1) from by omega)
      have p1 : _ = [] := p1
      subst p1
      exact hE3 lo' h' w0 w1 w2 w3 w4 w5 w6 u0 hi' hm g0 g1 g2 g3 g4 g5 g6 g7 j0 c0 c1 n0 n1 o0 o1 o2 o3 o4 o5
    rcases List.mem_cons.mp he with rfl | he
    · obtain ⟨p1, p2, -, hz⟩ := hp
      obtain ⟨w0, f0, hz⟩ := hz
      obtain ⟨w1, f1, hz⟩ := hz
      obtain ⟨w2, f2, hz⟩ := hz
      obtain ⟨w3, f3, hz⟩ := hz
      obtain ⟨w4, f4, hz⟩ := hz
      obtain ⟨w5, f5, hz⟩ := hz
      obtain ⟨w6, f6, hz⟩ := hz
      obtain ⟨w7, f7, hz⟩ := hz
      obtain ⟨w8, f8, hz⟩ := hz
      obtain ⟨u0, f9, hz⟩ := hz
      obtain ⟨⟨z1, z2, z3, z4⟩, z5, z6⟩ := hz
      have g0 : w0 = sgfn 3 1 (g : Int) := (show w0 = sgfn 3 (0 + 1) (0 + (g : Int)) from f0).trans (sgfn_c (by omega) (by omega))
      have g1 : w1 = sgfn 0 w w0 := (show w1 = sgfn 0 ((1 * w + 0) + 0) ((1 * w0 + 0) + 0) from f1).trans (sgfn_c (by omega) (by omega))
      have g2 : w2 = sgfn 16 nu 1103515245 := (show w2 = sgfn 16 ((1 * nu + 0) + 0) (0 + 1103515245) from f2).trans (sgfn_c (by omega) (by omega))
      have g3 : w3 = sgfn 12 (w2 + 12345) 2147483647 := (show w3 = sgfn 12 ((1 * w2 + 0) + 12345) (0 + 2147483647) from f3).trans (sgfn_c (by omega) (by omega))
      have g4 : w4 = sgfn 4 w (g : Int) := (show w4 = sgfn 4 ((1 * w + 0) + 0) (0 + (g : Int)) from f4).trans (sgfn_c (by omega) (by omega))
      have g5 : w5 = sgfn 2 w4 1 := (show w5 = sgfn 2 ((1 * w4 + 0) + 0) (0 + 1) from f5).trans (sgfn_c (by omega) (by omega))
      have g6 : w6 = sgfn 17 w3 65536 := (show w6 = sgfn 17 ((1 * w3 + 0) + 0) (0 + 65536) from f6).trans (sgfn_c (by omega) (by omega))
      have g7 : w7 = sgfn 11 w6 0 := (show w7 = sgfn 11 ((1 * w6 + 0) + 0) (0 + 0) from f7).trans (sgfn_c (by omega) (by omega))
      have g8 : w8 = sgfn 8 w7 100 := (show w8 = sgfn 8 ((1 * w7 + 0) + 0) (0 + 100) from f8).trans (sgfn_c (by omega) (by omega))
      have g9 : pL h' 43 1 = u0 := by
        rw [← (show (0 + 1).toNat = 1 from by omega)]
        exact f9
      have j0 : u0 = w3 := (show u0 = (1 * w3 + 0) + 0 from z6 (16, ([(10, 1)], 0)) (List.mem_of_getElem? (i := 0) rfl)).trans (by omega)
      have c0 : 0 ≤ n + (-1 * (g : Int) - 1) := by have q_ : (0 : Int) ≤ (1 * n + 0) + (-1 * (g : Int) - 1) := z4 ([(4, 1)], (-1 * (g : Int) - 1)) (List.mem_of_getElem? (i := 0) rfl); omega
      have c1 : 0 ≤ dm - w8 - 1 := by have q_ : (0 : Int) ≤ (1 * dm + ((-1) * w8 + 0)) + (-1) := z4 ([(0, 1), (15, (-1))], (-1)) (List.mem_of_getElem? (i := 1) rfl); omega
      have n0 : w5 ≠ 1 := fun e_ => z5 (([(12, 1)], 0), ([], 1)) (List.mem_of_getElem? (i := 0) rfl) (by show (1 * w5 + 0) + 0 = 0 + 1; omega)
      have n1 : bd ≠ 0 := fun e_ => z5 (([(1, 1)], 0), ([], 0)) (List.mem_of_getElem? (i := 1) rfl) (by show (1 * bd + 0) + 0 = 0 + 0; omega)
      have k0 : pI h' 43 3 = w1 := (show pI h' 43 3 = (1 * w1 + 0) + 0 from z1 (43, (none, 3), ([(8, 1)], 0)) (List.mem_of_getElem? (i := 0) rfl)).trans (by omega)
      have o0 : zget lo' 0 = some (.ref 61) := locR (p2 (0, .inr (.inl 61)) (List.mem_of_getElem? (i := 0) rfl))
      have o1 : zget lo' 1 = some (.ref 43) := locR (p2 (1, .inr (.inl 43)) (List.mem_of_getElem? (i := 1) rfl))
      have o2 : zI lo' 2 dm := zI_of (p2 (2, .inl sf32) (List.mem_of_getElem? (i := 2) rfl)) (z3 (2, ([(0, 1)], 0)) (List.mem_of_getElem? (i := 0) rfl)) (show (1 * dm + 0) + 0 = dm from by omega)
      have o3 : zI lo' 3 bd := zI_of (p2 (3, .inl sf32) (List.mem_of_getElem? (i := 3) rfl)) (z3 (3, ([(1, 1)], 0)) (List.mem_of_getElem? (i := 1) rfl)) (show (1 * bd + 0) + 0 = bd from by omega)
      have o4 : zI lo' 4 al := zI_of (p2 (4, .inl sf32) (List.mem_of_getElem? (i := 4) rfl)) (z3 (4, ([(2, 1)], 0)) (List.mem_of_getElem? (i := 2) rfl)) (show (1 * al + 0) + 0 = al from by omega)
      have o5 : zI lo' 5 ((g : Int) + 1) := zI_of (p2 (5, .inl sf32) (List.mem_of_getElem? (i := 5) rfl)) (z3 (5, ([], ((g : Int) + 1))) (List.mem_of_getElem? (i := 3) rfl)) (show 0 + ((g : Int) + 1) = ((g : Int) + 1) from by omega)
      have p1 : _ = [] := p1
      subst p1
      exact hE4 lo' h' w0 w1 w2 w3 w4 w5 w6 w7 w8 u0 hi' hm g0 g1 g2 g3 g4 g5 g6 g7 g8 g9 j0 c0 c1 n0 n1 k0 o0 o1 o2 o3 o4 o5
    cases he
  · intro e he r' h' hp hi' hm
    rcases List.mem_cons.mp he with rfl | he
    · obtain ⟨p1, -, hz⟩ := hp
      obtain ⟨⟨z1, z2, z3, z4⟩, z5, z6⟩ := hz
      have c0 : 0 ≤ -n + (g : Int) := by have q_ : (0 : Int) ≤ ((-1) * n + 0) + (g : Int) := z4 ([(4, (-1))], (g : Int)) (List.mem_of_getElem? (i := 0) rfl); omega
      have p1 : r' = none := p1
      subst p1
      exact hR0 h' hi' hm c0
    cases he
