def kdB0_L (t : Nat) (u : Nat) : List sT := [.inr (.inl (12 * u + 43)), .inr (.inl (17 * t + 9))]
def kdB0_A (t : Nat) (u : Nat) : sAs := ([], [], [], [])
def kdB0_P (t : Nat) (u : Nat) : List sP0 := [((17 * t + 9), (none, 7), (0, 99999))]
def kdB0_G (t : Nat) (u : Nat) : List sP0 := []
def kdB0_B (t : Nat) (u : Nat) : List (Nat × Nat × Int) := []
def kdB0_m (t : Nat) (u : Nat) : sM := [((12 * u + 43), 0, 1), ((12 * u + 43), 1, 2), ((12 * u + 43), 2, 3), ((12 * u + 43), 3, 4)]
def kdB0_e0 (t : Nat) (u : Nat) : sXe := (26, [], [(0, .inr (.inl (12 * u + 43))), (1, .inr (.inl (17 * t + 9))), (2, .inl sf32)], sA0, [(2, (12 * u + 43), ([], 1), ([], 0))], ([((12 * u + 43), (none, 3), ([], 0)), ((12 * u + 43), (none, 2), ([], 0)), ((12 * u + 43), (none, 0), ([], 0))], [], [(2, ([], 0))], []), [], [(1, ([(0, 1)], 0))])
theorem kdB0_b : ((List.range 2).all fun t => ((List.range 2).all fun u => syfB swC sT0 (kdB0_m t u) 400 0 73 (kdB0_L t u) (kdB0_A t u) (kdB0_P t u) (kdB0_G t u) (kdB0_B t u) [kdB0_e0 t u] [])) = true := by decide +kernel
theorem kdB0 {l : Launch} {Γ : zG} {d : Nat} (hd : 0 ≤ d) {Kp : Option Value → zH → Prop} {h : zH} {t : Nat} (h_t : t < 2) {u : Nat} (h_u : u < 2) {sd : Int} (hi : sInv swC h) (b_sd : 0 ≤ sd ∧ sd ≤ 99999) (p_sd : pI h (17 * t + 9) 7 = sd)
    (hE0 : ∀ (lo' : zL) (h' : zH) (u0 : Int), sInv swC h' → sMd (kdB0_m t u) h h' → pL h' (12 * u + 43) 1 = u0 → u0 = sd → pI h' (12 * u + 43) 3 = 0 → pI h' (12 * u + 43) 2 = 0 → pI h' (12 * u + 43) 0 = 0 → zget lo' 0 = some (.ref (12 * u + 43)) → zget lo' 1 = some (.ref (17 * t + 9)) → zI lo' 2 0 → zX l Γ false (d + 1) (zhd 73) (zMQ' Γ false (zhd 73) Kp) 0 0 26 lo' [] h') : zSem l Γ false (d + 1) (zhd 73) [.ref (12 * u + 43), .ref (17 * t + 9)] h Kp := by
  refine syf_ok (mi := 73) (fun i => [sd].getD i 0) (zall_r (zall_r kdB0_b h_t) h_u) (fun _ _ hc _ => nomatch hc) hd ⟨_, _, rfl, rfl, ⟨_, _, rfl, rfl, rfl⟩⟩ ⟨rfl, rfl, trivial⟩ ⟨(fun _ hc => nomatch hc), (fun _ hc => nomatch hc), (fun _ hc => nomatch hc), Or.inl rfl⟩ ⟨⟨p_sd, by show 0 ≤ sd; omega, by show sd ≤ 99999; omega⟩, trivial⟩ trivial (fun _ hc => nomatch hc) hi ?_ ?_
  · intro e he lo' st' h' hp hi' hm
    rcases List.mem_cons.mp he with rfl | he
    · obtain ⟨p1, p2, -, hz⟩ := hp
      obtain ⟨u0, f0, hz⟩ := hz
      obtain ⟨⟨z1, z2, z3, z4⟩, z5, z6⟩ := hz
      have g0 : pL h' (12 * u + 43) 1 = u0 := by
        rw [← (show ((0 + 1 : Int)).toNat = 1 from by omega)]
        exact f0
      have j0 : u0 = sd := (show u0 = (1 * sd + 0) + 0 from z6 (1, ([(0, 1)], 0)) (List.mem_of_getElem? (i := 0) rfl)).trans (by omega)
      have k0 : pI h' (12 * u + 43) 3 = 0 := (show pI h' (12 * u + 43) 3 = 0 + 0 from z1 ((12 * u + 43), (none, 3), ([], 0)) (List.mem_of_getElem? (i := 0) rfl)).trans (by omega)
      have k1 : pI h' (12 * u + 43) 2 = 0 := (show pI h' (12 * u + 43) 2 = 0 + 0 from z1 ((12 * u + 43), (none, 2), ([], 0)) (List.mem_of_getElem? (i := 1) rfl)).trans (by omega)
      have k2 : pI h' (12 * u + 43) 0 = 0 := (show pI h' (12 * u + 43) 0 = 0 + 0 from z1 ((12 * u + 43), (none, 0), ([], 0)) (List.mem_of_getElem? (i := 2) rfl)).trans (by omega)
      have o0 : zget lo' 0 = some (.ref (12 * u + 43)) := locR (p2 (0, .inr (.inl (12 * u + 43))) (List.mem_of_getElem? (i := 0) rfl))
      have o1 : zget lo' 1 = some (.ref (17 * t + 9)) := locR (p2 (1, .inr (.inl (17 * t + 9))) (List.mem_of_getElem? (i := 1) rfl))
      have o2 : zI lo' 2 0 := zI_of (p2 (2, .inl sf32) (List.mem_of_getElem? (i := 2) rfl)) (z3 (2, ([], 0)) (List.mem_of_getElem? (i := 0) rfl)) (show 0 + 0 = 0 from by omega)
      have p1 : _ = [] := p1
      subst p1
      exact hE0 lo' h' u0 hi' hm g0 j0 k0 k1 k2 o0 o1 o2
    cases he
  · intro e he r' h' hp hi' hm
    cases he
def kdB1_L (g : Nat) (t : Nat) (u : Nat) : List (Nat × sT) := [(0, .inr (.inl (12 * u + 43))), (1, .inr (.inl (17 * t + 9))), (2, .inl ((g : Int), (g : Int)))]
def kdB1_S (g : Nat) (t : Nat) (u : Nat) : List sT := []
def kdB1_A (g : Nat) (t : Nat) (u : Nat) : sAs := ([], [], [], [])
def kdB1_P (g : Nat) (t : Nat) (u : Nat) : List sP0 := [((17 * t + 12), (none, 3), (((g : Int) + 1), 8)), ((17 * t + 13), (none, (((6 * g + 2) : Nat) : Int)), sf32), ((17 * t + 13), (none, (((6 * g + 3) : Nat) : Int)), sf32)]
def kdB1_G (g : Nat) (t : Nat) (u : Nat) : List sP0 := []
def kdB1_B (g : Nat) (t : Nat) (u : Nat) : List (Nat × Nat × Int) := []
def kdB1_m (g : Nat) (t : Nat) (u : Nat) : sM := [((12 * u + 44), g, (g + 1)), ((12 * u + 45), g, (g + 1))]
def kdB1_e0 (g : Nat) (t : Nat) (u : Nat) : sXe := (26, [], [(0, .inr (.inl (12 * u + 43))), (1, .inr (.inl (17 * t + 9))), (2, .inl sf32)], sA0, [], ([((12 * u + 45), (none, ((g : Nat) : Int)), ([(3, 1)], 0)), ((12 * u + 44), (none, ((g : Nat) : Int)), ([(2, 1)], 0))], [], [(2, ([], ((g : Int) + 1)))], []), [], [])
theorem kdB1_b : ((List.range 8).all fun g => ((List.range 2).all fun t => ((List.range 2).all fun u => syeB swC sT0 (kdB1_m g t u) 400 1 73 (kdB1_L g t u) (kdB1_S g t u) (kdB1_A g t u) (kdB1_P g t u) (kdB1_G g t u) (kdB1_B g t u) 26 [kdB1_e0 g t u] []))) = true := by decide +kernel
theorem kdB1 {l : Launch} {Γ : zG} {d : Nat} (hd : 1 ≤ d) {Kp : Option Value → zH → Prop} {lo : zL} {h : zH} {g : Nat} (h_g : g < 8) {t : Nat} (h_t : t < 2) {u : Nat} (h_u : u < 2) {n a bw : Int} (hi : sInv swC h) (b_n : ((g : Int) + 1) ≤ n ∧ n ≤ 8) (b_a : (-2147483648) ≤ a ∧ a ≤ 2147483647) (b_bw : (-2147483648) ≤ bw ∧ bw ≤ 2147483647) (l0 : zget lo 0 = some (.ref (12 * u + 43))) (l1 : zget lo 1 = some (.ref (17 * t + 9))) (l2 : zI lo 2 (g : Int)) (p_n : pI h (17 * t + 12) 3 = n) (p_a : pI h (17 * t + 13) (6 * g + 2) = a) (p_bw : pI h (17 * t + 13) (6 * g + 3) = bw)
    (hE0 : ∀ (lo' : zL) (h' : zH), sInv swC h' → sMd (kdB1_m g t u) h h' → pI h' (12 * u + 45) g = bw → pI h' (12 * u + 44) g = a → zget lo' 0 = some (.ref (12 * u + 43)) → zget lo' 1 = some (.ref (17 * t + 9)) → zI lo' 2 ((g : Int) + 1) → zX l Γ false (d + 1) (zhd 73) (zMQ' Γ false (zhd 73) Kp) 0 0 26 lo' [] h') : zX l Γ false (d + 1) (zhd 73) (zMQ' Γ false (zhd 73) Kp) 0 0 26 lo [] h := by
  refine sye_ok (mi := 73) (pc := 26) (fun i => [(g : Int), n, a, bw].getD i 0) (zall_r (zall_r (zall_r kdB1_b h_g) h_t) h_u) (fun _ _ hc _ => nomatch hc) hd ⟨l0, l1, zIm l2 (by show (g : Int) ≤ (g : Int); omega) (by show (g : Int) ≤ (g : Int); omega), trivial⟩ rfl ⟨(fun _ hc => nomatch hc), (fun _ hc => nomatch hc), (fun _ hc => nomatch hc), Or.inl rfl⟩ ⟨⟨p_n, by show ((g : Int) + 1) ≤ n; omega, by show n ≤ 8; omega⟩, ⟨p_a, by show (-2147483648) ≤ a; omega, by show a ≤ 2147483647; omega⟩, ⟨p_bw, by show (-2147483648) ≤ bw; omega, by show bw ≤ 2147483647; omega⟩, trivial⟩ trivial (fun _ hc => nomatch hc) hi ?_ ?_
  · intro e he lo' st' h' hp hi' hm
    rcases List.mem_cons.mp he with rfl | he
    · obtain ⟨p1, p2, -, hz⟩ := hp
      obtain ⟨⟨z1, z2, z3, z4⟩, z5, z6⟩ := hz
      have k0 : pI h' (12 * u + 45) g = bw := (show pI h' (12 * u + 45) g = (1 * bw + 0) + 0 from z1 ((12 * u + 45), (none, ((g : Nat) : Int)), ([(3, 1)], 0)) (List.mem_of_getElem? (i := 0) rfl)).trans (by omega)
      have k1 : pI h' (12 * u + 44) g = a := (show pI h' (12 * u + 44) g = (1 * a + 0) + 0 from z1 ((12 * u + 44), (none, ((g : Nat) : Int)), ([(2, 1)], 0)) (List.mem_of_getElem? (i := 1) rfl)).trans (by omega)
      have o0 : zget lo' 0 = some (.ref (12 * u + 43)) := locR (p2 (0, .inr (.inl (12 * u + 43))) (List.mem_of_getElem? (i := 0) rfl))
      have o1 : zget lo' 1 = some (.ref (17 * t + 9)) := locR (p2 (1, .inr (.inl (17 * t + 9))) (List.mem_of_getElem? (i := 1) rfl))
      have o2 : zI lo' 2 ((g : Int) + 1) := zI_of (p2 (2, .inl sf32) (List.mem_of_getElem? (i := 2) rfl)) (z3 (2, ([], ((g : Int) + 1))) (List.mem_of_getElem? (i := 0) rfl)) (show 0 + ((g : Int) + 1) = ((g : Int) + 1) from by omega)
      have p1 : _ = [] := p1
      subst p1
      exact hE0 lo' h' hi' hm k0 k1 o0 o1 o2
    cases he
  · intro e he r' h' hp hi' hm
    cases he
def kdB2_L (g : Nat) (t : Nat) (u : Nat) : List (Nat × sT) := [(0, .inr (.inl (12 * u + 43))), (1, .inr (.inl (17 * t + 9))), (2, .inl ((g : Int), (g : Int)))]
def kdB2_S (g : Nat) (t : Nat) (u : Nat) : List sT := []
def kdB2_A (g : Nat) (t : Nat) (u : Nat) : sAs := ([], [], [], [])
def kdB2_P (g : Nat) (t : Nat) (u : Nat) : List sP0 := [((17 * t + 12), (none, 3), (0, (g : Int)))]
def kdB2_G (g : Nat) (t : Nat) (u : Nat) : List sP0 := []
def kdB2_B (g : Nat) (t : Nat) (u : Nat) : List (Nat × Nat × Int) := []
def kdB2_m (g : Nat) (t : Nat) (u : Nat) : sM := [((12 * u + 44), g, (g + 1)), ((12 * u + 45), g, (g + 1))]
def kdB2_e0 (g : Nat) (t : Nat) (u : Nat) : sXe := (26, [], [(0, .inr (.inl (12 * u + 43))), (1, .inr (.inl (17 * t + 9))), (2, .inl sf32)], sA0, [], ([((12 * u + 45), (none, ((g : Nat) : Int)), ([], 0)), ((12 * u + 44), (none, ((g : Nat) : Int)), ([], 0))], [], [(2, ([], ((g : Int) + 1)))], []), [], [])
theorem kdB2_b : ((List.range 8).all fun g => ((List.range 2).all fun t => ((List.range 2).all fun u => syeB swC sT0 (kdB2_m g t u) 400 1 73 (kdB2_L g t u) (kdB2_S g t u) (kdB2_A g t u) (kdB2_P g t u) (kdB2_G g t u) (kdB2_B g t u) 26 [kdB2_e0 g t u] []))) = true := by decide +kernel
theorem kdB2 {l : Launch} {Γ : zG} {d : Nat} (hd : 1 ≤ d) {Kp : Option Value → zH → Prop} {lo : zL} {h : zH} {g : Nat} (h_g : g < 8) {t : Nat} (h_t : t < 2) {u : Nat} (h_u : u < 2) {n : Int} (hi : sInv swC h) (b_n : 0 ≤ n ∧ n ≤ (g : Int)) (l0 : zget lo 0 = some (.ref (12 * u + 43))) (l1 : zget lo 1 = some (.ref (17 * t + 9))) (l2 : zI lo 2 (g : Int)) (p_n : pI h (17 * t + 12) 3 = n)
    (hE0 : ∀ (lo' : zL) (h' : zH), sInv swC h' → sMd (kdB2_m g t u) h h' → pI h' (12 * u + 45) g = 0 → pI h' (12 * u + 44) g = 0 → zget lo' 0 = some (.ref (12 * u + 43)) → zget lo' 1 = some (.ref (17 * t + 9)) → zI lo' 2 ((g : Int) + 1) → zX l Γ false (d + 1) (zhd 73) (zMQ' Γ false (zhd 73) Kp) 0 0 26 lo' [] h') : zX l Γ false (d + 1) (zhd 73) (zMQ' Γ false (zhd 73) Kp) 0 0 26 lo [] h := by
  refine sye_ok (mi := 73) (pc := 26) (fun i => [(g : Int), n].getD i 0) (zall_r (zall_r (zall_r kdB2_b h_g) h_t) h_u) (fun _ _ hc _ => nomatch hc) hd ⟨l0, l1, zIm l2 (by show (g : Int) ≤ (g : Int); omega) (by show (g : Int) ≤ (g : Int); omega), trivial⟩ rfl ⟨(fun _ hc => nomatch hc), (fun _ hc => nomatch hc), (fun _ hc => nomatch hc), Or.inl rfl⟩ ⟨⟨p_n, by show 0 ≤ n; omega, by show n ≤ (g : Int); omega⟩, trivial⟩ trivial (fun _ hc => nomatch hc) hi ?_ ?_
  · intro e he lo' st' h' hp hi' hm
    rcases List.mem_cons.mp he with rfl | he
    · obtain ⟨p1, p2, -, hz⟩ := hp
      obtain ⟨⟨z1, z2, z3, z4⟩, z5, z6⟩ := hz
      have k0 : pI h' (12 * u + 45) g = 0 := (show pI h' (12 * u + 45) g = 0 + 0 from z1 ((12 * u + 45), (none, ((g : Nat) : Int)), ([], 0)) (List.mem_of_getElem? (i := 0) rfl)).trans (by omega)
      have k1 : pI h' (12 * u + 44) g = 0 := (show pI h' (12 * u + 44) g = 0 + 0 from z1 ((12 * u + 44), (none, ((g : Nat) : Int)), ([], 0)) (List.mem_of_getElem? (i := 1) rfl)).trans (by omega)
      have o0 : zget lo' 0 = some (.ref (12 * u + 43)) := locR (p2 (0, .inr (.inl (12 * u + 43))) (List.mem_of_getElem? (i := 0) rfl))
      have o1 : zget lo' 1 = some (.ref (17 * t + 9)) := locR (p2 (1, .inr (.inl (17 * t + 9))) (List.mem_of_getElem? (i := 1) rfl))
      have o2 : zI lo' 2 ((g : Int) + 1) := zI_of (p2 (2, .inl sf32) (List.mem_of_getElem? (i := 2) rfl)) (z3 (2, ([], ((g : Int) + 1))) (List.mem_of_getElem? (i := 0) rfl)) (show 0 + ((g : Int) + 1) = ((g : Int) + 1) from by omega)
      have p1 : _ = [] := p1
      subst p1
      exact hE0 lo' h' hi' hm k0 k1 o0 o1 o2
    cases he
  · intro e he r' h' hp hi' hm
    cases he
def kdB3_L (t : Nat) (u : Nat) : List (Nat × sT) := [(0, .inr (.inl (12 * u + 43))), (1, .inr (.inl (17 * t + 9))), (2, .inl (8, 8))]
def kdB3_S (t : Nat) (u : Nat) : List sT := []
def kdB3_A (t : Nat) (u : Nat) : sAs := ([], [], [], [])
def kdB3_P (t : Nat) (u : Nat) : List sP0 := []
def kdB3_G (t : Nat) (u : Nat) : List sP0 := []
def kdB3_B (t : Nat) (u : Nat) : List (Nat × Nat × Int) := []
def kdB3_m (t : Nat) (u : Nat) : sM := [((12 * u + 46), 0, 8), ((12 * u + 47), 0, 8), ((12 * u + 48), 0, 10)]
def kdB3_r0 (t : Nat) (u : Nat) : sXr := (none, sA0, [], ([((12 * u + 48), (none, 9), ([], 0)), ((12 * u + 48), (none, 8), ([], 0)), ((12 * u + 48), (none, 7), ([], 0)), ((12 * u + 48), (none, 6), ([], 0)), ((12 * u + 48), (none, 5), ([], 0)), ((12 * u + 48), (none, 4), ([], 0)), ((12 * u + 48), (none, 3), ([], 0)), ((12 * u + 48), (none, 2), ([], 0)), ((12 * u + 48), (none, 1), ([], 0)), ((12 * u + 48), (none, 0), ([], 0)), ((12 * u + 47), (none, 7), ([], 0)), ((12 * u + 47), (none, 6), ([], 0)), ((12 * u + 47), (none, 5), ([], 0)), ((12 * u + 47), (none, 4), ([], 0)), ((12 * u + 47), (none, 3), ([], 0)), ((12 * u + 47), (none, 2), ([], 0)), ((12 * u + 47), (none, 1), ([], 0)), ((12 * u + 47), (none, 0), ([], 0)), ((12 * u + 46), (none, 7), ([], 0)), ((12 * u + 46), (none, 6), ([], 0)), ((12 * u + 46), (none, 5), ([], 0)), ((12 * u + 46), (none, 4), ([], 0)), ((12 * u + 46), (none, 3), ([], 0)), ((12 * u + 46), (none, 2), ([], 0)), ((12 * u + 46), (none, 1), ([], 0)), ((12 * u + 46), (none, 0), ([], 0))], [], [], []), [], [])
theorem kdB3_b : ((List.range 2).all fun t => ((List.range 2).all fun u => syeB swC sT0 (kdB3_m t u) 400 1 73 (kdB3_L t u) (kdB3_S t u) (kdB3_A t u) (kdB3_P t u) (kdB3_G t u) (kdB3_B t u) 26 [] [kdB3_r0 t u])) = true := by decide +kernel
theorem kdB3 {l : Launch} {Γ : zG} {d : Nat} (hd : 1 ≤ d) {Kp : Option Value → zH → Prop} {lo : zL} {h : zH} {t : Nat} (h_t : t < 2) {u : Nat} (h_u : u < 2) (hi : sInv swC h) (l0 : zget lo 0 = some (.ref (12 * u + 43))) (l1 : zget lo 1 = some (.ref (17 * t + 9))) (l2 : zI lo 2 8)
    (hR0 : ∀ (h' : zH), sInv swC h' → sMd (kdB3_m t u) h h' → pI h' (12 * u + 48) 9 = 0 → pI h' (12 * u + 48) 8 = 0 → pI h' (12 * u + 48) 7 = 0 → pI h' (12 * u + 48) 6 = 0 → pI h' (12 * u + 48) 5 = 0 → pI h' (12 * u + 48) 4 = 0 → pI h' (12 * u + 48) 3 = 0 → pI h' (12 * u + 48) 2 = 0 → pI h' (12 * u + 48) 1 = 0 → pI h' (12 * u + 48) 0 = 0 → pI h' (12 * u + 47) 7 = 0 → pI h' (12 * u + 47) 6 = 0 → pI h' (12 * u + 47) 5 = 0 → pI h' (12 * u + 47) 4 = 0 → pI h' (12 * u + 47) 3 = 0 → pI h' (12 * u + 47) 2 = 0 → pI h' (12 * u + 47) 1 = 0 → pI h' (12 * u + 47) 0 = 0 → pI h' (12 * u + 46) 7 = 0 → pI h' (12 * u + 46) 6 = 0 → pI h' (12 * u + 46) 5 = 0 → pI h' (12 * u + 46) 4 = 0 → pI h' (12 * u + 46) 3 = 0 → pI h' (12 * u + 46) 2 = 0 → pI h' (12 * u + 46) 1 = 0 → pI h' (12 * u + 46) 0 = 0 → Kp none h') : zX l Γ false (d + 1) (zhd 73) (zMQ' Γ false (zhd 73) Kp) 0 0 26 lo [] h := by
  refine sye_ok (mi := 73) (pc := 26) (fun i => [8].getD i 0) (zall_r (zall_r kdB3_b h_t) h_u) (fun _ _ hc _ => nomatch hc) hd ⟨l0, l1, zIm l2 (by show 8 ≤ 8; omega) (by show 8 ≤ 8; omega), trivial⟩ rfl ⟨(fun _ hc => nomatch hc), (fun _ hc => nomatch hc), (fun _ hc => nomatch hc), Or.inl rfl⟩ trivial trivial (fun _ hc => nomatch hc) hi ?_ ?_
  · intro e he lo' st' h' hp hi' hm
    cases he
  · intro e he r' h' hp hi' hm
    rcases List.mem_cons.mp he with rfl | he
    · obtain ⟨p1, -, hz⟩ := hp
      obtain ⟨⟨z1, z2, z3, z4⟩, z5, z6⟩ := hz
      have k0 : pI h' (12 * u + 48) 9 = 0 := (show pI h' (12 * u + 48) 9 = 0 + 0 from z1 ((12 * u + 48), (none, 9), ([], 0)) (List.mem_of_getElem? (i := 0) rfl)).trans (by omega)
      have k1 : pI h' (12 * u + 48) 8 = 0 := (show pI h' (12 * u + 48) 8 = 0 + 0 from z1 ((12 * u + 48), (none, 8), ([], 0)) (List.mem_of_getElem? (i := 1) rfl)).trans (by omega)
      have k2 : pI h' (12 * u + 48) 7 = 0 := (show pI h' (12 * u + 48) 7 = 0 + 0 from z1 ((12 * u + 48), (none, 7), ([], 0)) (List.mem_of_getElem? (i := 2) rfl)).trans (by omega)
      have k3 : pI h' (12 * u + 48) 6 = 0 := (show pI h' (12 * u + 48) 6 = 0 + 0 from z1 ((12 * u + 48), (none, 6), ([], 0)) (List.mem_of_getElem? (i := 3) rfl)).trans (by omega)
      have k4 : pI h' (12 * u + 48) 5 = 0 := (show pI h' (12 * u + 48) 5 = 0 + 0 from z1 ((12 * u + 48), (none, 5), ([], 0)) (List.mem_of_getElem? (i := 4) rfl)).trans (by omega)
      have k5 : pI h' (12 * u + 48) 4 = 0 := (show pI h' (12 * u + 48) 4 = 0 + 0 from z1 ((12 * u + 48), (none, 4), ([], 0)) (List.mem_of_getElem? (i := 5) rfl)).trans (by omega)
      have k6 : pI h' (12 * u + 48) 3 = 0 := (show pI h' (12 * u + 48) 3 = 0 + 0 from z1 ((12 * u + 48), (none, 3), ([], 0)) (List.mem_of_getElem? (i := 6) rfl)).trans (by omega)
      have k7 : pI h' (12 * u + 48) 2 = 0 := (show pI h' (12 * u + 48) 2 = 0 + 0 from z1 ((12 * u + 48), (none, 2), ([], 0)) (List.mem_of_getElem? (i := 7) rfl)).trans (by omega)
      have k8 : pI h' (12 * u + 48) 1 = 0 := (show pI h' (12 * u + 48) 1 = 0 + 0 from z1 ((12 * u + 48), (none, 1), ([], 0)) (List.mem_of_getElem? (i := 8) rfl)).trans (by omega)
      have k9 : pI h' (12 * u + 48) 0 = 0 := (show pI h' (12 * u + 48) 0 = 0 + 0 from z1 ((12 * u + 48), (none, 0), ([], 0)) (List.mem_of_getElem? (i := 9) rfl)).trans (by omega)
      have k10 : pI h' (12 * u + 47) 7 = 0 := (show pI h' (12 * u + 47) 7 = 0 + 0 from z1 ((12 * u + 47), (none, 7), ([], 0)) (List.mem_of_getElem? (i := 10) rfl)).trans (by omega)
      have k11 : pI h' (12 * u + 47) 6 = 0 := (show pI h' (12 * u + 47) 6 = 0 + 0 from z1 ((12 * u + 47), (none, 6), ([], 0)) (List.mem_of_getElem? (i := 11) rfl)).trans (by omega)
      have k12 : pI h' (12 * u + 47) 5 = 0 := (show pI h' (12 * u + 47) 5 = 0 + 0 from z1 ((12 * u + 47), (none, 5), ([], 0)) (List.mem_of_getElem? (i := 12) rfl)).trans (by omega)
      have k13 : pI h' (12 * u + 47) 4 = 0 := (show pI h' (12 * u + 47) 4 = 0 + 0 from z1 ((12 * u + 47), (none, 4), ([], 0)) (List.mem_of_getElem? (i := 13) rfl)).trans (by omega)
      have k14 : pI h' (12 * u + 47) 3 = 0 := (show pI h' (12 * u + 47) 3 = 0 + 0 from z1 ((12 * u + 47), (none, 3), ([], 0)) (List.mem_of_getElem? (i := 14) rfl)).trans (by omega)
      have k15 : pI h' (12 * u + 47) 2 = 0 := (show pI h' (12 * u + 47) 2 = 0 + 0 from z1 ((12 * u + 47), (none, 2), ([], 0)) (List.mem_of_getElem? (i := 15) rfl)).trans (by omega)
      have k16 : pI h' (12 * u + 47) 1 = 0 := (show pI h' (12 * u + 47) 1 = 0 + 0 from z1 ((12 * u + 47), (none, 1), ([], 0)) (List.mem_of_getElem? (i := 16) rfl)).trans (by omega)
      have k17 : pI h' (12 * u + 47) 0 = 0 := (show pI h' (12 * u + 47) 0 = 0 + 0 from z1 ((12 * u + 47), (none, 0), ([], 0)) (List.mem_of_getElem? (i := 17) rfl)).trans (by omega)
      have k18 : pI h' (12 * u + 46) 7 = 0 := (show pI h' (12 * u + 46) 7 = 0 + 0 from z1 ((12 * u + 46), (none, 7), ([], 0)) (List.mem_of_getElem? (i := 18) rfl)).trans (by omega)
      have k19 : pI h' (12 * u + 46) 6 = 0 := (show pI h' (12 * u + 46) 6 = 0 + 0 from z1 ((12 * u + 46), (none, 6), ([], 0)) (List.mem_of_getElem? (i := 19) rfl)).trans (by omega)
      have k20 : pI h' (12 * u + 46) 5 = 0 := (show pI h' (12 * u + 46) 5 = 0 + 0 from z1 ((12 * u + 46), (none, 5), ([], 0)) (List.mem_of_getElem? (i := 20) rfl)).trans (by omega)
      have k21 : pI h' (12 * u + 46) 4 = 0 := (show pI h' (12 * u + 46) 4 = 0 + 0 from z1 ((12 * u + 46), (none, 4), ([], 0)) (List.mem_of_getElem? (i := 21) rfl)).trans (by omega)
      have k22 : pI h' (12 * u + 46) 3 = 0 := (show pI h' (12 * u + 46) 3 = 0 + 0 from z1 ((12 * u + 46), (none, 3), ([], 0)) (List.mem_of_getElem? (i := 22) rfl)).trans (by omega)
      have k23 : pI h' (12 * u + 46) 2 = 0 := (show pI h' (12 * u + 46) 2 = 0 + 0 from z1 ((12 * u + 46), (none, 2), ([], 0)) (List.mem_of_getElem? (i := 23) rfl)).trans (by omega)
      have k24 : pI h' (12 * u + 46) 1 = 0 := (show pI h' (12 * u + 46) 1 = 0 + 0 from z1 ((12 * u + 46), (none, 1), ([], 0)) (List.mem_of_getElem? (i := 24) rfl)).trans (by omega)
      have k25 : pI h' (12 * u + 46) 0 = 0 := (show pI h' (12 * u + 46) 0 = 0 + 0 from z1 ((12 * u + 46), (none, 0), ([], 0)) (List.mem_of_getElem? (i := 25) rfl)).trans (by omega)
      have p1 : r' = none := p1
      subst p1
      exact hR0 h' hi' hm k0 k1 k2 k3 k4 k5 k6 k7 k8 k9 k10 k11 k12 k13 k14 k15 k16 k17 k18 k19 k20 k21 k22 k23 k24 k25
    cases he
def kdKa0_L : List sT := [.inr (.inl 49), .inr (.inl 43)]
def kdKa0_A : sAs := ([], [], [], [])
def kdKa0_P : List sP0 := [(43, (none, 0), sf32), (43, (none, 2), sf32), (43, (none, 3), sf32)]
def kdKa0_G : List sP0 := [(43, (none, 1), sf64)]
def kdKa0_B : List (Nat × Nat × Int) := []
def kdKa0_m : sM := [(49, 0, 1), (49, 1, 2), (49, 2, 3), (49, 3, 4)]
def kdKa0_e0 : sXe := (44, [.inl sf32, .inl sf32, .inr (.inl 50), .inl sf32, .inr (.inl 44)], [(0, .inr (.inl 49)), (1, .inr (.inl 43))], sA0, [(2, 49, ([], 1), ([], 0))], ([(49, (none, 3), ([(2, 1)], 0)), (49, (none, 2), ([(1, 1)], 0)), (49, (none, 0), ([(0, 1)], 0))], [(0, ([], 8)), (1, ([], 0)), (3, ([], 0))], [], []), [], [(4, ([(3, 1)], 0))])
theorem kdKa0_b : syfB swC sT0 kdKa0_m 400 0 112 kdKa0_L kdKa0_A kdKa0_P kdKa0_G kdKa0_B [kdKa0_e0] [] = true := by decide +kernel
theorem kdKa0 {l : Launch} {Γ : zG} {d : Nat} (hd : 0 ≤ d) {Kp : Option Value → zH → Prop} {h : zH} {m tx w nu : Int} (hi : sInv swC h) (b_m : (-2147483648) ≤ m ∧ m ≤ 2147483647) (b_tx : (-2147483648) ≤ tx ∧ tx ≤ 2147483647) (b_w : (-2147483648) ≤ w ∧ w ≤ 2147483647) (b_nu : (-9223372036854775808) ≤ nu ∧ nu ≤ 9223372036854775807) (p_m : pI h 43 0 = m) (p_tx : pI h 43 2 = tx) (p_w : pI h 43 3 = w) (p_nu : pL h 43 1 = nu)
    (hE0 : ∀ (lo' : zL) (h' : zH) (u0 : Int) (y0 : Int32) (y1 : Int32) (y3 : Int32), sInv swC h' → sMd kdKa0_m h h' → pL h' 49 1 = u0 → u0 = nu → pI h' 49 3 = w → pI h' 49 2 = tx → pI h' 49 0 = m → zget lo' 0 = some (.ref 49) → zget lo' 1 = some (.ref 43) → y0.toInt = 8 → y1.toInt = 0 → y3.toInt = 0 → zX l Γ false (d + 1) (zhd 112) (zMQ' Γ false (zhd 112) Kp) 0 0 44 lo' [.int y0, .int y1, .ref 50, .int y3, .ref 44] h') : zSem l Γ false (d + 1) (zhd 112) [.ref 49, .ref 43] h Kp := by
  refine syf_ok (mi := 112) (fun i => [m, tx, w, nu].getD i 0) kdKa0_b (fun _ _ hc _ => nomatch hc) hd ⟨_, _, rfl, rfl, ⟨_, _, rfl, rfl, rfl⟩⟩ ⟨rfl, rfl, trivial⟩ ⟨(fun _ hc => nomatch hc), (fun _ hc => nomatch hc), (fun _ hc => nomatch hc), Or.inl rfl⟩ ⟨⟨p_m, by show (-2147483648) ≤ m; omega, by show m ≤ 2147483647; omega⟩, ⟨p_tx, by show (-2147483648) ≤ tx; omega, by show tx ≤ 2147483647; omega⟩, ⟨p_w, by show (-2147483648) ≤ w; omega, by show w ≤ 2147483647; omega⟩, trivial⟩ ⟨⟨p_nu, by show (-9223372036854775808) ≤ nu; omega, by show nu ≤ 9223372036854775807; omega⟩, trivial⟩ (fun _ hc => nomatch hc) hi ?_ ?_
  · intro e he lo' st' h' hp hi' hm
    rcases List.mem_cons.mp he with rfl | he
    · obtain ⟨p1, p2, -, hz⟩ := hp
      obtain ⟨u0, f0, hz⟩ := hz
      obtain ⟨⟨z1, z2, z3, z4⟩, z5, z6⟩ := hz
      have g0 : pL h' 49 1 = u0 := by
        rw [← (show ((0 + 1 : Int)).toNat = 1 from by omega)]
        exact f0
      have j0 : u0 = nu := (show u0 = (1 * nu + 0) + 0 from z6 (4, ([(3, 1)], 0)) (List.mem_of_getElem? (i := 0) rfl)).trans (by omega)
      have k0 : pI h' 49 3 = w := (show pI h' 49 3 = (1 * w + 0) + 0 from z1 (49, (none, 3), ([(2, 1)], 0)) (List.mem_of_getElem? (i := 0) rfl)).trans (by omega)
      have k1 : pI h' 49 2 = tx := (show pI h' 49 2 = (1 * tx + 0) + 0 from z1 (49, (none, 2), ([(1, 1)], 0)) (List.mem_of_getElem? (i := 1) rfl)).trans (by omega)
      have k2 : pI h' 49 0 = m := (show pI h' 49 0 = (1 * m + 0) + 0 from z1 (49, (none, 0), ([(0, 1)], 0)) (List.mem_of_getElem? (i := 2) rfl)).trans (by omega)
      have o0 : zget lo' 0 = some (.ref 49) := locR (p2 (0, .inr (.inl 49)) (List.mem_of_getElem? (i := 0) rfl))
      have o1 : zget lo' 1 = some (.ref 43) := locR (p2 (1, .inr (.inl 43)) (List.mem_of_getElem? (i := 1) rfl))
      obtain ⟨_, _, rfl, ⟨y0, rfl, -⟩, p1⟩ := p1
      obtain ⟨_, _, rfl, ⟨y1, rfl, -⟩, p1⟩ := p1
      obtain ⟨_, _, rfl, hr, p1⟩ := p1
      have hr : _ = Value.ref 50 := hr
      subst hr
      obtain ⟨_, _, rfl, ⟨y3, rfl, -⟩, p1⟩ := p1
      obtain ⟨_, _, rfl, hr, p1⟩ := p1
      have hr : _ = Value.ref 44 := hr
      subst hr
      have p1 : _ = [] := p1
      subst p1
      obtain ⟨v_, ev, hv⟩ := z2 (0, ([], 8)) (List.mem_of_getElem? (i := 0) rfl)
      cases ev
      have s0 : y0.toInt = 8 := (show y0.toInt = 0 + 8 from hv).trans (by omega)
      obtain ⟨v_, ev, hv⟩ := z2 (1, ([], 0)) (List.mem_of_getElem? (i := 1) rfl)
      cases ev
      have s1 : y1.toInt = 0 := (show y1.toInt = 0 + 0 from hv).trans (by omega)
      obtain ⟨v_, ev, hv⟩ := z2 (3, ([], 0)) (List.mem_of_getElem? (i := 2) rfl)
      cases ev
      have s3 : y3.toInt = 0 := (show y3.toInt = 0 + 0 from hv).trans (by omega)
      exact hE0 lo' h' u0 y0 y1 y3 hi' hm g0 j0 k0 k1 k2 o0 o1 s0 s1 s3
    cases he
  · intro e he r' h' hp hi' hm
    cases he
def kdKa1_L : List (Nat × sT) := [(0, .inr (.inl 49)), (1, .inr (.inl 43))]
def kdKa1_S : List sT := []
def kdKa1_A : sAs := ([], [], [], [])
def kdKa1_P : List sP0 := []
def kdKa1_G : List sP0 := []
def kdKa1_B : List (Nat × Nat × Int) := []
def kdKa1_m : sM := []
def kdKa1_e0 : sXe := (59, [.inl sf32, .inl sf32, .inr (.inl 51), .inl sf32, .inr (.inl 45)], [(0, .inr (.inl 49)), (1, .inr (.inl 43))], sA0, [], ([], [(0, ([], 8)), (1, ([], 0)), (3, ([], 0))], [], []), [], [])
theorem kdKa1_b : syeB swC sT0 kdKa1_m 400 0 112 kdKa1_L kdKa1_S kdKa1_A kdKa1_P kdKa1_G kdKa1_B 47 [kdKa1_e0] [] = true := by decide +kernel
theorem kdKa1 {l : Launch} {Γ : zG} {d : Nat} (hd : 0 ≤ d) {Kp : Option Value → zH → Prop} {lo : zL} {h : zH} (hi : sInv swC h) (l0 : zget lo 0 = some (.ref 49)) (l1 : zget lo 1 = some (.ref 43))
    (hE0 : ∀ (lo' : zL) (h' : zH) (y0 : Int32) (y1 : Int32) (y3 : Int32), sInv swC h' → sMd kdKa1_m h h' → zget lo' 0 = some (.ref 49) → zget lo' 1 = some (.ref 43) → y0.toInt = 8 → y1.toInt = 0 → y3.toInt = 0 → zX l Γ false (d + 1) (zhd 112) (zMQ' Γ false (zhd 112) Kp) 0 0 59 lo' [.int y0, .int y1, .ref 51, .int y3, .ref 45] h') : zX l Γ false (d + 1) (zhd 112) (zMQ' Γ false (zhd 112) Kp) 0 0 47 lo [] h := by
  refine sye_ok (mi := 112) (pc := 47) (fun i => [].getD i 0) kdKa1_b (fun _ _ hc _ => nomatch hc) hd ⟨l0, l1, trivial⟩ rfl ⟨(fun _ hc => nomatch hc), (fun _ hc => nomatch hc), (fun _ hc => nomatch hc), Or.inl rfl⟩ trivial trivial (fun _ hc => nomatch hc) hi ?_ ?_
  · intro e he lo' st' h' hp hi' hm
    rcases List.mem_cons.mp he with rfl | he
    · obtain ⟨p1, p2, -, hz⟩ := hp
      obtain ⟨⟨z1, z2, z3, z4⟩, z5, z6⟩ := hz
      have o0 : zget lo' 0 = some (.ref 49) := locR (p2 (0, .inr (.inl 49)) (List.mem_of_getElem? (i := 0) rfl))
      have o1 : zget lo' 1 = some (.ref 43) := locR (p2 (1, .inr (.inl 43)) (List.mem_of_getElem? (i := 1) rfl))
      obtain ⟨_, _, rfl, ⟨y0, rfl, -⟩, p1⟩ := p1
      obtain ⟨_, _, rfl, ⟨y1, rfl, -⟩, p1⟩ := p1
      obtain ⟨_, _, rfl, hr, p1⟩ := p1
      have hr : _ = Value.ref 51 := hr
      subst hr
      obtain ⟨_, _, rfl, ⟨y3, rfl, -⟩, p1⟩ := p1
      obtain ⟨_, _, rfl, hr, p1⟩ := p1
      have hr : _ = Value.ref 45 := hr
      subst hr
      have p1 : _ = [] := p1
      subst p1
      obtain ⟨v_, ev, hv⟩ := z2 (0, ([], 8)) (List.mem_of_getElem? (i := 0) rfl)
      cases ev
      have s0 : y0.toInt = 8 := (show y0.toInt = 0 + 8 from hv).trans (by omega)
      obtain ⟨v_, ev, hv⟩ := z2 (1, ([], 0)) (List.mem_of_getElem? (i := 1) rfl)
      cases ev
      have s1 : y1.toInt = 0 := (show y1.toInt = 0 + 0 from hv).trans (by omega)
      obtain ⟨v_, ev, hv⟩ := z2 (3, ([], 0)) (List.mem_of_getElem? (i := 2) rfl)
      cases ev
      have s3 : y3.toInt = 0 := (show y3.toInt = 0 + 0 from hv).trans (by omega)
      exact hE0 lo' h' y0 y1 y3 hi' hm o0 o1 s0 s1 s3
    cases he
  · intro e he r' h' hp hi' hm
    cases he
def kdKa2_L : List (Nat × sT) := [(0, .inr (.inl 49)), (1, .inr (.inl 43))]
def kdKa2_S : List sT := []
def kdKa2_A : sAs := ([], [], [], [])
def kdKa2_P : List sP0 := []
def kdKa2_G : List sP0 := []
def kdKa2_B : List (Nat × Nat × Int) := []
def kdKa2_m : sM := []
def kdKa2_e0 : sXe := (74, [.inl sf32, .inl sf32, .inr (.inl 52), .inl sf32, .inr (.inl 46)], [(0, .inr (.inl 49)), (1, .inr (.inl 43))], sA0, [], ([], [(0, ([], 8)), (1, ([], 0)), (3, ([], 0))], [], []), [], [])
theorem kdKa2_b : syeB swC sT0 kdKa2_m 400 0 112 kdKa2_L kdKa2_S kdKa2_A kdKa2_P kdKa2_G kdKa2_B 62 [kdKa2_e0] [] = true := by decide +kernel
theorem kdKa2 {l : Launch} {Γ : zG} {d : Nat} (hd : 0 ≤ d) {Kp : Option Value → zH → Prop} {lo : zL} {h : zH} (hi : sInv swC h) (l0 : zget lo 0 = some (.ref 49)) (l1 : zget lo 1 = some (.ref 43))
    (hE0 : ∀ (lo' : zL) (h' : zH) (y0 : Int32) (y1 : Int32) (y3 : Int32), sInv swC h' → sMd kdKa2_m h h' → zget lo' 0 = some (.ref 49) → zget lo' 1 = some (.ref 43) → y0.toInt = 8 → y1.toInt = 0 → y3.toInt = 0 → zX l Γ false (d + 1) (zhd 112) (zMQ' Γ false (zhd 112) Kp) 0 0 74 lo' [.int y0, .int y1, .ref 52, .int y3, .ref 46] h') : zX l Γ false (d + 1) (zhd 112) (zMQ' Γ false (zhd 112) Kp) 0 0 62 lo [] h := by
  refine sye_ok (mi := 112) (pc := 62) (fun i => [].getD i 0) kdKa2_b (fun _ _ hc _ => nomatch hc) hd ⟨l0, l1, trivial⟩ rfl ⟨(fun _ hc => nomatch hc), (fun _ hc => nomatch hc), (fun _ hc => nomatch hc), Or.inl rfl⟩ trivial trivial (fun _ hc => nomatch hc) hi ?_ ?_
  · intro e he lo' st' h' hp hi' hm
    rcases List.mem_cons.mp he with rfl | he
    · obtain ⟨p1, p2, -, hz⟩ := hp
      obtain ⟨⟨z1, z2, z3, z4⟩, z5, z6⟩ := hz
      have o0 : zget lo' 0 = some (.ref 49) := locR (p2 (0, .inr (.inl 49)) (List.mem_of_getElem? (i := 0) rfl))
      have o1 : zget lo' 1 = some (.ref 43) := locR (p2 (1, .inr (.inl 43)) (List.mem_of_getElem? (i := 1) rfl))
      obtain ⟨_, _, rfl, ⟨y0, rfl, -⟩, p1⟩ := p1
      obtain ⟨_, _, rfl, ⟨y1, rfl, -⟩, p1⟩ := p1
      obtain ⟨_, _, rfl, hr, p1⟩ := p1
      have hr : _ = Value.ref 52 := hr
      subst hr
      obtain ⟨_, _, rfl, ⟨y3, rfl, -⟩, p1⟩ := p1
      obtain ⟨_, _, rfl, hr, p1⟩ := p1
      have hr : _ = Value.ref 46 := hr
      subst hr
      have p1 : _ = [] := p1
      subst p1
      obtain ⟨v_, ev, hv⟩ := z2 (0, ([], 8)) (List.mem_of_getElem? (i := 0) rfl)
      cases ev
      have s0 : y0.toInt = 8 := (show y0.toInt = 0 + 8 from hv).trans (by omega)
      obtain ⟨v_, ev, hv⟩ := z2 (1, ([], 0)) (List.mem_of_getElem? (i := 1) rfl)
      cases ev
      have s1 : y1.toInt = 0 := (show y1.toInt = 0 + 0 from hv).trans (by omega)
      obtain ⟨v_, ev, hv⟩ := z2 (3, ([], 0)) (List.mem_of_getElem? (i := 2) rfl)
      cases ev
      have s3 : y3.toInt = 0 := (show y3.toInt = 0 + 0 from hv).trans (by omega)
      exact hE0 lo' h' y0 y1 y3 hi' hm o0 o1 s0 s1 s3
    cases he
  · intro e he r' h' hp hi' hm
    cases he
def kdKa3_L : List (Nat × sT) := [(0, .inr (.inl 49)), (1, .inr (.inl 43))]
def kdKa3_S : List sT := []
def kdKa3_A : sAs := ([], [], [], [])
def kdKa3_P : List sP0 := []
def kdKa3_G : List sP0 := []
def kdKa3_B : List (Nat × Nat × Int) := []
def kdKa3_m : sM := []
def kdKa3_e0 : sXe := (89, [.inl sf32, .inl sf32, .inr (.inl 53), .inl sf32, .inr (.inl 47)], [(0, .inr (.inl 49)), (1, .inr (.inl 43))], sA0, [], ([], [(0, ([], 8)), (1, ([], 0)), (3, ([], 0))], [], []), [], [])
theorem kdKa3_b : syeB swC sT0 kdKa3_m 400 0 112 kdKa3_L kdKa3_S kdKa3_A kdKa3_P kdKa3_G kdKa3_B 77 [kdKa3_e0] [] = true := by decide +kernel
theorem kdKa3 {l : Launch} {Γ : zG} {d : Nat} (hd : 0 ≤ d) {Kp : Option Value → zH → Prop} {lo : zL} {h : zH} (hi : sInv swC h) (l0 : zget lo 0 = some (.ref 49)) (l1 : zget lo 1 = some (.ref 43))
    (hE0 : ∀ (lo' : zL) (h' : zH) (y0 : Int32) (y1 : Int32) (y3 : Int32), sInv swC h' → sMd kdKa3_m h h' → zget lo' 0 = some (.ref 49) → zget lo' 1 = some (.ref 43) → y0.toInt = 8 → y1.toInt = 0 → y3.toInt = 0 → zX l Γ false (d + 1) (zhd 112) (zMQ' Γ false (zhd 112) Kp) 0 0 89 lo' [.int y0, .int y1, .ref 53, .int y3, .ref 47] h') : zX l Γ false (d + 1) (zhd 112) (zMQ' Γ false (zhd 112) Kp) 0 0 77 lo [] h := by
  refine sye_ok (mi := 112) (pc := 77) (fun i => [].getD i 0) kdKa3_b (fun _ _ hc _ => nomatch hc) hd ⟨l0, l1, trivial⟩ rfl ⟨(fun _ hc => nomatch hc), (fun _ hc => nomatch hc), (fun _ hc => nomatch hc), Or.inl rfl⟩ trivial trivial (fun _ hc => nomatch hc) hi ?_ ?_
  · intro e he lo' st' h' hp hi' hm
    rcases List.mem_cons.mp he with rfl | he
    · obtain ⟨p1, p2, -, hz⟩ := hp
      obtain ⟨⟨z1, z2, z3, z4⟩, z5, z6⟩ := hz
      have o0 : zget lo' 0 = some (.ref 49) := locR (p2 (0, .inr (.inl 49)) (List.mem_of_getElem? (i := 0) rfl))
      have o1 : zget lo' 1 = some (.ref 43) := locR (p2 (1, .inr (.inl 43)) (List.mem_of_getElem? (i := 1) rfl))
      obtain ⟨_, _, rfl, ⟨y0, rfl, -⟩, p1⟩ := p1
      obtain ⟨_, _, rfl, ⟨y1, rfl, -⟩, p1⟩ := p1
      obtain ⟨_, _, rfl, hr, p1⟩ := p1
      have hr : _ = Value.ref 53 := hr
      subst hr
      obtain ⟨_, _, rfl, ⟨y3, rfl, -⟩, p1⟩ := p1
      obtain ⟨_, _, rfl, hr, p1⟩ := p1
      have hr : _ = Value.ref 47 := hr
      subst hr
      have p1 : _ = [] := p1
      subst p1
      obtain ⟨v_, ev, hv⟩ := z2 (0, ([], 8)) (List.mem_of_getElem? (i := 0) rfl)
      cases ev
      have s0 : y0.toInt = 8 := (show y0.toInt = 0 + 8 from hv).trans (by omega)
      obtain ⟨v_, ev, hv⟩ := z2 (1, ([], 0)) (List.mem_of_getElem? (i := 1) rfl)
      cases ev
      have s1 : y1.toInt = 0 := (show y1.toInt = 0 + 0 from hv).trans (by omega)
      obtain ⟨v_, ev, hv⟩ := z2 (3, ([], 0)) (List.mem_of_getElem? (i := 2) rfl)
      cases ev
      have s3 : y3.toInt = 0 := (show y3.toInt = 0 + 0 from hv).trans (by omega)
      exact hE0 lo' h' y0 y1 y3 hi' hm o0 o1 s0 s1 s3
    cases he
  · intro e he r' h' hp hi' hm
    cases he
def kdKa4_L : List (Nat × sT) := [(0, .inr (.inl 49)), (1, .inr (.inl 43))]
def kdKa4_S : List sT := []
def kdKa4_A : sAs := ([], [], [], [])
def kdKa4_P : List sP0 := []
def kdKa4_G : List sP0 := []
def kdKa4_B : List (Nat × Nat × Int) := []
def kdKa4_m : sM := []
def kdKa4_e0 : sXe := (104, [.inl sf32, .inl sf32, .inr (.inl 54), .inl sf32, .inr (.inl 48)], [(0, .inr (.inl 49)), (1, .inr (.inl 43))], sA0, [], ([], [(0, ([], 10)), (1, ([], 0)), (3, ([], 0))], [], []), [], [])
theorem kdKa4_b : syeB swC sT0 kdKa4_m 400 0 112 kdKa4_L kdKa4_S kdKa4_A kdKa4_P kdKa4_G kdKa4_B 92 [kdKa4_e0] [] = true := by decide +kernel
theorem kdKa4 {l : Launch} {Γ : zG} {d : Nat} (hd : 0 ≤ d) {Kp : Option Value → zH → Prop} {lo : zL} {h : zH} (hi : sInv swC h) (l0 : zget lo 0 = some (.ref 49)) (l1 : zget lo 1 = some (.ref 43))
    (hE0 : ∀ (lo' : zL) (h' : zH) (y0 : Int32) (y1 : Int32) (y3 : Int32), sInv swC h' → sMd kdKa4_m h h' → zget lo' 0 = some (.ref 49) → zget lo' 1 = some (.ref 43) → y0.toInt = 10 → y1.toInt = 0 → y3.toInt = 0 → zX l Γ false (d + 1) (zhd 112) (zMQ' Γ false (zhd 112) Kp) 0 0 104 lo' [.int y0, .int y1, .ref 54, .int y3, .ref 48] h') : zX l Γ false (d + 1) (zhd 112) (zMQ' Γ false (zhd 112) Kp) 0 0 92 lo [] h := by
  refine sye_ok (mi := 112) (pc := 92) (fun i => [].getD i 0) kdKa4_b (fun _ _ hc _ => nomatch hc) hd ⟨l0, l1, trivial⟩ rfl ⟨(fun _ hc => nomatch hc), (fun _ hc => nomatch hc), (fun _ hc => nomatch hc), Or.inl rfl⟩ trivial trivial (fun _ hc => nomatch hc) hi ?_ ?_
  · intro e he lo' st' h' hp hi' hm
    rcases List.mem_cons.mp he with rfl | he
    · obtain ⟨p1, p2, -, hz⟩ := hp
      obtain ⟨⟨z1, z2, z3, z4⟩, z5, z6⟩ := hz
      have o0 : zget lo' 0 = some (.ref 49) := locR (p2 (0, .inr (.inl 49)) (List.mem_of_getElem? (i := 0) rfl))
      have o1 : zget lo' 1 = some (.ref 43) := locR (p2 (1, .inr (.inl 43)) (List.mem_of_getElem? (i := 1) rfl))
      obtain ⟨_, _, rfl, ⟨y0, rfl, -⟩, p1⟩ := p1
      obtain ⟨_, _, rfl, ⟨y1, rfl, -⟩, p1⟩ := p1
      obtain ⟨_, _, rfl, hr, p1⟩ := p1
      have hr : _ = Value.ref 54 := hr
      subst hr
      obtain ⟨_, _, rfl, ⟨y3, rfl, -⟩, p1⟩ := p1
      obtain ⟨_, _, rfl, hr, p1⟩ := p1
      have hr : _ = Value.ref 48 := hr
      subst hr
      have p1 : _ = [] := p1
      subst p1
      obtain ⟨v_, ev, hv⟩ := z2 (0, ([], 10)) (List.mem_of_getElem? (i := 0) rfl)
      cases ev
      have s0 : y0.toInt = 10 := (show y0.toInt = 0 + 10 from hv).trans (by omega)
      obtain ⟨v_, ev, hv⟩ := z2 (1, ([], 0)) (List.mem_of_getElem? (i := 1) rfl)
      cases ev
      have s1 : y1.toInt = 0 := (show y1.toInt = 0 + 0 from hv).trans (by omega)
      obtain ⟨v_, ev, hv⟩ := z2 (3, ([], 0)) (List.mem_of_getElem? (i := 2) rfl)
      cases ev
      have s3 : y3.toInt = 0 := (show y3.toInt = 0 + 0 from hv).trans (by omega)
      exact hE0 lo' h' y0 y1 y3 hi' hm o0 o1 s0 s1 s3
    cases he
  · intro e he r' h' hp hi' hm
    cases he
def kdKa5_L : List (Nat × sT) := [(0, .inr (.inl 49)), (1, .inr (.inl 43))]
def kdKa5_S : List sT := []
def kdKa5_A : sAs := ([], [], [], [])
def kdKa5_P : List sP0 := []
def kdKa5_G : List sP0 := []
def kdKa5_B : List (Nat × Nat × Int) := []
def kdKa5_m : sM := []
def kdKa5_r0 : sXr := (none, sA0, [], ([], [], [], []), [], [])
theorem kdKa5_b : syeB swC sT0 kdKa5_m 400 0 112 kdKa5_L kdKa5_S kdKa5_A kdKa5_P kdKa5_G kdKa5_B 107 [] [kdKa5_r0] = true := by decide +kernel
theorem kdKa5 {l : Launch} {Γ : zG} {d : Nat} (hd : 0 ≤ d) {Kp : Option Value → zH → Prop} {lo : zL} {h : zH} (hi : sInv swC h) (l0 : zget lo 0 = some (.ref 49)) (l1 : zget lo 1 = some (.ref 43))
    (hR0 : ∀ (h' : zH), sInv swC h' → sMd kdKa5_m h h' → Kp none h') : zX l Γ false (d + 1) (zhd 112) (zMQ' Γ false (zhd 112) Kp) 0 0 107 lo [] h := by
  refine sye_ok (mi := 112) (pc := 107) (fun i => [].getD i 0) kdKa5_b (fun _ _ hc _ => nomatch hc) hd ⟨l0, l1, trivial⟩ rfl ⟨(fun _ hc => nomatch hc), (fun _ hc => nomatch hc), (fun _ hc => nomatch hc), Or.inl rfl⟩ trivial trivial (fun _ hc => nomatch hc) hi ?_ ?_
  · intro e he lo' st' h' hp hi' hm
    cases he
  · intro e he r' h' hp hi' hm
    rcases List.mem_cons.mp he with rfl | he
    · obtain ⟨p1, -, hz⟩ := hp
      obtain ⟨⟨z1, z2, z3, z4⟩, z5, z6⟩ := hz
      have p1 : r' = none := p1
      subst p1
      exact hR0 h' hi' hm
    cases he
def kdKb0_L : List sT := [.inr (.inl 43), .inr (.inl 49)]
def kdKb0_A : sAs := ([], [], [], [])
def kdKb0_P : List sP0 := [(49, (none, 0), sf32), (49, (none, 2), sf32), (49, (none, 3), sf32)]
def kdKb0_G : List sP0 := [(49, (none, 1), sf64)]
def kdKb0_B : List (Nat × Nat × Int) := []
def kdKb0_m : sM := [(43, 0, 1), (43, 1, 2), (43, 2, 3), (43, 3, 4)]
def kdKb0_e0 : sXe := (44, [.inl sf32, .inl sf32, .inr (.inl 44), .inl sf32, .inr (.inl 50)], [(0, .inr (.inl 43)), (1, .inr (.inl 49))], sA0, [(2, 43, ([], 1), ([], 0))], ([(43, (none, 3), ([(2, 1)], 0)), (43, (none, 2), ([(1, 1)], 0)), (43, (none, 0), ([(0, 1)], 0))], [(0, ([], 8)), (1, ([], 0)), (3, ([], 0))], [], []), [], [(4, ([(3, 1)], 0))])
theorem kdKb0_b : syfB swC sT0 kdKb0_m 400 0 112 kdKb0_L kdKb0_A kdKb0_P kdKb0_G kdKb0_B [kdKb0_e0] [] = true := by decide +kernel
theorem kdKb0 {l : Launch} {Γ : zG} {d : Nat} (hd : 0 ≤ d) {Kp : Option Value → zH → Prop} {h : zH} {m tx w nu : Int} (hi : sInv swC h) (b_m : (-2147483648) ≤ m ∧ m ≤ 2147483647) (b_tx : (-2147483648) ≤ tx ∧ tx ≤ 2147483647) (b_w : (-2147483648) ≤ w ∧ w ≤ 2147483647) (b_nu : (-9223372036854775808) ≤ nu ∧ nu ≤ 9223372036854775807) (p_m : pI h 49 0 = m) (p_tx : pI h 49 2 = tx) (p_w : pI h 49 3 = w) (p_nu : pL h 49 1 = nu)
    (hE0 : ∀ (lo' : zL) (h' : zH) (u0 : Int) (y0 : Int32) (y1 : Int32) (y3 : Int32), sInv swC h' → sMd kdKb0_m h h' → pL h' 43 1 = u0 → u0 = nu → pI h' 43 3 = w → pI h' 43 2 = tx → pI h' 43 0 = m → zget lo' 0 = some (.ref 43) → zget lo' 1 = some (.ref 49) → y0.toInt = 8 → y1.toInt = 0 → y3.toInt = 0 → zX l Γ false (d + 1) (zhd 112) (zMQ' Γ false (zhd 112) Kp) 0 0 44 lo' [.int y0, .int y1, .ref 44, .int y3, .ref 50] h') : zSem l Γ false (d + 1) (zhd 112) [.ref 43, .ref 49] h Kp := by
  refine syf_ok (mi := 112) (fun i => [m, tx, w, nu].getD i 0) kdKb0_b (fun _ _ hc _ => nomatch hc) hd ⟨_, _, rfl, rfl, ⟨_, _, rfl, rfl, rfl⟩⟩ ⟨rfl, rfl, trivial⟩ ⟨(fun _ hc => nomatch hc), (fun _ hc => nomatch hc), (fun _ hc => nomatch hc), Or.inl rfl⟩ ⟨⟨p_m, by show (-2147483648) ≤ m; omega, by show m ≤ 2147483647; omega⟩, ⟨p_tx, by show (-2147483648) ≤ tx; omega, by show tx ≤ 2147483647; omega⟩, ⟨p_w, by show (-2147483648) ≤ w; omega, by show w ≤ 2147483647; omega⟩, trivial⟩ ⟨⟨p_nu, by show (-9223372036854775808) ≤ nu; omega, by show nu ≤ 9223372036854775807; omega⟩, trivial⟩ (fun _ hc => nomatch hc) hi ?_ ?_
  · intro e he lo' st' h' hp hi' hm
    rcases List.mem_cons.mp he with rfl | he
    · obtain ⟨p1, p2, -, hz⟩ := hp
      obtain ⟨u0, f0, hz⟩ := hz
      obtain ⟨⟨z1, z2, z3, z4⟩, z5, z6⟩ := hz
      have g0 : pL h' 43 1 = u0 := by
        rw [← (show ((0 + 1 : Int)).toNat = 1 from by omega)]
        exact f0
      have j0 : u0 = nu := (show u0 = (1 * nu + 0) + 0 from z6 (4, ([(3, 1)], 0)) (List.mem_of_getElem? (i := 0) rfl)).trans (by omega)
      have k0 : pI h' 43 3 = w := (show pI h' 43 3 = (1 * w + 0) + 0 from z1 (43, (none, 3), ([(2, 1)], 0)) (List.mem_of_getElem? (i := 0) rfl)).trans (by omega)
      have k1 : pI h' 43 2 = tx := (show pI h' 43 2 = (1 * tx + 0) + 0 from z1 (43, (none, 2), ([(1, 1)], 0)) (List.mem_of_getElem? (i := 1) rfl)).trans (by omega)
      have k2 : pI h' 43 0 = m := (show pI h' 43 0 = (1 * m + 0) + 0 from z1 (43, (none, 0), ([(0, 1)], 0)) (List.mem_of_getElem? (i := 2) rfl)).trans (by omega)
      have o0 : zget lo' 0 = some (.ref 43) := locR (p2 (0, .inr (.inl 43)) (List.mem_of_getElem? (i := 0) rfl))
      have o1 : zget lo' 1 = some (.ref 49) := locR (p2 (1, .inr (.inl 49)) (List.mem_of_getElem? (i := 1) rfl))
      obtain ⟨_, _, rfl, ⟨y0, rfl, -⟩, p1⟩ := p1
      obtain ⟨_, _, rfl, ⟨y1, rfl, -⟩, p1⟩ := p1
      obtain ⟨_, _, rfl, hr, p1⟩ := p1
      have hr : _ = Value.ref 44 := hr
      subst hr
      obtain ⟨_, _, rfl, ⟨y3, rfl, -⟩, p1⟩ := p1
      obtain ⟨_, _, rfl, hr, p1⟩ := p1
      have hr : _ = Value.ref 50 := hr
      subst hr
      have p1 : _ = [] := p1
      subst p1
      obtain ⟨v_, ev, hv⟩ := z2 (0, ([], 8)) (List.mem_of_getElem? (i := 0) rfl)
      cases ev
      have s0 : y0.toInt = 8 := (show y0.toInt = 0 + 8 from hv).trans (by omega)
      obtain ⟨v_, ev, hv⟩ := z2 (1, ([], 0)) (List.mem_of_getElem? (i := 1) rfl)
      cases ev
      have s1 : y1.toInt = 0 := (show y1.toInt = 0 + 0 from hv).trans (by omega)
      obtain ⟨v_, ev, hv⟩ := z2 (3, ([], 0)) (List.mem_of_getElem? (i := 2) rfl)
      cases ev
      have s3 : y3.toInt = 0 := (show y3.toInt = 0 + 0 from hv).trans (by omega)
      exact hE0 lo' h' u0 y0 y1 y3 hi' hm g0 j0 k0 k1 k2 o0 o1 s0 s1 s3
    cases he
  · intro e he r' h' hp hi' hm
    cases he
def kdKb1_L : List (Nat × sT) := [(0, .inr (.inl 43)), (1, .inr (.inl 49))]
def kdKb1_S : List sT := []
def kdKb1_A : sAs := ([], [], [], [])
def kdKb1_P : List sP0 := []
def kdKb1_G : List sP0 := []
def kdKb1_B : List (Nat × Nat × Int) := []
def kdKb1_m : sM := []
def kdKb1_e0 : sXe := (59, [.inl sf32, .inl sf32, .inr (.inl 45), .inl sf32, .inr (.inl 51)], [(0, .inr (.inl 43)), (1, .inr (.inl 49))], sA0, [], ([], [(0, ([], 8)), (1, ([], 0)), (3, ([], 0))], [], []), [], [])
theorem kdKb1_b : syeB swC sT0 kdKb1_m 400 0 112 kdKb1_L kdKb1_S kdKb1_A kdKb1_P kdKb1_G kdKb1_B 47 [kdKb1_e0] [] = true := by decide +kernel
theorem kdKb1 {l : Launch} {Γ : zG} {d : Nat} (hd : 0 ≤ d) {Kp : Option Value → zH → Prop} {lo : zL} {h : zH} (hi : sInv swC h) (l0 : zget lo 0 = some (.ref 43)) (l1 : zget lo 1 = some (.ref 49))
    (hE0 : ∀ (lo' : zL) (h' : zH) (y0 : Int32) (y1 : Int32) (y3 : Int32), sInv swC h' → sMd kdKb1_m h h' → zget lo' 0 = some (.ref 43) → zget lo' 1 = some (.ref 49) → y0.toInt = 8 → y1.toInt = 0 → y3.toInt = 0 → zX l Γ false (d + 1) (zhd 112) (zMQ' Γ false (zhd 112) Kp) 0 0 59 lo' [.int y0, .int y1, .ref 45, .int y3, .ref 51] h') : zX l Γ false (d + 1) (zhd 112) (zMQ' Γ false (zhd 112) Kp) 0 0 47 lo [] h := by
  refine sye_ok (mi := 112) (pc := 47) (fun i => [].getD i 0) kdKb1_b (fun _ _ hc _ => nomatch hc) hd ⟨l0, l1, trivial⟩ rfl ⟨(fun _ hc => nomatch hc), (fun _ hc => nomatch hc), (fun _ hc => nomatch hc), Or.inl rfl⟩ trivial trivial (fun _ hc => nomatch hc) hi ?_ ?_
  · intro e he lo' st' h' hp hi' hm
    rcases List.mem_cons.mp he with rfl | he
    · obtain ⟨p1, p2, -, hz⟩ := hp
      obtain ⟨⟨z1, z2, z3, z4⟩, z5, z6⟩ := hz
      have o0 : zget lo' 0 = some (.ref 43) := locR (p2 (0, .inr (.inl 43)) (List.mem_of_getElem? (i := 0) rfl))
      have o1 : zget lo' 1 = some (.ref 49) := locR (p2 (1, .inr (.inl 49)) (List.mem_of_getElem? (i := 1) rfl))
      obtain ⟨_, _, rfl, ⟨y0, rfl, -⟩, p1⟩ := p1
      obtain ⟨_, _, rfl, ⟨y1, rfl, -⟩, p1⟩ := p1
      obtain ⟨_, _, rfl, hr, p1⟩ := p1
      have hr : _ = Value.ref 45 := hr
      subst hr
      obtain ⟨_, _, rfl, ⟨y3, rfl, -⟩, p1⟩ := p1
      obtain ⟨_, _, rfl, hr, p1⟩ := p1
      have hr : _ = Value.ref 51 := hr
      subst hr
      have p1 : _ = [] := p1
      subst p1
      obtain ⟨v_, ev, hv⟩ := z2 (0, ([], 8)) (List.mem_of_getElem? (i := 0) rfl)
      cases ev
      have s0 : y0.toInt = 8 := (show y0.toInt = 0 + 8 from hv).trans (by omega)
      obtain ⟨v_, ev, hv⟩ := z2 (1, ([], 0)) (List.mem_of_getElem? (i := 1) rfl)
      cases ev
      have s1 : y1.toInt = 0 := (show y1.toInt = 0 + 0 from hv).trans (by omega)
      obtain ⟨v_, ev, hv⟩ := z2 (3, ([], 0)) (List.mem_of_getElem? (i := 2) rfl)
      cases ev
      have s3 : y3.toInt = 0 := (show y3.toInt = 0 + 0 from hv).trans (by omega)
      exact hE0 lo' h' y0 y1 y3 hi' hm o0 o1 s0 s1 s3
    cases he
  · intro e he r' h' hp hi' hm
    cases he
def kdKb2_L : List (Nat × sT) := [(0, .inr (.inl 43)), (1, .inr (.inl 49))]
def kdKb2_S : List sT := []
def kdKb2_A : sAs := ([], [], [], [])
def kdKb2_P : List sP0 := []
def kdKb2_G : List sP0 := []
def kdKb2_B : List (Nat × Nat × Int) := []
def kdKb2_m : sM := []
def kdKb2_e0 : sXe := (74, [.inl sf32, .inl sf32, .inr (.inl 46), .inl sf32, .inr (.inl 52)], [(0, .inr (.inl 43)), (1, .inr (.inl 49))], sA0, [], ([], [(0, ([], 8)), (1, ([], 0)), (3, ([], 0))], [], []), [], [])
theorem kdKb2_b : syeB swC sT0 kdKb2_m 400 0 112 kdKb2_L kdKb2_S kdKb2_A kdKb2_P kdKb2_G kdKb2_B 62 [kdKb2_e0] [] = true := by decide +kernel
theorem kdKb2 {l : Launch} {Γ : zG} {d : Nat} (hd : 0 ≤ d) {Kp : Option Value → zH → Prop} {lo : zL} {h : zH} (hi : sInv swC h) (l0 : zget lo 0 = some (.ref 43)) (l1 : zget lo 1 = some (.ref 49))
    (hE0 : ∀ (lo' : zL) (h' : zH) (y0 : Int32) (y1 : Int32) (y3 : Int32), sInv swC h' → sMd kdKb2_m h h' → zget lo' 0 = some (.ref 43) → zget lo' 1 = some (.ref 49) → y0.toInt = 8 → y1.toInt = 0 → y3.toInt = 0 → zX l Γ false (d + 1) (zhd 112) (zMQ' Γ false (zhd 112) Kp) 0 0 74 lo' [.int y0, .int y1, .ref 46, .int y3, .ref 52] h') : zX l Γ false (d + 1) (zhd 112) (zMQ' Γ false (zhd 112) Kp) 0 0 62 lo [] h := by
  refine sye_ok (mi := 112) (pc := 62) (fun i => [].getD i 0) kdKb2_b (fun _ _ hc _ => nomatch hc) hd ⟨l0, l1, trivial⟩ rfl ⟨(fun _ hc => nomatch hc), (fun _ hc => nomatch hc), (fun _ hc => nomatch hc), Or.inl rfl⟩ trivial trivial (fun _ hc => nomatch hc) hi ?_ ?_
  · intro e he lo' st' h' hp hi' hm
    rcases List.mem_cons.mp he with rfl | he
    · obtain ⟨p1, p2, -, hz⟩ := hp
      obtain ⟨⟨z1, z2, z3, z4⟩, z5, z6⟩ := hz
      have o0 : zget lo' 0 = some (.ref 43) := locR (p2 (0, .inr (.inl 43)) (List.mem_of_getElem? (i := 0) rfl))
      have o1 : zget lo' 1 = some (.ref 49) := locR (p2 (1, .inr (.inl 49)) (List.mem_of_getElem? (i := 1) rfl))
      obtain ⟨_, _, rfl, ⟨y0, rfl, -⟩, p1⟩ := p1
      obtain ⟨_, _, rfl, ⟨y1, rfl, -⟩, p1⟩ := p1
      obtain ⟨_, _, rfl, hr, p1⟩ := p1
      have hr : _ = Value.ref 46 := hr
      subst hr
      obtain ⟨_, _, rfl, ⟨y3, rfl, -⟩, p1⟩ := p1
      obtain ⟨_, _, rfl, hr, p1⟩ := p1
      have hr : _ = Value.ref 52 := hr
      subst hr
      have p1 : _ = [] := p1
      subst p1
      obtain ⟨v_, ev, hv⟩ := z2 (0, ([], 8)) (List.mem_of_getElem? (i := 0) rfl)
      cases ev
      have s0 : y0.toInt = 8 := (show y0.toInt = 0 + 8 from hv).trans (by omega)
      obtain ⟨v_, ev, hv⟩ := z2 (1, ([], 0)) (List.mem_of_getElem? (i := 1) rfl)
      cases ev
      have s1 : y1.toInt = 0 := (show y1.toInt = 0 + 0 from hv).trans (by omega)
      obtain ⟨v_, ev, hv⟩ := z2 (3, ([], 0)) (List.mem_of_getElem? (i := 2) rfl)
      cases ev
      have s3 : y3.toInt = 0 := (show y3.toInt = 0 + 0 from hv).trans (by omega)
      exact hE0 lo' h' y0 y1 y3 hi' hm o0 o1 s0 s1 s3
    cases he
  · intro e he r' h' hp hi' hm
    cases he
def kdKb3_L : List (Nat × sT) := [(0, .inr (.inl 43)), (1, .inr (.inl 49))]
def kdKb3_S : List sT := []
def kdKb3_A : sAs := ([], [], [], [])
def kdKb3_P : List sP0 := []
def kdKb3_G : List sP0 := []
def kdKb3_B : List (Nat × Nat × Int) := []
def kdKb3_m : sM := []
def kdKb3_e0 : sXe := (89, [.inl sf32, .inl sf32, .inr (.inl 47), .inl sf32, .inr (.inl 53)], [(0, .inr (.inl 43)), (1, .inr (.inl 49))], sA0, [], ([], [(0, ([], 8)), (1, ([], 0)), (3, ([], 0))], [], []), [], [])
theorem kdKb3_b : syeB swC sT0 kdKb3_m 400 0 112 kdKb3_L kdKb3_S kdKb3_A kdKb3_P kdKb3_G kdKb3_B 77 [kdKb3_e0] [] = true := by decide +kernel
theorem kdKb3 {l : Launch} {Γ : zG} {d : Nat} (hd : 0 ≤ d) {Kp : Option Value → zH → Prop} {lo : zL} {h : zH} (hi : sInv swC h) (l0 : zget lo 0 = some (.ref 43)) (l1 : zget lo 1 = some (.ref 49))
    (hE0 : ∀ (lo' : zL) (h' : zH) (y0 : Int32) (y1 : Int32) (y3 : Int32), sInv swC h' → sMd kdKb3_m h h' → zget lo' 0 = some (.ref 43) → zget lo' 1 = some (.ref 49) → y0.toInt = 8 → y1.toInt = 0 → y3.toInt = 0 → zX l Γ false (d + 1) (zhd 112) (zMQ' Γ false (zhd 112) Kp) 0 0 89 lo' [.int y0, .int y1, .ref 47, .int y3, .ref 53] h') : zX l Γ false (d + 1) (zhd 112) (zMQ' Γ false (zhd 112) Kp) 0 0 77 lo [] h := by
  refine sye_ok (mi := 112) (pc := 77) (fun i => [].getD i 0) kdKb3_b (fun _ _ hc _ => nomatch hc) hd ⟨l0, l1, trivial⟩ rfl ⟨(fun _ hc => nomatch hc), (fun _ hc => nomatch hc), (fun _ hc => nomatch hc), Or.inl rfl⟩ trivial trivial (fun _ hc => nomatch hc) hi ?_ ?_
  · intro e he lo' st' h' hp hi' hm
    rcases List.mem_cons.mp he with rfl | he
    · obtain ⟨p1, p2, -, hz⟩ := hp
      obtain ⟨⟨z1, z2, z3, z4⟩, z5, z6⟩ := hz
      have o0 : zget lo' 0 = some (.ref 43) := locR (p2 (0, .inr (.inl 43)) (List.mem_of_getElem? (i := 0) rfl))
      have o1 : zget lo' 1 = some (.ref 49) := locR (p2 (1, .inr (.inl 49)) (List.mem_of_getElem? (i := 1) rfl))
      obtain ⟨_, _, rfl, ⟨y0, rfl, -⟩, p1⟩ := p1
      obtain ⟨_, _, rfl, ⟨y1, rfl, -⟩, p1⟩ := p1
      obtain ⟨_, _, rfl, hr, p1⟩ := p1
      have hr : _ = Value.ref 47 := hr
      subst hr
      obtain ⟨_, _, rfl, ⟨y3, rfl, -⟩, p1⟩ := p1
      obtain ⟨_, _, rfl, hr, p1⟩ := p1
      have hr : _ = Value.ref 53 := hr
      subst hr
      have p1 : _ = [] := p1
      subst p1
      obtain ⟨v_, ev, hv⟩ := z2 (0, ([], 8)) (List.mem_of_getElem? (i := 0) rfl)
      cases ev
      have s0 : y0.toInt = 8 := (show y0.toInt = 0 + 8 from hv).trans (by omega)
      obtain ⟨v_, ev, hv⟩ := z2 (1, ([], 0)) (List.mem_of_getElem? (i := 1) rfl)
      cases ev
      have s1 : y1.toInt = 0 := (show y1.toInt = 0 + 0 from hv).trans (by omega)
      obtain ⟨v_, ev, hv⟩ := z2 (3, ([], 0)) (List.mem_of_getElem? (i := 2) rfl)
      cases ev
      have s3 : y3.toInt = 0 := (show y3.toInt = 0 + 0 from hv).trans (by omega)
      exact hE0 lo' h' y0 y1 y3 hi' hm o0 o1 s0 s1 s3
    cases he
  · intro e he r' h' hp hi' hm
    cases he
def kdKb4_L : List (Nat × sT) := [(0, .inr (.inl 43)), (1, .inr (.inl 49))]
def kdKb4_S : List sT := []
def kdKb4_A : sAs := ([], [], [], [])
def kdKb4_P : List sP0 := []
def kdKb4_G : List sP0 := []
def kdKb4_B : List (Nat × Nat × Int) := []
def kdKb4_m : sM := []
def kdKb4_e0 : sXe := (104, [.inl sf32, .inl sf32, .inr (.inl 48), .inl sf32, .inr (.inl 54)], [(0, .inr (.inl 43)), (1, .inr (.inl 49))], sA0, [], ([], [(0, ([], 10)), (1, ([], 0)), (3, ([], 0))], [], []), [], [])
theorem kdKb4_b : syeB swC sT0 kdKb4_m 400 0 112 kdKb4_L kdKb4_S kdKb4_A kdKb4_P kdKb4_G kdKb4_B 92 [kdKb4_e0] [] = true := by decide +kernel
theorem kdKb4 {l : Launch} {Γ : zG} {d : Nat} (hd : 0 ≤ d) {Kp : Option Value → zH → Prop} {lo : zL} {h : zH} (hi : sInv swC h) (l0 : zget lo 0 = some (.ref 43)) (l1 : zget lo 1 = some (.ref 49))
    (hE0 : ∀ (lo' : zL) (h' : zH) (y0 : Int32) (y1 : Int32) (y3 : Int32), sInv swC h' → sMd kdKb4_m h h' → zget lo' 0 = some (.ref 43) → zget lo' 1 = some (.ref 49) → y0.toInt = 10 → y1.toInt = 0 → y3.toInt = 0 → zX l Γ false (d + 1) (zhd 112) (zMQ' Γ false (zhd 112) Kp) 0 0 104 lo' [.int y0, .int y1, .ref 48, .int y3, .ref 54] h') : zX l Γ false (d + 1) (zhd 112) (zMQ' Γ false (zhd 112) Kp) 0 0 92 lo [] h := by
  refine sye_ok (mi := 112) (pc := 92) (fun i => [].getD i 0) kdKb4_b (fun _ _ hc _ => nomatch hc) hd ⟨l0, l1, trivial⟩ rfl ⟨(fun _ hc => nomatch hc), (fun _ hc => nomatch hc), (fun _ hc => nomatch hc), Or.inl rfl⟩ trivial trivial (fun _ hc => nomatch hc) hi ?_ ?_
  · intro e he lo' st' h' hp hi' hm
    rcases List.mem_cons.mp he with rfl | he
    · obtain ⟨p1, p2, -, hz⟩ := hp
      obtain ⟨⟨z1, z2, z3, z4⟩, z5, z6⟩ := hz
      have o0 : zget lo' 0 = some (.ref 43) := locR (p2 (0, .inr (.inl 43)) (List.mem_of_getElem? (i := 0) rfl))
      have o1 : zget lo' 1 = some (.ref 49) := locR (p2 (1, .inr (.inl 49)) (List.mem_of_getElem? (i := 1) rfl))
      obtain ⟨_, _, rfl, ⟨y0, rfl, -⟩, p1⟩ := p1
      obtain ⟨_, _, rfl, ⟨y1, rfl, -⟩, p1⟩ := p1
      obtain ⟨_, _, rfl, hr, p1⟩ := p1
      have hr : _ = Value.ref 48 := hr
      subst hr
      obtain ⟨_, _, rfl, ⟨y3, rfl, -⟩, p1⟩ := p1
      obtain ⟨_, _, rfl, hr, p1⟩ := p1
      have hr : _ = Value.ref 54 := hr
      subst hr
      have p1 : _ = [] := p1
      subst p1
      obtain ⟨v_, ev, hv⟩ := z2 (0, ([], 10)) (List.mem_of_getElem? (i := 0) rfl)
      cases ev
      have s0 : y0.toInt = 10 := (show y0.toInt = 0 + 10 from hv).trans (by omega)
      obtain ⟨v_, ev, hv⟩ := z2 (1, ([], 0)) (List.mem_of_getElem? (i := 1) rfl)
      cases ev
      have s1 : y1.toInt = 0 := (show y1.toInt = 0 + 0 from hv).trans (by omega)
      obtain ⟨v_, ev, hv⟩ := z2 (3, ([], 0)) (List.mem_of_getElem? (i := 2) rfl)
      cases ev
      have s3 : y3.toInt = 0 := (show y3.toInt = 0 + 0 from hv).trans (by omega)
      exact hE0 lo' h' y0 y1 y3 hi' hm o0 o1 s0 s1 s3
    cases he
  · intro e he r' h' hp hi' hm
    cases he
def kdKb5_L : List (Nat × sT) := [(0, .inr (.inl 43)), (1, .inr (.inl 49))]
def kdKb5_S : List sT := []
def kdKb5_A : sAs := ([], [], [], [])
def kdKb5_P : List sP0 := []
def kdKb5_G : List sP0 := []
def kdKb5_B : List (Nat × Nat × Int) := []
def kdKb5_m : sM := []
def kdKb5_r0 : sXr := (none, sA0, [], ([], [], [], []), [], [])
theorem kdKb5_b : syeB swC sT0 kdKb5_m 400 0 112 kdKb5_L kdKb5_S kdKb5_A kdKb5_P kdKb5_G kdKb5_B 107 [] [kdKb5_r0] = true := by decide +kernel
theorem kdKb5 {l : Launch} {Γ : zG} {d : Nat} (hd : 0 ≤ d) {Kp : Option Value → zH → Prop} {lo : zL} {h : zH} (hi : sInv swC h) (l0 : zget lo 0 = some (.ref 43)) (l1 : zget lo 1 = some (.ref 49))
    (hR0 : ∀ (h' : zH), sInv swC h' → sMd kdKb5_m h h' → Kp none h') : zX l Γ false (d + 1) (zhd 112) (zMQ' Γ false (zhd 112) Kp) 0 0 107 lo [] h := by
  refine sye_ok (mi := 112) (pc := 107) (fun i => [].getD i 0) kdKb5_b (fun _ _ hc _ => nomatch hc) hd ⟨l0, l1, trivial⟩ rfl ⟨(fun _ hc => nomatch hc), (fun _ hc => nomatch hc), (fun _ hc => nomatch hc), Or.inl rfl⟩ trivial trivial (fun _ hc => nomatch hc) hi ?_ ?_
  · intro e he lo' st' h' hp hi' hm
    cases he
  · intro e he r' h' hp hi' hm
    rcases List.mem_cons.mp he with rfl | he
    · obtain ⟨p1, -, hz⟩ := hp
      obtain ⟨⟨z1, z2, z3, z4⟩, z5, z6⟩ := hz
      have p1 : r' = none := p1
      subst p1
      exact hR0 h' hi' hm
    cases he
def kdKc0_L : List sT := [.inr (.inl 55), .inr (.inl 43)]
def kdKc0_A : sAs := ([], [], [], [])
def kdKc0_P : List sP0 := [(43, (none, 0), sf32), (43, (none, 2), sf32), (43, (none, 3), sf32)]
def kdKc0_G : List sP0 := [(43, (none, 1), sf64)]
def kdKc0_B : List (Nat × Nat × Int) := []
def kdKc0_m : sM := [(55, 0, 1), (55, 1, 2), (55, 2, 3), (55, 3, 4)]
def kdKc0_e0 : sXe := (44, [.inl sf32, .inl sf32, .inr (.inl 56), .inl sf32, .inr (.inl 44)], [(0, .inr (.inl 55)), (1, .inr (.inl 43))], sA0, [(2, 55, ([], 1), ([], 0))], ([(55, (none, 3), ([(2, 1)], 0)), (55, (none, 2), ([(1, 1)], 0)), (55, (none, 0), ([(0, 1)], 0))], [(0, ([], 8)), (1, ([], 0)), (3, ([], 0))], [], []), [], [(4, ([(3, 1)], 0))])
theorem kdKc0_b : syfB swC sT0 kdKc0_m 400 0 112 kdKc0_L kdKc0_A kdKc0_P kdKc0_G kdKc0_B [kdKc0_e0] [] = true := by decide +kernel
theorem kdKc0 {l : Launch} {Γ : zG} {d : Nat} (hd : 0 ≤ d) {Kp : Option Value → zH → Prop} {h : zH} {m tx w nu : Int} (hi : sInv swC h) (b_m : (-2147483648) ≤ m ∧ m ≤ 2147483647) (b_tx : (-2147483648) ≤ tx ∧ tx ≤ 2147483647) (b_w : (-2147483648) ≤ w ∧ w ≤ 2147483647) (b_nu : (-9223372036854775808) ≤ nu ∧ nu ≤ 9223372036854775807) (p_m : pI h 43 0 = m) (p_tx : pI h 43 2 = tx) (p_w : pI h 43 3 = w) (p_nu : pL h 43 1 = nu)
    (hE0 : ∀ (lo' : zL) (h' : zH) (u0 : Int) (y0 : Int32) (y1 : Int32) (y3 : Int32), sInv swC h' → sMd kdKc0_m h h' → pL h' 55 1 = u0 → u0 = nu → pI h' 55 3 = w → pI h' 55 2 = tx → pI h' 55 0 = m → zget lo' 0 = some (.ref 55) → zget lo' 1 = some (.ref 43) → y0.toInt = 8 → y1.toInt = 0 → y3.toInt = 0 → zX l Γ false (d + 1) (zhd 112) (zMQ' Γ false (zhd 112) Kp) 0 0 44 lo' [.int y0, .int y1, .ref 56, .int y3, .ref 44] h') : zSem l Γ false (d + 1) (zhd 112) [.ref 55, .ref 43] h Kp := by
  refine syf_ok (mi := 112) (fun i => [m, tx, w, nu].getD i 0) kdKc0_b (fun _ _ hc _ => nomatch hc) hd ⟨_, _, rfl, rfl, ⟨_, _, rfl, rfl, rfl⟩⟩ ⟨rfl, rfl, trivial⟩ ⟨(fun _ hc => nomatch hc), (fun _ hc => nomatch hc), (fun _ hc => nomatch hc), Or.inl rfl⟩ ⟨⟨p_m, by show (-2147483648) ≤ m; omega, by show m ≤ 2147483647; omega⟩, ⟨p_tx, by show (-2147483648) ≤ tx; omega, by show tx ≤ 2147483647; omega⟩, ⟨p_w, by show (-2147483648) ≤ w; omega, by show w ≤ 2147483647; omega⟩, trivial⟩ ⟨⟨p_nu, by show (-9223372036854775808) ≤ nu; omega, by show nu ≤ 9223372036854775807; omega⟩, trivial⟩ (fun _ hc => nomatch hc) hi ?_ ?_
  · intro e he lo' st' h' hp hi' hm
    rcases List.mem_cons.mp he with rfl | he
    · obtain ⟨p1, p2, -, hz⟩ := hp
      obtain ⟨u0, f0, hz⟩ := hz
      obtain ⟨⟨z1, z2, z3, z4⟩, z5, z6⟩ := hz
      have g0 : pL h' 55 1 = u0 := by
        rw [← (show ((0 + 1 : Int)).toNat = 1 from by omega)]
        exact f0
      have j0 : u0 = nu := (show u0 = (1 * nu + 0) + 0 from z6 (4, ([(3, 1)], 0)) (List.mem_of_getElem? (i := 0) rfl)).trans (by omega)
      have k0 : pI h' 55 3 = w := (show pI h' 55 3 = (1 * w + 0) + 0 from z1 (55, (none, 3), ([(2, 1)], 0)) (List.mem_of_getElem? (i := 0) rfl)).trans (by omega)
      have k1 : pI h' 55 2 = tx := (show pI h' 55 2 = (1 * tx + 0) + 0 from z1 (55, (none, 2), ([(1, 1)], 0)) (List.mem_of_getElem? (i := 1) rfl)).trans (by omega)
      have k2 : pI h' 55 0 = m := (show pI h' 55 0 = (1 * m + 0) + 0 from z1 (55, (none, 0), ([(0, 1)], 0)) (List.mem_of_getElem? (i := 2) rfl)).trans (by omega)
      have o0 : zget lo' 0 = some (.ref 55) := locR (p2 (0, .inr (.inl 55)) (List.mem_of_getElem? (i := 0) rfl))
      have o1 : zget lo' 1 = some (.ref 43) := locR (p2 (1, .inr (.inl 43)) (List.mem_of_getElem? (i := 1) rfl))
      obtain ⟨_, _, rfl, ⟨y0, rfl, -⟩, p1⟩ := p1
      obtain ⟨_, _, rfl, ⟨y1, rfl, -⟩, p1⟩ := p1
      obtain ⟨_, _, rfl, hr, p1⟩ := p1
      have hr : _ = Value.ref 56 := hr
      subst hr
      obtain ⟨_, _, rfl, ⟨y3, rfl, -⟩, p1⟩ := p1
      obtain ⟨_, _, rfl, hr, p1⟩ := p1
      have hr : _ = Value.ref 44 := hr
      subst hr
      have p1 : _ = [] := p1
      subst p1
      obtain ⟨v_, ev, hv⟩ := z2 (0, ([], 8)) (List.mem_of_getElem? (i := 0) rfl)
      cases ev
      have s0 : y0.toInt = 8 := (show y0.toInt = 0 + 8 from hv).trans (by omega)
      obtain ⟨v_, ev, hv⟩ := z2 (1, ([], 0)) (List.mem_of_getElem? (i := 1) rfl)
      cases ev
      have s1 : y1.toInt = 0 := (show y1.toInt = 0 + 0 from hv).trans (by omega)
      obtain ⟨v_, ev, hv⟩ := z2 (3, ([], 0)) (List.mem_of_getElem? (i := 2) rfl)
      cases ev
      have s3 : y3.toInt = 0 := (show y3.toInt = 0 + 0 from hv).trans (by omega)
      exact hE0 lo' h' u0 y0 y1 y3 hi' hm g0 j0 k0 k1 k2 o0 o1 s0 s1 s3
    cases he
  · intro e he r' h' hp hi' hm
    cases he
def kdKc1_L : List (Nat × sT) := [(0, .inr (.inl 55)), (1, .inr (.inl 43))]
def kdKc1_S : List sT := []
def kdKc1_A : sAs := ([], [], [], [])
def kdKc1_P : List sP0 := []
def kdKc1_G : List sP0 := []
def kdKc1_B : List (Nat × Nat × Int) := []
def kdKc1_m : sM := []
def kdKc1_e0 : sXe := (59, [.inl sf32, .inl sf32, .inr (.inl 57), .inl sf32, .inr (.inl 45)], [(0, .inr (.inl 55)), (1, .inr (.inl 43))], sA0, [], ([], [(0, ([], 8)), (1, ([], 0)), (3, ([], 0))], [], []), [], [])
theorem kdKc1_b : syeB swC sT0 kdKc1_m 400 0 112 kdKc1_L kdKc1_S kdKc1_A kdKc1_P kdKc1_G kdKc1_B 47 [kdKc1_e0] [] = true := by decide +kernel
theorem kdKc1 {l : Launch} {Γ : zG} {d : Nat} (hd : 0 ≤ d) {Kp : Option Value → zH → Prop} {lo : zL} {h : zH} (hi : sInv swC h) (l0 : zget lo 0 = some (.ref 55)) (l1 : zget lo 1 = some (.ref 43))
    (hE0 : ∀ (lo' : zL) (h' : zH) (y0 : Int32) (y1 : Int32) (y3 : Int32), sInv swC h' → sMd kdKc1_m h h' → zget lo' 0 = some (.ref 55) → zget lo' 1 = some (.ref 43) → y0.toInt = 8 → y1.toInt = 0 → y3.toInt = 0 → zX l Γ false (d + 1) (zhd 112) (zMQ' Γ false (zhd 112) Kp) 0 0 59 lo' [.int y0, .int y1, .ref 57, .int y3, .ref 45] h') : zX l Γ false (d + 1) (zhd 112) (zMQ' Γ false (zhd 112) Kp) 0 0 47 lo [] h := by
  refine sye_ok (mi := 112) (pc := 47) (fun i => [].getD i 0) kdKc1_b (fun _ _ hc _ => nomatch hc) hd ⟨l0, l1, trivial⟩ rfl ⟨(fun _ hc => nomatch hc), (fun _ hc => nomatch hc), (fun _ hc => nomatch hc), Or.inl rfl⟩ trivial trivial (fun _ hc => nomatch hc) hi ?_ ?_
  · intro e he lo' st' h' hp hi' hm
    rcases List.mem_cons.mp he with rfl | he
    · obtain ⟨p1, p2, -, hz⟩ := hp
      obtain ⟨⟨z1, z2, z3, z4⟩, z5, z6⟩ := hz
      have o0 : zget lo' 0 = some (.ref 55) := locR (p2 (0, .inr (.inl 55)) (List.mem_of_getElem? (i := 0) rfl))
      have o1 : zget lo' 1 = some (.ref 43) := locR (p2 (1, .inr (.inl 43)) (List.mem_of_getElem? (i := 1) rfl))
      obtain ⟨_, _, rfl, ⟨y0, rfl, -⟩, p1⟩ := p1
      obtain ⟨_, _, rfl, ⟨y1, rfl, -⟩, p1⟩ := p1
      obtain ⟨_, _, rfl, hr, p1⟩ := p1
      have hr : _ = Value.ref 57 := hr
      subst hr
      obtain ⟨_, _, rfl, ⟨y3, rfl, -⟩, p1⟩ := p1
      obtain ⟨_, _, rfl, hr, p1⟩ := p1
      have hr : _ = Value.ref 45 := hr
      subst hr
      have p1 : _ = [] := p1
      subst p1
      obtain ⟨v_, ev, hv⟩ := z2 (0, ([], 8)) (List.mem_of_getElem? (i := 0) rfl)
      cases ev
      have s0 : y0.toInt = 8 := (show y0.toInt = 0 + 8 from hv).trans (by omega)
      obtain ⟨v_, ev, hv⟩ := z2 (1, ([], 0)) (List.mem_of_getElem? (i := 1) rfl)
      cases ev
      have s1 : y1.toInt = 0 := (show y1.toInt = 0 + 0 from hv).trans (by omega)
      obtain ⟨v_, ev, hv⟩ := z2 (3, ([], 0)) (List.mem_of_getElem? (i := 2) rfl)
      cases ev
      have s3 : y3.toInt = 0 := (show y3.toInt = 0 + 0 from hv).trans (by omega)
      exact hE0 lo' h' y0 y1 y3 hi' hm o0 o1 s0 s1 s3
    cases he
  · intro e he r' h' hp hi' hm
    cases he
def kdKc2_L : List (Nat × sT) := [(0, .inr (.inl 55)), (1, .inr (.inl 43))]
def kdKc2_S : List sT := []
def kdKc2_A : sAs := ([], [], [], [])
def kdKc2_P : List sP0 := []
def kdKc2_G : List sP0 := []
def kdKc2_B : List (Nat × Nat × Int) := []
def kdKc2_m : sM := []
def kdKc2_e0 : sXe := (74, [.inl sf32, .inl sf32, .inr (.inl 58), .inl sf32, .inr (.inl 46)], [(0, .inr (.inl 55)), (1, .inr (.inl 43))], sA0, [], ([], [(0, ([], 8)), (1, ([], 0)), (3, ([], 0))], [], []), [], [])
theorem kdKc2_b : syeB swC sT0 kdKc2_m 400 0 112 kdKc2_L kdKc2_S kdKc2_A kdKc2_P kdKc2_G kdKc2_B 62 [kdKc2_e0] [] = true := by decide +kernel
theorem kdKc2 {l : Launch} {Γ : zG} {d : Nat} (hd : 0 ≤ d) {Kp : Option Value → zH → Prop} {lo : zL} {h : zH} (hi : sInv swC h) (l0 : zget lo 0 = some (.ref 55)) (l1 : zget lo 1 = some (.ref 43))
    (hE0 : ∀ (lo' : zL) (h' : zH) (y0 : Int32) (y1 : Int32) (y3 : Int32), sInv swC h' → sMd kdKc2_m h h' → zget lo' 0 = some (.ref 55) → zget lo' 1 = some (.ref 43) → y0.toInt = 8 → y1.toInt = 0 → y3.toInt = 0 → zX l Γ false (d + 1) (zhd 112) (zMQ' Γ false (zhd 112) Kp) 0 0 74 lo' [.int y0, .int y1, .ref 58, .int y3, .ref 46] h') : zX l Γ false (d + 1) (zhd 112) (zMQ' Γ false (zhd 112) Kp) 0 0 62 lo [] h := by
  refine sye_ok (mi := 112) (pc := 62) (fun i => [].getD i 0) kdKc2_b (fun _ _ hc _ => nomatch hc) hd ⟨l0, l1, trivial⟩ rfl ⟨(fun _ hc => nomatch hc), (fun _ hc => nomatch hc), (fun _ hc => nomatch hc), Or.inl rfl⟩ trivial trivial (fun _ hc => nomatch hc) hi ?_ ?_
  · intro e he lo' st' h' hp hi' hm
    rcases List.mem_cons.mp he with rfl | he
    · obtain ⟨p1, p2, -, hz⟩ := hp
      obtain ⟨⟨z1, z2, z3, z4⟩, z5, z6⟩ := hz
      have o0 : zget lo' 0 = some (.ref 55) := locR (p2 (0, .inr (.inl 55)) (List.mem_of_getElem? (i := 0) rfl))
      have o1 : zget lo' 1 = some (.ref 43) := locR (p2 (1, .inr (.inl 43)) (List.mem_of_getElem? (i := 1) rfl))
      obtain ⟨_, _, rfl, ⟨y0, rfl, -⟩, p1⟩ := p1
      obtain ⟨_, _, rfl, ⟨y1, rfl, -⟩, p1⟩ := p1
      obtain ⟨_, _, rfl, hr, p1⟩ := p1
      have hr : _ = Value.ref 58 := hr
      subst hr
      obtain ⟨_, _, rfl, ⟨y3, rfl, -⟩, p1⟩ := p1
      obtain ⟨_, _, rfl, hr, p1⟩ := p1
      have hr : _ = Value.ref 46 := hr
      subst hr
      have p1 : _ = [] := p1
      subst p1
      obtain ⟨v_, ev, hv⟩ := z2 (0, ([], 8)) (List.mem_of_getElem? (i := 0) rfl)
      cases ev
      have s0 : y0.toInt = 8 := (show y0.toInt = 0 + 8 from hv).trans (by omega)
      obtain ⟨v_, ev, hv⟩ := z2 (1, ([], 0)) (List.mem_of_getElem? (i := 1) rfl)
      cases ev
      have s1 : y1.toInt = 0 := (show y1.toInt = 0 + 0 from hv).trans (by omega)
      obtain ⟨v_, ev, hv⟩ := z2 (3, ([], 0)) (List.mem_of_getElem? (i := 2) rfl)
      cases ev
      have s3 : y3.toInt = 0 := (show y3.toInt = 0 + 0 from hv).trans (by omega)
      exact hE0 lo' h' y0 y1 y3 hi' hm o0 o1 s0 s1 s3
    cases he
  · intro e he r' h' hp hi' hm
    cases he
def kdKc3_L : List (Nat × sT) := [(0, .inr (.inl 55)), (1, .inr (.inl 43))]
def kdKc3_S : List sT := []
def kdKc3_A : sAs := ([], [], [], [])
def kdKc3_P : List sP0 := []
def kdKc3_G : List sP0 := []
def kdKc3_B : List (Nat × Nat × Int) := []
def kdKc3_m : sM := []
def kdKc3_e0 : sXe := (89, [.inl sf32, .inl sf32, .inr (.inl 59), .inl sf32, .inr (.inl 47)], [(0, .inr (.inl 55)), (1, .inr (.inl 43))], sA0, [], ([], [(0, ([], 8)), (1, ([], 0)), (3, ([], 0))], [], []), [], [])
theorem kdKc3_b : syeB swC sT0 kdKc3_m 400 0 112 kdKc3_L kdKc3_S kdKc3_A kdKc3_P kdKc3_G kdKc3_B 77 [kdKc3_e0] [] = true := by decide +kernel
theorem kdKc3 {l : Launch} {Γ : zG} {d : Nat} (hd : 0 ≤ d) {Kp : Option Value → zH → Prop} {lo : zL} {h : zH} (hi : sInv swC h) (l0 : zget lo 0 = some (.ref 55)) (l1 : zget lo 1 = some (.ref 43))
    (hE0 : ∀ (lo' : zL) (h' : zH) (y0 : Int32) (y1 : Int32) (y3 : Int32), sInv swC h' → sMd kdKc3_m h h' → zget lo' 0 = some (.ref 55) → zget lo' 1 = some (.ref 43) → y0.toInt = 8 → y1.toInt = 0 → y3.toInt = 0 → zX l Γ false (d + 1) (zhd 112) (zMQ' Γ false (zhd 112) Kp) 0 0 89 lo' [.int y0, .int y1, .ref 59, .int y3, .ref 47] h') : zX l Γ false (d + 1) (zhd 112) (zMQ' Γ false (zhd 112) Kp) 0 0 77 lo [] h := by
  refine sye_ok (mi := 112) (pc := 77) (fun i => [].getD i 0) kdKc3_b (fun _ _ hc _ => nomatch hc) hd ⟨l0, l1, trivial⟩ rfl ⟨(fun _ hc => nomatch hc), (fun _ hc => nomatch hc), (fun _ hc => nomatch hc), Or.inl rfl⟩ trivial trivial (fun _ hc => nomatch hc) hi ?_ ?_
  · intro e he lo' st' h' hp hi' hm
    rcases List.mem_cons.mp he with rfl | he
    · obtain ⟨p1, p2, -, hz⟩ := hp
      obtain ⟨⟨z1, z2, z3, z4⟩, z5, z6⟩ := hz
      have o0 : zget lo' 0 = some (.ref 55) := locR (p2 (0, .inr (.inl 55)) (List.mem_of_getElem? (i := 0) rfl))
      have o1 : zget lo' 1 = some (.ref 43) := locR (p2 (1, .inr (.inl 43)) (List.mem_of_getElem? (i := 1) rfl))
      obtain ⟨_, _, rfl, ⟨y0, rfl, -⟩, p1⟩ := p1
      obtain ⟨_, _, rfl, ⟨y1, rfl, -⟩, p1⟩ := p1
      obtain ⟨_, _, rfl, hr, p1⟩ := p1
      have hr : _ = Value.ref 59 := hr
      subst hr
      obtain ⟨_, _, rfl, ⟨y3, rfl, -⟩, p1⟩ := p1
      obtain ⟨_, _, rfl, hr, p1⟩ := p1
      have hr : _ = Value.ref 47 := hr
      subst hr
      have p1 : _ = [] := p1
      subst p1
      obtain ⟨v_, ev, hv⟩ := z2 (0, ([], 8)) (List.mem_of_getElem? (i := 0) rfl)
      cases ev
      have s0 : y0.toInt = 8 := (show y0.toInt = 0 + 8 from hv).trans (by omega)
      obtain ⟨v_, ev, hv⟩ := z2 (1, ([], 0)) (List.mem_of_getElem? (i := 1) rfl)
      cases ev
      have s1 : y1.toInt = 0 := (show y1.toInt = 0 + 0 from hv).trans (by omega)
      obtain ⟨v_, ev, hv⟩ := z2 (3, ([], 0)) (List.mem_of_getElem? (i := 2) rfl)
      cases ev
      have s3 : y3.toInt = 0 := (show y3.toInt = 0 + 0 from hv).trans (by omega)
      exact hE0 lo' h' y0 y1 y3 hi' hm o0 o1 s0 s1 s3
    cases he
  · intro e he r' h' hp hi' hm
    cases he
def kdKc4_L : List (Nat × sT) := [(0, .inr (.inl 55)), (1, .inr (.inl 43))]
def kdKc4_S : List sT := []
def kdKc4_A : sAs := ([], [], [], [])
def kdKc4_P : List sP0 := []
def kdKc4_G : List sP0 := []
def kdKc4_B : List (Nat × Nat × Int) := []
def kdKc4_m : sM := []
def kdKc4_e0 : sXe := (104, [.inl sf32, .inl sf32, .inr (.inl 60), .inl sf32, .inr (.inl 48)], [(0, .inr (.inl 55)), (1, .inr (.inl 43))], sA0, [], ([], [(0, ([], 10)), (1, ([], 0)), (3, ([], 0))], [], []), [], [])
theorem kdKc4_b : syeB swC sT0 kdKc4_m 400 0 112 kdKc4_L kdKc4_S kdKc4_A kdKc4_P kdKc4_G kdKc4_B 92 [kdKc4_e0] [] = true := by decide +kernel
theorem kdKc4 {l : Launch} {Γ : zG} {d : Nat} (hd : 0 ≤ d) {Kp : Option Value → zH → Prop} {lo : zL} {h : zH} (hi : sInv swC h) (l0 : zget lo 0 = some (.ref 55)) (l1 : zget lo 1 = some (.ref 43))
    (hE0 : ∀ (lo' : zL) (h' : zH) (y0 : Int32) (y1 : Int32) (y3 : Int32), sInv swC h' → sMd kdKc4_m h h' → zget lo' 0 = some (.ref 55) → zget lo' 1 = some (.ref 43) → y0.toInt = 10 → y1.toInt = 0 → y3.toInt = 0 → zX l Γ false (d + 1) (zhd 112) (zMQ' Γ false (zhd 112) Kp) 0 0 104 lo' [.int y0, .int y1, .ref 60, .int y3, .ref 48] h') : zX l Γ false (d + 1) (zhd 112) (zMQ' Γ false (zhd 112) Kp) 0 0 92 lo [] h := by
  refine sye_ok (mi := 112) (pc := 92) (fun i => [].getD i 0) kdKc4_b (fun _ _ hc _ => nomatch hc) hd ⟨l0, l1, trivial⟩ rfl ⟨(fun _ hc => nomatch hc), (fun _ hc => nomatch hc), (fun _ hc => nomatch hc), Or.inl rfl⟩ trivial trivial (fun _ hc => nomatch hc) hi ?_ ?_
  · intro e he lo' st' h' hp hi' hm
    rcases List.mem_cons.mp he with rfl | he
    · obtain ⟨p1, p2, -, hz⟩ := hp
      obtain ⟨⟨z1, z2, z3, z4⟩, z5, z6⟩ := hz
      have o0 : zget lo' 0 = some (.ref 55) := locR (p2 (0, .inr (.inl 55)) (List.mem_of_getElem? (i := 0) rfl))
      have o1 : zget lo' 1 = some (.ref 43) := locR (p2 (1, .inr (.inl 43)) (List.mem_of_getElem? (i := 1) rfl))
      obtain ⟨_, _, rfl, ⟨y0, rfl, -⟩, p1⟩ := p1
      obtain ⟨_, _, rfl, ⟨y1, rfl, -⟩, p1⟩ := p1
      obtain ⟨_, _, rfl, hr, p1⟩ := p1
      have hr : _ = Value.ref 60 := hr
      subst hr
      obtain ⟨_, _, rfl, ⟨y3, rfl, -⟩, p1⟩ := p1
      obtain ⟨_, _, rfl, hr, p1⟩ := p1
      have hr : _ = Value.ref 48 := hr
      subst hr
      have p1 : _ = [] := p1
      subst p1
      obtain ⟨v_, ev, hv⟩ := z2 (0, ([], 10)) (List.mem_of_getElem? (i := 0) rfl)
      cases ev
      have s0 : y0.toInt = 10 := (show y0.toInt = 0 + 10 from hv).trans (by omega)
      obtain ⟨v_, ev, hv⟩ := z2 (1, ([], 0)) (List.mem_of_getElem? (i := 1) rfl)
      cases ev
      have s1 : y1.toInt = 0 := (show y1.toInt = 0 + 0 from hv).trans (by omega)
      obtain ⟨v_, ev, hv⟩ := z2 (3, ([], 0)) (List.mem_of_getElem? (i := 2) rfl)
      cases ev
      have s3 : y3.toInt = 0 := (show y3.toInt = 0 + 0 from hv).trans (by omega)
      exact hE0 lo' h' y0 y1 y3 hi' hm o0 o1 s0 s1 s3
    cases he
  · intro e he r' h' hp hi' hm
    cases he
def kdKc5_L : List (Nat × sT) := [(0, .inr (.inl 55)), (1, .inr (.inl 43))]
def kdKc5_S : List sT := []
def kdKc5_A : sAs := ([], [], [], [])
def kdKc5_P : List sP0 := []
def kdKc5_G : List sP0 := []
def kdKc5_B : List (Nat × Nat × Int) := []
def kdKc5_m : sM := []
def kdKc5_r0 : sXr := (none, sA0, [], ([], [], [], []), [], [])
theorem kdKc5_b : syeB swC sT0 kdKc5_m 400 0 112 kdKc5_L kdKc5_S kdKc5_A kdKc5_P kdKc5_G kdKc5_B 107 [] [kdKc5_r0] = true := by decide +kernel
theorem kdKc5 {l : Launch} {Γ : zG} {d : Nat} (hd : 0 ≤ d) {Kp : Option Value → zH → Prop} {lo : zL} {h : zH} (hi : sInv swC h) (l0 : zget lo 0 = some (.ref 55)) (l1 : zget lo 1 = some (.ref 43))
    (hR0 : ∀ (h' : zH), sInv swC h' → sMd kdKc5_m h h' → Kp none h') : zX l Γ false (d + 1) (zhd 112) (zMQ' Γ false (zhd 112) Kp) 0 0 107 lo [] h := by
  refine sye_ok (mi := 112) (pc := 107) (fun i => [].getD i 0) kdKc5_b (fun _ _ hc _ => nomatch hc) hd ⟨l0, l1, trivial⟩ rfl ⟨(fun _ hc => nomatch hc), (fun _ hc => nomatch hc), (fun _ hc => nomatch hc), Or.inl rfl⟩ trivial trivial (fun _ hc => nomatch hc) hi ?_ ?_
  · intro e he lo' st' h' hp hi' hm
    cases he
  · intro e he r' h' hp hi' hm
    rcases List.mem_cons.mp he with rfl | he
    · obtain ⟨p1, -, hz⟩ := hp
      obtain ⟨⟨z1, z2, z3, z4⟩, z5, z6⟩ := hz
      have p1 : r' = none := p1
      subst p1
      exact hR0 h' hi' hm
    cases he
def kdO0_L (t : Nat) : List sT := [.inr (.inl 61), .inr (.inl (17 * t + 9))]
def kdO0_A (t : Nat) : sAs := ([], [], [], [])
def kdO0_P (t : Nat) : List sP0 := []
def kdO0_G (t : Nat) : List sP0 := []
def kdO0_B (t : Nat) : List (Nat × Nat × Int) := []
def kdO0_m (t : Nat) : sM := [(61, 0, 1), (61, 1, 2), (61, 2, 3), (61, 3, 4), (61, 4, 5)]
def kdO0_r0 (t : Nat) : sXr := (none, ([], [(61, 0, (17 * t + 9))], [], []), [], ([(61, (none, 4), ([], (-1))), (61, (none, 3), ([], (-1))), (61, (none, 2), ([], (-1))), (61, (none, 1), ([], 0))], [], [], []), [], [])
theorem kdO0_b : ((List.range 2).all fun t => syfB swC sT0 (kdO0_m t) 400 0 86 (kdO0_L t) (kdO0_A t) (kdO0_P t) (kdO0_G t) (kdO0_B t) [] [kdO0_r0 t]) = true := by decide +kernel
theorem kdO0 {l : Launch} {Γ : zG} {d : Nat} (hd : 0 ≤ d) {Kp : Option Value → zH → Prop} {h : zH} {t : Nat} (h_t : t < 2) (hi : sInv swC h) 
    (hR0 : ∀ (h' : zH), sInv swC h' → sMd (kdO0_m t) h h' → h'.2.2.2 61 0 = some (17 * t + 9) → pI h' 61 4 = (-1) → pI h' 61 3 = (-1) → pI h' 61 2 = (-1) → pI h' 61 1 = 0 → Kp none h') : zSem l Γ false (d + 1) (zhd 86) [.ref 61, .ref (17 * t + 9)] h Kp := by
  refine syf_ok (mi := 86) (fun i => [].getD i 0) (zall_r kdO0_b h_t) (fun _ _ hc _ => nomatch hc) hd ⟨_, _, rfl, rfl, ⟨_, _, rfl, rfl, rfl⟩⟩ ⟨rfl, rfl, trivial⟩ ⟨(fun _ hc => nomatch hc), (fun _ hc => nomatch hc), (fun _ hc => nomatch hc), Or.inl rfl⟩ trivial trivial (fun _ hc => nomatch hc) hi ?_ ?_
  · intro e he lo' st' h' hp hi' hm
    cases he
  · intro e he r' h' hp hi' hm
    rcases List.mem_cons.mp he with rfl | he
    · obtain ⟨p1, pa, hz⟩ := hp
      have t0 : h'.2.2.2 61 0 = some (17 * t + 9) := pa.2.1 (61, 0, (17 * t + 9)) (List.mem_of_getElem? (i := 0) rfl)
      obtain ⟨⟨z1, z2, z3, z4⟩, z5, z6⟩ := hz
      have k0 : pI h' 61 4 = (-1) := (show pI h' 61 4 = 0 + (-1) from z1 (61, (none, 4), ([], (-1))) (List.mem_of_getElem? (i := 0) rfl)).trans (by omega)
      have k1 : pI h' 61 3 = (-1) := (show pI h' 61 3 = 0 + (-1) from z1 (61, (none, 3), ([], (-1))) (List.mem_of_getElem? (i := 1) rfl)).trans (by omega)
      have k2 : pI h' 61 2 = (-1) := (show pI h' 61 2 = 0 + (-1) from z1 (61, (none, 2), ([], (-1))) (List.mem_of_getElem? (i := 2) rfl)).trans (by omega)
      have k3 : pI h' 61 1 = 0 := (show pI h' 61 1 = 0 + 0 from z1 (61, (none, 1), ([], 0)) (List.mem_of_getElem? (i := 3) rfl)).trans (by omega)
      have p1 : r' = none := p1
      subst p1
      exact hR0 h' hi' hm t0 k0 k1 k2 k3
    cases he
def kdO1_L (t : Nat) : List sT := [.inr (.inl 61), .inr (.inl (17 * t + 9))]
def kdO1_A (t : Nat) : sAs := ([], [], [], [])
def kdO1_P (t : Nat) : List sP0 := []
def kdO1_G (t : Nat) : List sP0 := []
def kdO1_B (t : Nat) : List (Nat × Nat × Int) := []
def kdO1_m (t : Nat) : sM := [(61, 0, 1), (61, 1, 2), (61, 2, 3), (61, 3, 4), (61, 4, 5)]
def kdO1_r0 (t : Nat) : sXr := (none, ([], [(61, 0, (17 * t + 9))], [], []), [], ([(61, (none, 1), ([], 1)), (61, (none, 4), ([], (-1))), (61, (none, 3), ([], (-1))), (61, (none, 2), ([], (-1)))], [], [], []), [], [])
theorem kdO1_b : ((List.range 2).all fun t => syfB swC sT0 (kdO1_m t) 400 1 99 (kdO1_L t) (kdO1_A t) (kdO1_P t) (kdO1_G t) (kdO1_B t) [] [kdO1_r0 t]) = true := by decide +kernel
theorem kdO1 {l : Launch} {Γ : zG} {d : Nat} (hd : 1 ≤ d) {Kp : Option Value → zH → Prop} {h : zH} {t : Nat} (h_t : t < 2) (hi : sInv swC h) 
    (hR0 : ∀ (h' : zH), sInv swC h' → sMd (kdO1_m t) h h' → h'.2.2.2 61 0 = some (17 * t + 9) → pI h' 61 1 = 1 → pI h' 61 4 = (-1) → pI h' 61 3 = (-1) → pI h' 61 2 = (-1) → Kp none h') : zSem l Γ false (d + 1) (zhd 99) [.ref 61, .ref (17 * t + 9)] h Kp := by
  refine syf_ok (mi := 99) (fun i => [].getD i 0) (zall_r kdO1_b h_t) (fun _ _ hc _ => nomatch hc) hd ⟨_, _, rfl, rfl, ⟨_, _, rfl, rfl, rfl⟩⟩ ⟨rfl, rfl, trivial⟩ ⟨(fun _ hc => nomatch hc), (fun _ hc => nomatch hc), (fun _ hc => nomatch hc), Or.inl rfl⟩ trivial trivial (fun _ hc => nomatch hc) hi ?_ ?_
  · intro e he lo' st' h' hp hi' hm
    cases he
  · intro e he r' h' hp hi' hm
    rcases List.mem_cons.mp he with rfl | he
    · obtain ⟨p1, pa, hz⟩ := hp
      have t0 : h'.2.2.2 61 0 = some (17 * t + 9) := pa.2.1 (61, 0, (17 * t + 9)) (List.mem_of_getElem? (i := 0) rfl)
      obtain ⟨⟨z1, z2, z3, z4⟩, z5, z6⟩ := hz
      have k0 : pI h' 61 1 = 1 := (show pI h' 61 1 = 0 + 1 from z1 (61, (none, 1), ([], 1)) (List.mem_of_getElem? (i := 0) rfl)).trans (by omega)
      have k1 : pI h' 61 4 = (-1) := (show pI h' 61 4 = 0 + (-1) from z1 (61, (none, 4), ([], (-1))) (List.mem_of_getElem? (i := 1) rfl)).trans (by omega)
      have k2 : pI h' 61 3 = (-1) := (show pI h' 61 3 = 0 + (-1) from z1 (61, (none, 3), ([], (-1))) (List.mem_of_getElem? (i := 2) rfl)).trans (by omega)
      have k3 : pI h' 61 2 = (-1) := (show pI h' 61 2 = 0 + (-1) from z1 (61, (none, 2), ([], (-1))) (List.mem_of_getElem? (i := 3) rfl)).trans (by omega)
      have p1 : r' = none := p1
      subst p1
      exact hR0 h' hi' hm t0 k0 k1 k2 k3
    cases he
def kdF0_L (t : Nat) : List sT := [.inr (.inl 0), .inl sf32]
def kdF0_A (t : Nat) : sAs := ([], [(0, 5, (17 * t + 9))], [], [])
def kdF0_P (t : Nat) : List sP0 := [((17 * t + 12), (none, 3), (0, 8))]
def kdF0_G (t : Nat) : List sP0 := []
def kdF0_B (t : Nat) : List (Nat × Nat × Int) := []
def kdF0_m (t : Nat) : sM := []
def kdF0_e0 (t : Nat) : sXe := (15, [.inl sf32, .inr (.inl 43)], [(0, .inr (.inl 0)), (1, .inl sf32)], sA0, [], ([], [(0, ([(0, 1)], 0))], [(1, ([(0, 1)], 0))], [([(0, 1)], 0), ([(0, (-1))], 7), ([(0, (-1)), (1, 1)], (-1))]), [], [])
def kdF0_r0 (t : Nat) : sXr := (some (.inl sf32), sA0, [], ([], [(0, ([], (-1)))], [], [([(0, (-1))], (-1))]), [], [])
def kdF0_r1 (t : Nat) : sXr := (some (.inl sf32), sA0, [], ([], [(0, ([], (-1)))], [], [([(0, 1)], 0), ([(0, 1)], (-8))]), [], [])
def kdF0_r2 (t : Nat) : sXr := (some (.inl sf32), sA0, [], ([], [(0, ([], (-1)))], [], [([(0, 1)], 0), ([(0, (-1))], 7), ([(0, 1), (1, (-1))], 0)]), [], [])
theorem kdF0_b : ((List.range 2).all fun t => syfB swC sT0 (kdF0_m t) 400 1 91 (kdF0_L t) (kdF0_A t) (kdF0_P t) (kdF0_G t) (kdF0_B t) [kdF0_e0 t] [kdF0_r0 t, kdF0_r1 t, kdF0_r2 t]) = true := by decide +kernel
theorem kdF0 {l : Launch} {Γ : zG} {d : Nat} (hd : 1 ≤ d) {Kp : Option Value → zH → Prop} {h : zH} {t : Nat} (h_t : t < 2) {x n : Int} (hi : sInv swC h) (b_x : (-2147483648) ≤ x ∧ x ≤ 2147483647) (b_n : 0 ≤ n ∧ n ≤ 8) {x_x : Int32} (e_x : x_x.toInt = x) (p_n : pI h (17 * t + 12) 3 = n) (q0 : h.2.2.2 0 5 = some (17 * t + 9))
    (hE0 : ∀ (lo' : zL) (h' : zH) (y0 : Int32), sInv swC h' → sMd (kdF0_m t) h h' → 0 ≤ x → 0 ≤ -x + 7 → 0 ≤ -x + n - 1 → zget lo' 0 = some (.ref 0) → zI lo' 1 x → y0.toInt = x → zX l Γ false (d + 1) (zhd 91) (zMQ' Γ false (zhd 91) Kp) 0 0 15 lo' [.int y0, .ref 43] h')
    (hR0 : ∀ (h' : zH) (r_ : Int32), sInv swC h' → sMd (kdF0_m t) h h' → 0 ≤ -x - 1 → r_.toInt = (-1) → Kp (some (.int r_)) h')
    (hR1 : ∀ (h' : zH) (r_ : Int32), sInv swC h' → sMd (kdF0_m t) h h' → 0 ≤ x → 0 ≤ x - 8 → r_.toInt = (-1) → Kp (some (.int r_)) h')
    (hR2 : ∀ (h' : zH) (r_ : Int32), sInv swC h' → sMd (kdF0_m t) h h' → 0 ≤ x → 0 ≤ -x + 7 → 0 ≤ x - n → r_.toInt = (-1) → Kp (some (.int r_)) h') : zSem l Γ false (d + 1) (zhd 91) [.ref 0, .int x_x] h Kp := by
  refine syf_ok (mi := 91) (fun i => [x, n].getD i 0) (zall_r kdF0_b h_t) (fun _ _ hc _ => nomatch hc) hd ⟨_, _, rfl, rfl, ⟨_, _, rfl, ⟨x_x, rfl, by show (-2147483648) ≤ x_x.toInt; omega, by show x_x.toInt ≤ 2147483647; omega⟩, rfl⟩⟩ ⟨rfl, ⟨x_x, rfl, e_x, by show (-2147483648) ≤ x; omega, by show x ≤ 2147483647; omega⟩, trivial⟩ ⟨(fun _ hc => nomatch hc), (sfm q0 (fun _ hc => nomatch hc)), (fun _ hc => nomatch hc), Or.inl rfl⟩ ⟨⟨p_n, by show 0 ≤ n; omega, by show n ≤ 8; omega⟩, trivial⟩ trivial (fun _ hc => nomatch hc) hi ?_ ?_
  · intro e he lo' st' h' hp hi' hm
    rcases List.mem_cons.mp he with rfl | he
    · obtain ⟨p1, p2, -, hz⟩ := hp
      obtain ⟨⟨z1, z2, z3, z4⟩, z5, z6⟩ := hz
      have c0 : 0 ≤ x := by have q_ : (0 : Int) ≤ (1 * x + 0) + 0 := z4 ([(0, 1)], 0) (List.mem_of_getElem? (i := 0) rfl); omega
      have c1 : 0 ≤ -x + 7 := by have q_ : (0 : Int) ≤ ((-1) * x + 0) + 7 := z4 ([(0, (-1))], 7) (List.mem_of_getElem? (i := 1) rfl); omega
      have c2 : 0 ≤ -x + n - 1 := by have q_ : (0 : Int) ≤ ((-1) * x + (1 * n + 0)) + (-1) := z4 ([(0, (-1)), (1, 1)], (-1)) (List.mem_of_getElem? (i := 2) rfl); omega
      have o0 : zget lo' 0 = some (.ref 0) := locR (p2 (0, .inr (.inl 0)) (List.mem_of_getElem? (i := 0) rfl))
      have o1 : zI lo' 1 x := zI_of (p2 (1, .inl sf32) (List.mem_of_getElem? (i := 1) rfl)) (z3 (1, ([(0, 1)], 0)) (List.mem_of_getElem? (i := 0) rfl)) (show (1 * x + 0) + 0 = x from by omega)
      obtain ⟨_, _, rfl, ⟨y0, rfl, -⟩, p1⟩ := p1
      obtain ⟨_, _, rfl, hr, p1⟩ := p1
      have hr : _ = Value.ref 43 := hr
      subst hr
      have p1 : _ = [] := p1
      subst p1
      obtain ⟨v_, ev, hv⟩ := z2 (0, ([(0, 1)], 0)) (List.mem_of_getElem? (i := 0) rfl)
      cases ev
      have s0 : y0.toInt = x := (show y0.toInt = (1 * x + 0) + 0 from hv).trans (by omega)
      exact hE0 lo' h' y0 hi' hm c0 c1 c2 o0 o1 s0
    cases he
  · intro e he r' h' hp hi' hm
    rcases List.mem_cons.mp he with rfl | he
    · obtain ⟨p1, -, hz⟩ := hp
      obtain ⟨⟨z1, z2, z3, z4⟩, z5, z6⟩ := hz
      have c0 : 0 ≤ -x - 1 := by have q_ : (0 : Int) ≤ ((-1) * x + 0) + (-1) := z4 ([(0, (-1))], (-1)) (List.mem_of_getElem? (i := 0) rfl); omega
      obtain ⟨r_, rfl, hv⟩ := ansI p1 (z2 (0, ([], (-1))) (List.mem_of_getElem? (i := 0) rfl))
      have s0 : r_.toInt = (-1) := (show r_.toInt = 0 + (-1) from hv).trans (by omega)
      exact hR0 h' r_ hi' hm c0 s0
    rcases List.mem_cons.mp he with rfl | he
    · obtain ⟨p1, -, hz⟩ := hp
      obtain ⟨⟨z1, z2, z3, z4⟩, z5, z6⟩ := hz
      have c0 : 0 ≤ x := by have q_ : (0 : Int) ≤ (1 * x + 0) + 0 := z4 ([(0, 1)], 0) (List.mem_of_getElem? (i := 0) rfl); omega
      have c1 : 0 ≤ x - 8 := by have q_ : (0 : Int) ≤ (1 * x + 0) + (-8) := z4 ([(0, 1)], (-8)) (List.mem_of_getElem? (i := 1) rfl); omega
      obtain ⟨r_, rfl, hv⟩ := ansI p1 (z2 (0, ([], (-1))) (List.mem_of_getElem? (i := 0) rfl))
      have s0 : r_.toInt = (-1) := (show r_.toInt = 0 + (-1) from hv).trans (by omega)
      exact hR1 h' r_ hi' hm c0 c1 s0
    rcases List.mem_cons.mp he with rfl | he
    · obtain ⟨p1, -, hz⟩ := hp
      obtain ⟨⟨z1, z2, z3, z4⟩, z5, z6⟩ := hz
      have c0 : 0 ≤ x := by have q_ : (0 : Int) ≤ (1 * x + 0) + 0 := z4 ([(0, 1)], 0) (List.mem_of_getElem? (i := 0) rfl); omega
      have c1 : 0 ≤ -x + 7 := by have q_ : (0 : Int) ≤ ((-1) * x + 0) + 7 := z4 ([(0, (-1))], 7) (List.mem_of_getElem? (i := 1) rfl); omega
      have c2 : 0 ≤ x - n := by have q_ : (0 : Int) ≤ (1 * x + ((-1) * n + 0)) + 0 := z4 ([(0, 1), (1, (-1))], 0) (List.mem_of_getElem? (i := 2) rfl); omega
      obtain ⟨r_, rfl, hv⟩ := ansI p1 (z2 (0, ([], (-1))) (List.mem_of_getElem? (i := 0) rfl))
      have s0 : r_.toInt = (-1) := (show r_.toInt = 0 + (-1) from hv).trans (by omega)
      exact hR2 h' r_ hi' hm c0 c1 c2 s0
    cases he
def kdF1_L : List (Nat × sT) := [(0, .inr (.inl 0)), (1, .inl (0, 7))]
def kdF1_S : List sT := []
def kdF1_A : sAs := ([], [], [], [])
def kdF1_P : List sP0 := []
def kdF1_G : List sP0 := []
def kdF1_B : List (Nat × Nat × Int) := []
def kdF1_m : sM := []
def kdF1_e0 : sXe := (26, [.inl sf32, .inl sf32, .inl sf32, .inl sf32, .inr (.inl 86)], [(0, .inr (.inl 0)), (1, .inl sf32)], sA0, [], ([], [(0, ([], 0)), (1, ([(0, 1)], 0)), (2, ([(0, 1)], 0)), (3, ([], 0))], [(1, ([(0, 1)], 0))], []), [], [])
theorem kdF1_b : syeB swC sT0 kdF1_m 400 0 91 kdF1_L kdF1_S kdF1_A kdF1_P kdF1_G kdF1_B 18 [kdF1_e0] [] = true := by decide +kernel
theorem kdF1 {l : Launch} {Γ : zG} {d : Nat} (hd : 0 ≤ d) {Kp : Option Value → zH → Prop} {lo : zL} {h : zH} {x : Int} (hi : sInv swC h) (b_x : 0 ≤ x ∧ x ≤ 7) (l0 : zget lo 0 = some (.ref 0)) (l1 : zI lo 1 x)
    (hE0 : ∀ (lo' : zL) (h' : zH) (y0 : Int32) (y1 : Int32) (y2 : Int32) (y3 : Int32), sInv swC h' → sMd kdF1_m h h' → zget lo' 0 = some (.ref 0) → zI lo' 1 x → y0.toInt = 0 → y1.toInt = x → y2.toInt = x → y3.toInt = 0 → zX l Γ false (d + 1) (zhd 91) (zMQ' Γ false (zhd 91) Kp) 0 0 26 lo' [.int y0, .int y1, .int y2, .int y3, .ref 86] h') : zX l Γ false (d + 1) (zhd 91) (zMQ' Γ false (zhd 91) Kp) 0 0 18 lo [] h := by
  refine sye_ok (mi := 91) (pc := 18) (fun i => [x].getD i 0) kdF1_b (fun _ _ hc _ => nomatch hc) hd ⟨l0, zIm l1 (by show 0 ≤ x; omega) (by show x ≤ 7; omega), trivial⟩ rfl ⟨(fun _ hc => nomatch hc), (fun _ hc => nomatch hc), (fun _ hc => nomatch hc), Or.inl rfl⟩ trivial trivial (fun _ hc => nomatch hc) hi ?_ ?_
  · intro e he lo' st' h' hp hi' hm
    rcases List.mem_cons.mp he with rfl | he
    · obtain ⟨p1, p2, -, hz⟩ := hp
      obtain ⟨⟨z1, z2, z3, z4⟩, z5, z6⟩ := hz
      have o0 : zget lo' 0 = some (.ref 0) := locR (p2 (0, .inr (.inl 0)) (List.mem_of_getElem? (i := 0) rfl))
      have o1 : zI lo' 1 x := zI_of (p2 (1, .inl sf32) (List.mem_of_getElem? (i := 1) rfl)) (z3 (1, ([(0, 1)], 0)) (List.mem_of_getElem? (i := 0) rfl)) (show (1 * x + 0) + 0 = x from by omega)
      obtain ⟨_, _, rfl, ⟨y0, rfl, -⟩, p1⟩ := p1
      obtain ⟨_, _, rfl, ⟨y1, rfl, -⟩, p1⟩ := p1
      obtain ⟨_, _, rfl, ⟨y2, rfl, -⟩, p1⟩ := p1
      obtain ⟨_, _, rfl, ⟨y3, rfl, -⟩, p1⟩ := p1
      obtain ⟨_, _, rfl, hr, p1⟩ := p1
      have hr : _ = Value.ref 86 := hr
      subst hr
      have p1 : _ = [] := p1
      subst p1
      obtain ⟨v_, ev, hv⟩ := z2 (0, ([], 0)) (List.mem_of_getElem? (i := 0) rfl)
      cases ev
      have s0 : y0.toInt = 0 := (show y0.toInt = 0 + 0 from hv).trans (by omega)
      obtain ⟨v_, ev, hv⟩ := z2 (1, ([(0, 1)], 0)) (List.mem_of_getElem? (i := 1) rfl)
      cases ev
      have s1 : y1.toInt = x := (show y1.toInt = (1 * x + 0) + 0 from hv).trans (by omega)
      obtain ⟨v_, ev, hv⟩ := z2 (2, ([(0, 1)], 0)) (List.mem_of_getElem? (i := 2) rfl)
      cases ev
      have s2 : y2.toInt = x := (show y2.toInt = (1 * x + 0) + 0 from hv).trans (by omega)
      obtain ⟨v_, ev, hv⟩ := z2 (3, ([], 0)) (List.mem_of_getElem? (i := 3) rfl)
      cases ev
      have s3 : y3.toInt = 0 := (show y3.toInt = 0 + 0 from hv).trans (by omega)
      exact hE0 lo' h' y0 y1 y2 y3 hi' hm o0 o1 s0 s1 s2 s3
    cases he
  · intro e he r' h' hp hi' hm
    cases he
def kdF2_L (g : Nat) : List (Nat × sT) := [(0, .inr (.inl 0)), (1, .inl ((g : Int), (g : Int)))]
def kdF2_S (g : Nat) : List sT := []
def kdF2_A (g : Nat) : sAs := ([], [], [], [])
def kdF2_P (g : Nat) : List sP0 := [(44, (none, ((g : Nat) : Int)), sf32)]
def kdF2_G (g : Nat) : List sP0 := []
def kdF2_B (g : Nat) : List (Nat × Nat × Int) := []
def kdF2_m (g : Nat) : sM := []
def kdF2_r0 (g : Nat) : sXr := (some (.inl sf32), sA0, [], ([], [(0, ([(1, 1)], 0))], [], []), [], [])
theorem kdF2_b : ((List.range 8).all fun g => syeB swC sT0 (kdF2_m g) 400 0 91 (kdF2_L g) (kdF2_S g) (kdF2_A g) (kdF2_P g) (kdF2_G g) (kdF2_B g) 29 [] [kdF2_r0 g]) = true := by decide +kernel
theorem kdF2 {l : Launch} {Γ : zG} {d : Nat} (hd : 0 ≤ d) {Kp : Option Value → zH → Prop} {lo : zL} {h : zH} {g : Nat} (h_g : g < 8) {a : Int} (hi : sInv swC h) (b_a : (-2147483648) ≤ a ∧ a ≤ 2147483647) (l0 : zget lo 0 = some (.ref 0)) (l1 : zI lo 1 (g : Int)) (p_a : pI h 44 g = a)
    (hR0 : ∀ (h' : zH) (r_ : Int32), sInv swC h' → sMd (kdF2_m g) h h' → r_.toInt = a → Kp (some (.int r_)) h') : zX l Γ false (d + 1) (zhd 91) (zMQ' Γ false (zhd 91) Kp) 0 0 29 lo [] h := by
  refine sye_ok (mi := 91) (pc := 29) (fun i => [(g : Int), a].getD i 0) (zall_r kdF2_b h_g) (fun _ _ hc _ => nomatch hc) hd ⟨l0, zIm l1 (by show (g : Int) ≤ (g : Int); omega) (by show (g : Int) ≤ (g : Int); omega), trivial⟩ rfl ⟨(fun _ hc => nomatch hc), (fun _ hc => nomatch hc), (fun _ hc => nomatch hc), Or.inl rfl⟩ ⟨⟨p_a, by show (-2147483648) ≤ a; omega, by show a ≤ 2147483647; omega⟩, trivial⟩ trivial (fun _ hc => nomatch hc) hi ?_ ?_
  · intro e he lo' st' h' hp hi' hm
    cases he
  · intro e he r' h' hp hi' hm
    rcases List.mem_cons.mp he with rfl | he
    · obtain ⟨p1, -, hz⟩ := hp
      obtain ⟨⟨z1, z2, z3, z4⟩, z5, z6⟩ := hz
      obtain ⟨r_, rfl, hv⟩ := ansI p1 (z2 (0, ([(1, 1)], 0)) (List.mem_of_getElem? (i := 0) rfl))
      have s0 : r_.toInt = a := (show r_.toInt = (1 * a + 0) + 0 from hv).trans (by omega)
      exact hR0 h' r_ hi' hm s0
    cases he
def kdY0_L (t : Nat) : List sT := [.inr (.inl 0), .inl sf32]
def kdY0_A (t : Nat) : sAs := ([], [(0, 5, (17 * t + 9))], [], [])
def kdY0_P (t : Nat) : List sP0 := [((17 * t + 12), (none, 3), (0, 8)), (43, (none, 3), (0, 255))]
def kdY0_G (t : Nat) : List sP0 := []
def kdY0_B (t : Nat) : List (Nat × Nat × Int) := []
def kdY0_m (t : Nat) : sM := []
def kdY0_e0 (t : Nat) : sXe := (21, [], [(0, .inr (.inl 0)), (1, .inl sf32)], sA0, [(0, 4, ([(2, 1)], 0), ([(0, 1)], 0)), (0, 2, ([(3, 1)], 0), ([], 1))], ([], [], [(1, ([(0, 1)], 0))], [([(0, 1)], 0), ([(0, (-1))], 7), ([(0, (-1)), (1, 1)], (-1))]), [(([(4, 1)], 0), ([], 0))], [])
def kdY0_r0 (t : Nat) : sXr := (some (.inl sf32), sA0, [], ([], [(0, ([], 0))], [], [([(0, (-1))], (-1))]), [], [])
def kdY0_r1 (t : Nat) : sXr := (some (.inl sf32), sA0, [], ([], [(0, ([], 0))], [], [([(0, 1)], 0), ([(0, 1)], (-8))]), [], [])
def kdY0_r2 (t : Nat) : sXr := (some (.inl sf32), sA0, [(0, 4, ([(2, 1)], 0), ([(0, 1)], 0)), (0, 2, ([(3, 1)], 0), ([], 1))], ([], [(0, ([], 0))], [], [([(0, 1)], 0), ([(0, (-1))], 7), ([(0, (-1)), (1, 1)], (-1)), ([(4, 1)], 0), ([(4, (-1))], 0)]), [], [])
def kdY0_r3 (t : Nat) : sXr := (some (.inl sf32), sA0, [], ([], [(0, ([], 0))], [], [([(0, 1)], 0), ([(0, (-1))], 7), ([(0, 1), (1, (-1))], 0)]), [], [])
theorem kdY0_b : ((List.range 2).all fun t => syfB swC sT0 (kdY0_m t) 400 1 97 (kdY0_L t) (kdY0_A t) (kdY0_P t) (kdY0_G t) (kdY0_B t) [kdY0_e0 t] [kdY0_r0 t, kdY0_r1 t, kdY0_r2 t, kdY0_r3 t]) = true := by decide +kernel
theorem kdY0 {l : Launch} {Γ : zG} {d : Nat} (hd : 1 ≤ d) {Kp : Option Value → zH → Prop} {h : zH} {t : Nat} (h_t : t < 2) {x n w : Int} (hi : sInv swC h) (b_x : (-2147483648) ≤ x ∧ x ≤ 2147483647) (b_n : 0 ≤ n ∧ n ≤ 8) (b_w : 0 ≤ w ∧ w ≤ 255) {x_x : Int32} (e_x : x_x.toInt = x) (p_n : pI h (17 * t + 12) 3 = n) (p_w : pI h 43 3 = w) (q0 : h.2.2.2 0 5 = some (17 * t + 9))
    (hE0 : ∀ (lo' : zL) (h' : zH) (w0 w1 : Int), sInv swC h' → sMd (kdY0_m t) h h' → w0 = sgfn 4 w x → w1 = sgfn 2 w0 1 → 0 ≤ x → 0 ≤ -x + 7 → 0 ≤ -x + n - 1 → w1 ≠ 0 → zget lo' 0 = some (.ref 0) → zI lo' 1 x → zX l Γ false (d + 1) (zhd 97) (zMQ' Γ false (zhd 97) Kp) 0 0 21 lo' [] h')
    (hR0 : ∀ (h' : zH) (r_ : Int32), sInv swC h' → sMd (kdY0_m t) h h' → 0 ≤ -x - 1 → r_.toInt = 0 → Kp (some (.int r_)) h')
    (hR1 : ∀ (h' : zH) (r_ : Int32), sInv swC h' → sMd (kdY0_m t) h h' → 0 ≤ x → 0 ≤ x - 8 → r_.toInt = 0 → Kp (some (.int r_)) h')
    (hR2 : ∀ (h' : zH) (w0 w1 : Int) (r_ : Int32), sInv swC h' → sMd (kdY0_m t) h h' → w0 = sgfn 4 w x → w1 = sgfn 2 w0 1 → 0 ≤ x → 0 ≤ -x + 7 → 0 ≤ -x + n - 1 → w1 = 0 → r_.toInt = 0 → Kp (some (.int r_)) h')
    (hR3 : ∀ (h' : zH) (r_ : Int32), sInv swC h' → sMd (kdY0_m t) h h' → 0 ≤ x → 0 ≤ -x + 7 → 0 ≤ x - n → r_.toInt = 0 → Kp (some (.int r_)) h') : zSem l Γ false (d + 1) (zhd 97) [.ref 0, .int x_x] h Kp := by
  refine syf_ok (mi := 97) (fun i => [x, n, w].getD i 0) (zall_r kdY0_b h_t) (fun _ _ hc _ => nomatch hc) hd ⟨_, _, rfl, rfl, ⟨_, _, rfl, ⟨x_x, rfl, by show (-2147483648) ≤ x_x.toInt; omega, by show x_x.toInt ≤ 2147483647; omega⟩, rfl⟩⟩ ⟨rfl, ⟨x_x, rfl, e_x, by show (-2147483648) ≤ x; omega, by show x ≤ 2147483647; omega⟩, trivial⟩ ⟨(fun _ hc => nomatch hc), (sfm q0 (fun _ hc => nomatch hc)), (fun _ hc => nomatch hc), Or.inl rfl⟩ ⟨⟨p_n, by show 0 ≤ n; omega, by show n ≤ 8; omega⟩, ⟨p_w, by show 0 ≤ w; omega, by show w ≤ 255; omega⟩, trivial⟩ trivial (fun _ hc => nomatch hc) hi ?_ ?_
  · intro e he lo' st' h' hp hi' hm
    rcases List.mem_cons.mp he with rfl | he
    · obtain ⟨p1, p2, -, hz⟩ := hp
      obtain ⟨w0, f0, hz⟩ := hz
      obtain ⟨w1, f1, hz⟩ := hz
      obtain ⟨⟨z1, z2, z3, z4⟩, z5, z6⟩ := hz
      have g0 : w0 = sgfn 4 w x := (show w0 = sgfn 4 ((1 * w + 0) + 0) ((1 * x + 0) + 0) from f0).trans (sgfn_c (by omega) (by omega))
      have g1 : w1 = sgfn 2 w0 1 := (show w1 = sgfn 2 ((1 * w0 + 0) + 0) (0 + 1) from f1).trans (sgfn_c (by omega) (by omega))
      have c0 : 0 ≤ x := by have q_ : (0 : Int) ≤ (1 * x + 0) + 0 := z4 ([(0, 1)], 0) (List.mem_of_getElem? (i := 0) rfl); omega
      have c1 : 0 ≤ -x + 7 := by have q_ : (0 : Int) ≤ ((-1) * x + 0) + 7 := z4 ([(0, (-1))], 7) (List.mem_of_getElem? (i := 1) rfl); omega
      have c2 : 0 ≤ -x + n - 1 := by have q_ : (0 : Int) ≤ ((-1) * x + (1 * n + 0)) + (-1) := z4 ([(0, (-1)), (1, 1)], (-1)) (List.mem_of_getElem? (i := 2) rfl); omega
      have n0 : w1 ≠ 0 := fun e_ => z5 (([(4, 1)], 0), ([], 0)) (List.mem_of_getElem? (i := 0) rfl) (by show (1 * w1 + 0) + 0 = 0 + 0; omega)
      have o0 : zget lo' 0 = some (.ref 0) := locR (p2 (0, .inr (.inl 0)) (List.mem_of_getElem? (i := 0) rfl))
      have o1 : zI lo' 1 x := zI_of (p2 (1, .inl sf32) (List.mem_of_getElem? (i := 1) rfl)) (z3 (1, ([(0, 1)], 0)) (List.mem_of_getElem? (i := 0) rfl)) (show (1 * x + 0) + 0 = x from by omega)
      have p1 : _ = [] := p1
      subst p1
      exact hE0 lo' h' w0 w1 hi' hm g0 g1 c0 c1 c2 n0 o0 o1
    cases he
  · intro e he r' h' hp hi' hm
    rcases List.mem_cons.mp he with rfl | he
    · obtain ⟨p1, -, hz⟩ := hp
      obtain ⟨⟨z1, z2, z3, z4⟩, z5, z6⟩ := hz
      have c0 : 0 ≤ -x - 1 := by have q_ : (0 : Int) ≤ ((-1) * x + 0) + (-1) := z4 ([(0, (-1))], (-1)) (List.mem_of_getElem? (i := 0) rfl); omega
      obtain ⟨r_, rfl, hv⟩ := ansI p1 (z2 (0, ([], 0)) (List.mem_of_getElem? (i := 0) rfl))
      have s0 : r_.toInt = 0 := (show r_.toInt = 0 + 0 from hv).trans (by omega)
      exact hR0 h' r_ hi' hm c0 s0
    rcases List.mem_cons.mp he with rfl | he
    · obtain ⟨p1, -, hz⟩ := hp
      obtain ⟨⟨z1, z2, z3, z4⟩, z5, z6⟩ := hz
      have c0 : 0 ≤ x := by have q_ : (0 : Int) ≤ (1 * x + 0) + 0 := z4 ([(0, 1)], 0) (List.mem_of_getElem? (i := 0) rfl); omega
      have c1 : 0 ≤ x - 8 := by have q_ : (0 : Int) ≤ (1 * x + 0) + (-8) := z4 ([(0, 1)], (-8)) (List.mem_of_getElem? (i := 1) rfl); omega
      obtain ⟨r_, rfl, hv⟩ := ansI p1 (z2 (0, ([], 0)) (List.mem_of_getElem? (i := 0) rfl))
      have s0 : r_.toInt = 0 := (show r_.toInt = 0 + 0 from hv).trans (by omega)
      exact hR1 h' r_ hi' hm c0 c1 s0
    rcases List.mem_cons.mp he with rfl | he
    · obtain ⟨p1, -, hz⟩ := hp
      obtain ⟨w0, f0, hz⟩ := hz
      obtain ⟨w1, f1, hz⟩ := hz
      obtain ⟨⟨z1, z2, z3, z4⟩, z5, z6⟩ := hz
      have g0 : w0 = sgfn 4 w x := (show w0 = sgfn 4 ((1 * w + 0) + 0) ((1 * x + 0) + 0) from f0).trans (sgfn_c (by omega) (by omega))
      have g1 : w1 = sgfn 2 w0 1 := (show w1 = sgfn 2 ((1 * w0 + 0) + 0) (0 + 1) from f1).trans (sgfn_c (by omega) (by omega))
      have c0 : 0 ≤ x := by have q_ : (0 : Int) ≤ (1 * x + 0) + 0 := z4 ([(0, 1)], 0) (List.mem_of_getElem? (i := 0) rfl); omega
      have c1 : 0 ≤ -x + 7 := by have q_ : (0 : Int) ≤ ((-1) * x + 0) + 7 := z4 ([(0, (-1))], 7) (List.mem_of_getElem? (i := 1) rfl); omega
      have c2 : 0 ≤ -x + n - 1 := by have q_ : (0 : Int) ≤ ((-1) * x + (1 * n + 0)) + (-1) := z4 ([(0, (-1)), (1, 1)], (-1)) (List.mem_of_getElem? (i := 2) rfl); omega
      have c3 : w1 = 0 := by have q_ : (0 : Int) ≤ (1 * w1 + 0) + 0 := z4 ([(4, 1)], 0) (List.mem_of_getElem? (i := 3) rfl); have q2_ : (0 : Int) ≤ ((-1) * w1 + 0) + 0 := z4 ([(4, (-1))], 0) (List.mem_of_getElem? (i := 4) rfl); omega
      obtain ⟨r_, rfl, hv⟩ := ansI p1 (z2 (0, ([], 0)) (List.mem_of_getElem? (i := 0) rfl))
      have s0 : r_.toInt = 0 := (show r_.toInt = 0 + 0 from hv).trans (by omega)
      exact hR2 h' w0 w1 r_ hi' hm g0 g1 c0 c1 c2 c3 s0
    rcases List.mem_cons.mp he with rfl | he
    · obtain ⟨p1, -, hz⟩ := hp
      obtain ⟨⟨z1, z2, z3, z4⟩, z5, z6⟩ := hz
      have c0 : 0 ≤ x := by have q_ : (0 : Int) ≤ (1 * x + 0) + 0 := z4 ([(0, 1)], 0) (List.mem_of_getElem? (i := 0) rfl); omega
      have c1 : 0 ≤ -x + 7 := by have q_ : (0 : Int) ≤ ((-1) * x + 0) + 7 := z4 ([(0, (-1))], 7) (List.mem_of_getElem? (i := 1) rfl); omega
      have c2 : 0 ≤ x - n := by have q_ : (0 : Int) ≤ (1 * x + ((-1) * n + 0)) + 0 := z4 ([(0, 1), (1, (-1))], 0) (List.mem_of_getElem? (i := 2) rfl); omega
      obtain ⟨r_, rfl, hv⟩ := ansI p1 (z2 (0, ([], 0)) (List.mem_of_getElem? (i := 0) rfl))
      have s0 : r_.toInt = 0 := (show r_.toInt = 0 + 0 from hv).trans (by omega)
      exact hR3 h' r_ hi' hm c0 c1 c2 s0
    cases he
def kdY1_L : List (Nat × sT) := [(0, .inr (.inl 0)), (1, .inl (0, 7))]
def kdY1_S : List sT := []
def kdY1_A : sAs := ([], [], [], [])
def kdY1_P : List sP0 := [(43, (none, 3), (0, 255))]
def kdY1_G : List sP0 := []
def kdY1_B : List (Nat × Nat × Int) := []
def kdY1_m : sM := [(43, 3, 4)]
def kdY1_e0 : sXe := (46, [.inl sf32, .inl sf32, .inl sf32, .inl sf32, .inr (.inl 86)], [(0, .inr (.inl 0)), (1, .inl sf32)], sA0, [(0, 3, ([], 1), ([(0, 1)], 0)), (0, 1, ([(2, 1)], 0), ([], (-1))), (0, 2, ([(1, 1)], 0), ([(3, 1)], 0))], ([(43, (none, 3), ([(4, 1)], 0))], [(0, ([], 0)), (1, ([(0, 1)], 0)), (2, ([(0, 1)], 0)), (3, ([], 2))], [(1, ([(0, 1)], 0))], []), [], [])
theorem kdY1_b : syeB swC sT0 kdY1_m 400 0 97 kdY1_L kdY1_S kdY1_A kdY1_P kdY1_G kdY1_B 21 [kdY1_e0] [] = true := by decide +kernel
theorem kdY1 {l : Launch} {Γ : zG} {d : Nat} (hd : 0 ≤ d) {Kp : Option Value → zH → Prop} {lo : zL} {h : zH} {x w : Int} (hi : sInv swC h) (b_x : 0 ≤ x ∧ x ≤ 7) (b_w : 0 ≤ w ∧ w ≤ 255) (l0 : zget lo 0 = some (.ref 0)) (l1 : zI lo 1 x) (p_w : pI h 43 3 = w)
    (hE0 : ∀ (lo' : zL) (h' : zH) (w0 w1 w2 : Int) (y0 : Int32) (y1 : Int32) (y2 : Int32) (y3 : Int32), sInv swC h' → sMd kdY1_m h h' → w0 = sgfn 3 1 x → w1 = sgfn 1 w0 (-1) → w2 = sgfn 2 w w1 → pI h' 43 3 = w2 → zget lo' 0 = some (.ref 0) → zI lo' 1 x → y0.toInt = 0 → y1.toInt = x → y2.toInt = x → y3.toInt = 2 → zX l Γ false (d + 1) (zhd 97) (zMQ' Γ false (zhd 97) Kp) 0 0 46 lo' [.int y0, .int y1, .int y2, .int y3, .ref 86] h') : zX l Γ false (d + 1) (zhd 97) (zMQ' Γ false (zhd 97) Kp) 0 0 21 lo [] h := by
  refine sye_ok (mi := 97) (pc := 21) (fun i => [x, w].getD i 0) kdY1_b (fun _ _ hc _ => nomatch hc) hd ⟨l0, zIm l1 (by show 0 ≤ x; omega) (by show x ≤ 7; omega), trivial⟩ rfl ⟨(fun _ hc => nomatch hc), (fun _ hc => nomatch hc), (fun _ hc => nomatch hc), Or.inl rfl⟩ ⟨⟨p_w, by show 0 ≤ w; omega, by show w ≤ 255; omega⟩, trivial⟩ trivial (fun _ hc => nomatch hc) hi ?_ ?_
  · intro e he lo' st' h' hp hi' hm
    rcases List.mem_cons.mp he with rfl | he
    · obtain ⟨p1, p2, -, hz⟩ := hp
      obtain ⟨w0, f0, hz⟩ := hz
      obtain ⟨w1, f1, hz⟩ := hz
      obtain ⟨w2, f2, hz⟩ := hz
      obtain ⟨⟨z1, z2, z3, z4⟩, z5, z6⟩ := hz
      have g0 : w0 = sgfn 3 1 x := (show w0 = sgfn 3 (0 + 1) ((1 * x + 0) + 0) from f0).trans (sgfn_c (by omega) (by omega))
      have g1 : w1 = sgfn 1 w0 (-1) := (show w1 = sgfn 1 ((1 * w0 + 0) + 0) (0 + (-1)) from f1).trans (sgfn_c (by omega) (by omega))
      have g2 : w2 = sgfn 2 w w1 := (show w2 = sgfn 2 ((1 * w + 0) + 0) ((1 * w1 + 0) + 0) from f2).trans (sgfn_c (by omega) (by omega))
      have k0 : pI h' 43 3 = w2 := (show pI h' 43 3 = (1 * w2 + 0) + 0 from z1 (43, (none, 3), ([(4, 1)], 0)) (List.mem_of_getElem? (i := 0) rfl)).trans (by omega)
      have o0 : zget lo' 0 = some (.ref 0) := locR (p2 (0, .inr (.inl 0)) (List.mem_of_getElem? (i := 0) rfl))
      have o1 : zI lo' 1 x := zI_of (p2 (1, .inl sf32) (List.mem_of_getElem? (i := 1) rfl)) (z3 (1, ([(0, 1)], 0)) (List.mem_of_getElem? (i := 0) rfl)) (show (1 * x + 0) + 0 = x from by omega)
      obtain ⟨_, _, rfl, ⟨y0, rfl, -⟩, p1⟩ := p1
      obtain ⟨_, _, rfl, ⟨y1, rfl, -⟩, p1⟩ := p1
      obtain ⟨_, _, rfl, ⟨y2, rfl, -⟩, p1⟩ := p1
      obtain ⟨_, _, rfl, ⟨y3, rfl, -⟩, p1⟩ := p1
      obtain ⟨_, _, rfl, hr, p1⟩ := p1
      have hr : _ = Value.ref 86 := hr
      subst hr
      have p1 : _ = [] := p1
      subst p1
      obtain ⟨v_, ev, hv⟩ := z2 (0, ([], 0)) (List.mem_of_getElem? (i := 0) rfl)
      cases ev
      have s0 : y0.toInt = 0 := (show y0.toInt = 0 + 0 from hv).trans (by omega)
      obtain ⟨v_, ev, hv⟩ := z2 (1, ([(0, 1)], 0)) (List.mem_of_getElem? (i := 1) rfl)
      cases ev
      have s1 : y1.toInt = x := (show y1.toInt = (1 * x + 0) + 0 from hv).trans (by omega)
      obtain ⟨v_, ev, hv⟩ := z2 (2, ([(0, 1)], 0)) (List.mem_of_getElem? (i := 2) rfl)
      cases ev
      have s2 : y2.toInt = x := (show y2.toInt = (1 * x + 0) + 0 from hv).trans (by omega)
      obtain ⟨v_, ev, hv⟩ := z2 (3, ([], 2)) (List.mem_of_getElem? (i := 3) rfl)
      cases ev
      have s3 : y3.toInt = 2 := (show y3.toInt = 0 + 2 from hv).trans (by omega)
      exact hE0 lo' h' w0 w1 w2 y0 y1 y2 y3 hi' hm g0 g1 g2 k0 o0 o1 s0 s1 s2 s3
    cases he
  · intro e he r' h' hp hi' hm
    cases he
def kdY2_L : List (Nat × sT) := [(0, .inr (.inl 0))]
def kdY2_S : List sT := []
def kdY2_A : sAs := ([], [], [], [])
def kdY2_P : List sP0 := []
def kdY2_G : List sP0 := []
def kdY2_B : List (Nat × Nat × Int) := []
def kdY2_m : sM := []
def kdY2_r0 : sXr := (some (.inl sf32), sA0, [], ([], [(0, ([], 1))], [], []), [], [])
theorem kdY2_b : syeB swC sT0 kdY2_m 400 0 97 kdY2_L kdY2_S kdY2_A kdY2_P kdY2_G kdY2_B 49 [] [kdY2_r0] = true := by decide +kernel
theorem kdY2 {l : Launch} {Γ : zG} {d : Nat} (hd : 0 ≤ d) {Kp : Option Value → zH → Prop} {lo : zL} {h : zH} (hi : sInv swC h) (l0 : zget lo 0 = some (.ref 0))
    (hR0 : ∀ (h' : zH) (r_ : Int32), sInv swC h' → sMd kdY2_m h h' → r_.toInt = 1 → Kp (some (.int r_)) h') : zX l Γ false (d + 1) (zhd 97) (zMQ' Γ false (zhd 97) Kp) 0 0 49 lo [] h := by
  refine sye_ok (mi := 97) (pc := 49) (fun i => [].getD i 0) kdY2_b (fun _ _ hc _ => nomatch hc) hd ⟨l0, trivial⟩ rfl ⟨(fun _ hc => nomatch hc), (fun _ hc => nomatch hc), (fun _ hc => nomatch hc), Or.inl rfl⟩ trivial trivial (fun _ hc => nomatch hc) hi ?_ ?_
  · intro e he lo' st' h' hp hi' hm
    cases he
  · intro e he r' h' hp hi' hm
    rcases List.mem_cons.mp he with rfl | he
    · obtain ⟨p1, -, hz⟩ := hp
      obtain ⟨⟨z1, z2, z3, z4⟩, z5, z6⟩ := hz
      obtain ⟨r_, rfl, hv⟩ := ansI p1 (z2 (0, ([], 1)) (List.mem_of_getElem? (i := 0) rfl))
      have s0 : r_.toInt = 1 := (show r_.toInt = 0 + 1 from hv).trans (by omega)
      exact hR0 h' r_ hi' hm s0
    cases he
def kdP0_L (t : Nat) : List sT := [.inr (.inl 0), .inl sf32, .inl sf32, .inl sf32]
def kdP0_A (t : Nat) : sAs := ([], [(0, 5, (17 * t + 9))], [], [])
def kdP0_P (t : Nat) : List sP0 := [((17 * t + 12), (none, 3), (0, 8))]
def kdP0_G (t : Nat) : List sP0 := []
def kdP0_B (t : Nat) : List (Nat × Nat × Int) := []
def kdP0_m (t : Nat) : sM := []
def kdP0_e0 (t : Nat) : sXe := (34, [], [(0, .inr (.inl 0)), (1, .inl sf32), (2, .inl sf32), (3, .inl sf32)], sA0, [], ([], [], [(1, ([(0, 1)], 0)), (2, ([(1, 1)], 0)), (3, ([(2, 1)], 0))], [([(0, 1)], 0), ([(0, (-1))], 7), ([(0, (-1)), (3, 1)], (-1)), ([(1, 1)], 0), ([(1, (-1))], 7), ([(1, (-1)), (3, 1)], (-1)), ([(2, 1)], (-1)), ([(2, (-1))], 999)]), [(([(0, 1)], 0), ([(1, 1)], 0))], [])
def kdP0_r0 (t : Nat) : sXr := (some (.inl sf32), sA0, [], ([], [(0, ([], (-1)))], [], [([(0, (-1))], (-1))]), [], [])
def kdP0_r1 (t : Nat) : sXr := (some (.inl sf32), sA0, [], ([], [(0, ([], (-1)))], [], [([(0, 1)], 0), ([(0, 1)], (-8))]), [], [])
def kdP0_r2 (t : Nat) : sXr := (some (.inl sf32), sA0, [], ([], [(0, ([], (-1)))], [], [([(0, 1)], 0), ([(0, (-1))], 7), ([(0, (-1)), (3, 1)], (-1)), ([(1, (-1))], (-1))]), [], [])
def kdP0_r3 (t : Nat) : sXr := (some (.inl sf32), sA0, [], ([], [(0, ([], (-1)))], [], [([(0, 1)], 0), ([(0, (-1))], 7), ([(0, (-1)), (3, 1)], (-1)), ([(1, 1)], 0), ([(1, 1)], (-8))]), [], [])
def kdP0_r4 (t : Nat) : sXr := (some (.inl sf32), sA0, [], ([], [(0, ([], (-1)))], [], [([(0, 1)], 0), ([(0, (-1))], 7), ([(0, (-1)), (3, 1)], (-1)), ([(1, 1)], 0), ([(1, (-1))], 7), ([(1, (-1)), (3, 1)], (-1)), ([(0, 1), (1, (-1))], 0), ([(0, (-1)), (1, 1)], 0)]), [], [])
def kdP0_r5 (t : Nat) : sXr := (some (.inl sf32), sA0, [], ([], [(0, ([], (-1)))], [], [([(0, 1)], 0), ([(0, (-1))], 7), ([(0, (-1)), (3, 1)], (-1)), ([(1, 1)], 0), ([(1, (-1))], 7), ([(1, (-1)), (3, 1)], (-1)), ([(2, (-1))], 0)]), [(([(0, 1)], 0), ([(1, 1)], 0))], [])
def kdP0_r6 (t : Nat) : sXr := (some (.inl sf32), sA0, [], ([], [(0, ([], (-1)))], [], [([(0, 1)], 0), ([(0, (-1))], 7), ([(0, (-1)), (3, 1)], (-1)), ([(1, 1)], 0), ([(1, (-1))], 7), ([(1, (-1)), (3, 1)], (-1)), ([(2, 1)], (-1)), ([(2, 1)], (-1000))]), [(([(0, 1)], 0), ([(1, 1)], 0))], [])
def kdP0_r7 (t : Nat) : sXr := (some (.inl sf32), sA0, [], ([], [(0, ([], (-1)))], [], [([(0, 1)], 0), ([(0, (-1))], 7), ([(0, (-1)), (3, 1)], (-1)), ([(1, 1)], 0), ([(1, (-1))], 7), ([(1, 1), (3, (-1))], 0)]), [], [])
def kdP0_r8 (t : Nat) : sXr := (some (.inl sf32), sA0, [], ([], [(0, ([], (-1)))], [], [([(0, 1)], 0), ([(0, (-1))], 7), ([(0, 1), (3, (-1))], 0)]), [], [])
theorem kdP0_b : ((List.range 2).all fun t => syfB swC sT0 (kdP0_m t) 400 1 95 (kdP0_L t) (kdP0_A t) (kdP0_P t) (kdP0_G t) (kdP0_B t) [kdP0_e0 t] [kdP0_r0 t, kdP0_r1 t, kdP0_r2 t, kdP0_r3 t, kdP0_r4 t, kdP0_r5 t, kdP0_r6 t, kdP0_r7 t, kdP0_r8 t]) = true := by decide +kernel
theorem kdP0 {l : Launch} {Γ : zG} {d : Nat} (hd : 1 ≤ d) {Kp : Option Value → zH → Prop} {h : zH} {t : Nat} (h_t : t < 2) {x y z n : Int} (hi : sInv swC h) (b_x : (-2147483648) ≤ x ∧ x ≤ 2147483647) (b_y : (-2147483648) ≤ y ∧ y ≤ 2147483647) (b_z : (-2147483648) ≤ z ∧ z ≤ 2147483647) (b_n : 0 ≤ n ∧ n ≤ 8) {x_x : Int32} (e_x : x_x.toInt = x) {x_y : Int32} (e_y : x_y.toInt = y) {x_z : Int32} (e_z : x_z.toInt = z) (p_n : pI h (17 * t + 12) 3 = n) (q0 : h.2.2.2 0 5 = some (17 * t + 9))
    (hE0 : ∀ (lo' : zL) (h' : zH), sInv swC h' → sMd (kdP0_m t) h h' → 0 ≤ x → 0 ≤ -x + 7 → 0 ≤ -x + n - 1 → 0 ≤ y → 0 ≤ -y + 7 → 0 ≤ -y + n - 1 → 0 ≤ z - 1 → 0 ≤ -z + 999 → x ≠ y → zget lo' 0 = some (.ref 0) → zI lo' 1 x → zI lo' 2 y → zI lo' 3 z → zX l Γ false (d + 1) (zhd 95) (zMQ' Γ false (zhd 95) Kp) 0 0 34 lo' [] h')
    (hR0 : ∀ (h' : zH) (r_ : Int32), sInv swC h' → sMd (kdP0_m t) h h' → 0 ≤ -x - 1 → r_.toInt = (-1) → Kp (some (.int r_)) h')
    (hR1 : ∀ (h' : zH) (r_ : Int32), sInv swC h' → sMd (kdP0_m t) h h' → 0 ≤ x → 0 ≤ x - 8 → r_.toInt = (-1) → Kp (some (.int r_)) h')
    (hR2 : ∀ (h' : zH) (r_ : Int32), sInv swC h' → sMd (kdP0_m t) h h' → 0 ≤ x → 0 ≤ -x + 7 → 0 ≤ -x + n - 1 → 0 ≤ -y - 1 → r_.toInt = (-1) → Kp (some (.int r_)) h')
    (hR3 : ∀ (h' : zH) (r_ : Int32), sInv swC h' → sMd (kdP0_m t) h h' → 0 ≤ x → 0 ≤ -x + 7 → 0 ≤ -x + n - 1 → 0 ≤ y → 0 ≤ y - 8 → r_.toInt = (-1) → Kp (some (.int r_)) h')
    (hR4 : ∀ (h' : zH) (r_ : Int32), sInv swC h' → sMd (kdP0_m t) h h' → 0 ≤ x → 0 ≤ -x + 7 → 0 ≤ -x + n - 1 → 0 ≤ y → 0 ≤ -y + 7 → 0 ≤ -y + n - 1 → x = y → r_.toInt = (-1) → Kp (some (.int r_)) h')
    (hR5 : ∀ (h' : zH) (r_ : Int32), sInv swC h' → sMd (kdP0_m t) h h' → 0 ≤ x → 0 ≤ -x + 7 → 0 ≤ -x + n - 1 → 0 ≤ y → 0 ≤ -y + 7 → 0 ≤ -y + n - 1 → 0 ≤ -z → x ≠ y → r_.toInt = (-1) → Kp (some (.int r_)) h')
    (hR6 : ∀ (h' : zH) (r_ : Int32), sInv swC h' → sMd (kdP0_m t) h h' → 0 ≤ x → 0 ≤ -x + 7 → 0 ≤ -x + n - 1 → 0 ≤ y → 0 ≤ -y + 7 → 0 ≤ -y + n - 1 → 0 ≤ z - 1 → 0 ≤ z - 1000 → x ≠ y → r_.toInt = (-1) → Kp (some (.int r_)) h')
    (hR7 : ∀ (h' : zH) (r_ : Int32), sInv swC h' → sMd (kdP0_m t) h h' → 0 ≤ x → 0 ≤ -x + 7 → 0 ≤ -x + n - 1 → 0 ≤ y → 0 ≤ -y + 7 → 0 ≤ y - n → r_.toInt = (-1) → Kp (some (.int r_)) h')
    (hR8 : ∀ (h' : zH) (r_ : Int32), sInv swC h' → sMd (kdP0_m t) h h' → 0 ≤ x → 0 ≤ -x + 7 → 0 ≤ x - n → r_.toInt = (-1) → Kp (some (.int r_)) h') : zSem l Γ false (d + 1) (zhd 95) [.ref 0, .int x_x, .int x_y, .int x_z] h Kp := by
  refine syf_ok (mi := 95) (fun i => [x, y, z, n].getD i 0) (zall_r kdP0_b h_t) (fun _ _ hc _ => nomatch hc) hd ⟨_, _, rfl, rfl, ⟨_, _, rfl, ⟨x_x, rfl, by show (-2147483648) ≤ x_x.toInt; omega, by show x_x.toInt ≤ 2147483647; omega⟩, ⟨_, _, rfl, ⟨x_y, rfl, by show (-2147483648) ≤ x_y.toInt; omega, by show x_y.toInt ≤ 2147483647; omega⟩, ⟨_, _, rfl, ⟨x_z, rfl, by show (-2147483648) ≤ x_z.toInt; omega, by show x_z.toInt ≤ 2147483647; omega⟩, rfl⟩⟩⟩⟩ ⟨rfl, ⟨x_x, rfl, e_x, by show (-2147483648) ≤ x; omega, by show x ≤ 2147483647; omega⟩, ⟨x_y, rfl, e_y, by show (-2147483648) ≤ y; omega, by show y ≤ 2147483647; omega⟩, ⟨x_z, rfl, e_z, by show (-2147483648) ≤ z; omega, by show z ≤ 2147483647; omega⟩, trivial⟩ ⟨(fun _ hc => nomatch hc), (sfm q0 (fun _ hc => nomatch hc)), (fun _ hc => nomatch hc), Or.inl rfl⟩ ⟨⟨p_n, by show 0 ≤ n; omega, by show n ≤ 8; omega⟩, trivial⟩ trivial (fun _ hc => nomatch hc) hi ?_ ?_
  · intro e he lo' st' h' hp hi' hm
    rcases List.mem_cons.mp he with rfl | he
    · obtain ⟨p1, p2, -, hz⟩ := hp
      obtain ⟨⟨z1, z2, z3, z4⟩, z5, z6⟩ := hz
      have c0 : 0 ≤ x := by have q_ : (0 : Int) ≤ (1 * x + 0) + 0 := z4 ([(0, 1)], 0) (List.mem_of_getElem? (i := 0) rfl); omega
      have c1 : 0 ≤ -x + 7 := by have q_ : (0 : Int) ≤ ((-1) * x + 0) + 7 := z4 ([(0, (-1))], 7) (List.mem_of_getElem? (i := 1) rfl); omega
      have c2 : 0 ≤ -x + n - 1 := by have q_ : (0 : Int) ≤ ((-1) * x + (1 * n + 0)) + (-1) := z4 ([(0, (-1)), (3, 1)], (-1)) (List.mem_of_getElem? (i := 2) rfl); omega
      have c3 : 0 ≤ y := by have q_ : (0 : Int) ≤ (1 * y + 0) + 0 := z4 ([(1, 1)], 0) (List.mem_of_getElem? (i := 3) rfl); omega
      have c4 : 0 ≤ -y + 7 := by have q_ : (0 : Int) ≤ ((-1) * y + 0) + 7 := z4 ([(1, (-1))], 7) (List.mem_of_getElem? (i := 4) rfl); omega
      have c5 : 0 ≤ -y + n - 1 := by have q_ : (0 : Int) ≤ ((-1) * y + (1 * n + 0)) + (-1) := z4 ([(1, (-1)), (3, 1)], (-1)) (List.mem_of_getElem? (i := 5) rfl); omega
      have c6 : 0 ≤ z - 1 := by have q_ : (0 : Int) ≤ (1 * z + 0) + (-1) := z4 ([(2, 1)], (-1)) (List.mem_of_getElem? (i := 6) rfl); omega
      have c7 : 0 ≤ -z + 999 := by have q_ : (0 : Int) ≤ ((-1) * z + 0) + 999 := z4 ([(2, (-1))], 999) (List.mem_of_getElem? (i := 7) rfl); omega
      have n0 : x ≠ y := fun e_ => z5 (([(0, 1)], 0), ([(1, 1)], 0)) (List.mem_of_getElem? (i := 0) rfl) (by show (1 * x + 0) + 0 = (1 * y + 0) + 0; omega)
      have o0 : zget lo' 0 = some (.ref 0) := locR (p2 (0, .inr (.inl 0)) (List.mem_of_getElem? (i := 0) rfl))
      have o1 : zI lo' 1 x := zI_of (p2 (1, .inl sf32) (List.mem_of_getElem? (i := 1) rfl)) (z3 (1, ([(0, 1)], 0)) (List.mem_of_getElem? (i := 0) rfl)) (show (1 * x + 0) + 0 = x from by omega)
      have o2 : zI lo' 2 y := zI_of (p2 (2, .inl sf32) (List.mem_of_getElem? (i := 2) rfl)) (z3 (2, ([(1, 1)], 0)) (List.mem_of_getElem? (i := 1) rfl)) (show (1 * y + 0) + 0 = y from by omega)
      have o3 : zI lo' 3 z := zI_of (p2 (3, .inl sf32) (List.mem_of_getElem? (i := 3) rfl)) (z3 (3, ([(2, 1)], 0)) (List.mem_of_getElem? (i := 2) rfl)) (show (1 * z + 0) + 0 = z from by omega)
      have p1 : _ = [] := p1
      subst p1
      exact hE0 lo' h' hi' hm c0 c1 c2 c3 c4 c5 c6 c7 n0 o0 o1 o2 o3
    cases he
  · intro e he r' h' hp hi' hm
    rcases List.mem_cons.mp he with rfl | he
    · obtain ⟨p1, -, hz⟩ := hp
      obtain ⟨⟨z1, z2, z3, z4⟩, z5, z6⟩ := hz
      have c0 : 0 ≤ -x - 1 := by have q_ : (0 : Int) ≤ ((-1) * x + 0) + (-1) := z4 ([(0, (-1))], (-1)) (List.mem_of_getElem? (i := 0) rfl); omega
      obtain ⟨r_, rfl, hv⟩ := ansI p1 (z2 (0, ([], (-1))) (List.mem_of_getElem? (i := 0) rfl))
      have s0 : r_.toInt = (-1) := (show r_.toInt = 0 + (-1) from hv).trans (by omega)
      exact hR0 h' r_ hi' hm c0 s0
    rcases List.mem_cons.mp he with rfl | he
    · obtain ⟨p1, -, hz⟩ := hp
      obtain ⟨⟨z1, z2, z3, z4⟩, z5, z6⟩ := hz
      have c0 : 0 ≤ x := by have q_ : (0 : Int) ≤ (1 * x + 0) + 0 := z4 ([(0, 1)], 0) (List.mem_of_getElem? (i := 0) rfl); omega
      have c1 : 0 ≤ x - 8 := by have q_ : (0 : Int) ≤ (1 * x + 0) + (-8) := z4 ([(0, 1)], (-8)) (List.mem_of_getElem? (i := 1) rfl); omega
      obtain ⟨r_, rfl, hv⟩ := ansI p1 (z2 (0, ([], (-1))) (List.mem_of_getElem? (i := 0) rfl))
      have s0 : r_.toInt = (-1) := (show r_.toInt = 0 + (-1) from hv).trans (by omega)
      exact hR1 h' r_ hi' hm c0 c1 s0
    rcases List.mem_cons.mp he with rfl | he
    · obtain ⟨p1, -, hz⟩ := hp
      obtain ⟨⟨z1, z2, z3, z4⟩, z5, z6⟩ := hz
      have c0 : 0 ≤ x := by have q_ : (0 : Int) ≤ (1 * x + 0) + 0 := z4 ([(0, 1)], 0) (List.mem_of_getElem? (i := 0) rfl); omega
      have c1 : 0 ≤ -x + 7 := by have q_ : (0 : Int) ≤ ((-1) * x + 0) + 7 := z4 ([(0, (-1))], 7) (List.mem_of_getElem? (i := 1) rfl); omega
      have c2 : 0 ≤ -x + n - 1 := by have q_ : (0 : Int) ≤ ((-1) * x + (1 * n + 0)) + (-1) := z4 ([(0, (-1)), (3, 1)], (-1)) (List.mem_of_getElem? (i := 2) rfl); omega
      have c3 : 0 ≤ -y - 1 := by have q_ : (0 : Int) ≤ ((-1) * y + 0) + (-1) := z4 ([(1, (-1))], (-1)) (List.mem_of_getElem? (i := 3) rfl); omega
      obtain ⟨r_, rfl, hv⟩ := ansI p1 (z2 (0, ([], (-1))) (List.mem_of_getElem? (i := 0) rfl))
      have s0 : r_.toInt = (-1) := (show r_.toInt = 0 + (-1) from hv).trans (by omega)
      exact hR2 h' r_ hi' hm c0 c1 c2 c3 s0
    rcases List.mem_cons.mp he with rfl | he
    · obtain ⟨p1, -, hz⟩ := hp
      obtain ⟨⟨z1, z2, z3, z4⟩, z5, z6⟩ := hz
      have c0 : 0 ≤ x := by have q_ : (0 : Int) ≤ (1 * x + 0) + 0 := z4 ([(0, 1)], 0) (List.mem_of_getElem? (i := 0) rfl); omega
      have c1 : 0 ≤ -x + 7 := by have q_ : (0 : Int) ≤ ((-1) * x + 0) + 7 := z4 ([(0, (-1))], 7) (List.mem_of_getElem? (i := 1) rfl); omega
      have c2 : 0 ≤ -x + n - 1 := by have q_ : (0 : Int) ≤ ((-1) * x + (1 * n + 0)) + (-1) := z4 ([(0, (-1)), (3, 1)], (-1)) (List.mem_of_getElem? (i := 2) rfl); omega
      have c3 : 0 ≤ y := by have q_ : (0 : Int) ≤ (1 * y + 0) + 0 := z4 ([(1, 1)], 0) (List.mem_of_getElem? (i := 3) rfl); omega
      have c4 : 0 ≤ y - 8 := by have q_ : (0 : Int) ≤ (1 * y + 0) + (-8) := z4 ([(1, 1)], (-8)) (List.mem_of_getElem? (i := 4) rfl); omega
      obtain ⟨r_, rfl, hv⟩ := ansI p1 (z2 (0, ([], (-1))) (List.mem_of_getElem? (i := 0) rfl))
      have s0 : r_.toInt = (-1) := (show r_.toInt = 0 + (-1) from hv).trans (by omega)
      exact hR3 h' r_ hi' hm c0 c1 c2 c3 c4 s0
    rcases List.mem_cons.mp he with rfl | he
    · obtain ⟨p1, -, hz⟩ := hp
      obtain ⟨⟨z1, z2, z3, z4⟩, z5, z6⟩ := hz
      have c0 : 0 ≤ x := by have q_ : (0 : Int) ≤ (1 * x + 0) + 0 := z4 ([(0, 1)], 0) (List.mem_of_getElem? (i := 0) rfl); omega
      have c1 : 0 ≤ -x + 7 := by have q_ : (0 : Int) ≤ ((-1) * x + 0) + 7 := z4 ([(0, (-1))], 7) (List.mem_of_getElem? (i := 1) rfl); omega
      have c2 : 0 ≤ -x + n - 1 := by have q_ : (0 : Int) ≤ ((-1) * x + (1 * n + 0)) + (-1) := z4 ([(0, (-1)), (3, 1)], (-1)) (List.mem_of_getElem? (i := 2) rfl); omega
      have c3 : 0 ≤ y := by have q_ : (0 : Int) ≤ (1 * y + 0) + 0 := z4 ([(1, 1)], 0) (List.mem_of_getElem? (i := 3) rfl); omega
      have c4 : 0 ≤ -y + 7 := by have q_ : (0 : Int) ≤ ((-1) * y + 0) + 7 := z4 ([(1, (-1))], 7) (List.mem_of_getElem? (i := 4) rfl); omega
      have c5 : 0 ≤ -y + n - 1 := by have q_ : (0 : Int) ≤ ((-1) * y + (1 * n + 0)) + (-1) := z4 ([(1, (-1)), (3, 1)], (-1)) (List.mem_of_getElem? (i := 5) rfl); omega
      have c6 : x = y := by have q_ : (0 : Int) ≤ (1 * x + ((-1) * y + 0)) + 0 := z4 ([(0, 1), (1, (-1))], 0) (List.mem_of_getElem? (i := 6) rfl); have q2_ : (0 : Int) ≤ ((-1) * x + (1 * y + 0)) + 0 := z4 ([(0, (-1)), (1, 1)], 0) (List.mem_of_getElem? (i := 7) rfl); omega
      obtain ⟨r_, rfl, hv⟩ := ansI p1 (z2 (0, ([], (-1))) (List.mem_of_getElem? (i := 0) rfl))
      have s0 : r_.toInt = (-1) := (show r_.toInt = 0 + (-1) from hv).trans (by omega)
      exact hR4 h' r_ hi' hm c0 c1 c2 c3 c4 c5 c6 s0
    rcases List.mem_cons.mp he with rfl | he
    · obtain ⟨p1, -, hz⟩ := hp
      obtain ⟨⟨z1, z2, z3, z4⟩, z5, z6⟩ := hz
      have c0 : 0 ≤ x := by have q_ : (0 : Int) ≤ (1 * x + 0) + 0 := z4 ([(0, 1)], 0) (List.mem_of_getElem? (i := 0) rfl); omega
      have c1 : 0 ≤ -x + 7 := by have q_ : (0 : Int) ≤ ((-1) * x + 0) + 7 := z4 ([(0, (-1))], 7) (List.mem_of_getElem? (i := 1) rfl); omega
      have c2 : 0 ≤ -x + n - 1 := by have q_ : (0 : Int) ≤ ((-1) * x + (1 * n + 0)) + (-1) := z4 ([(0, (-1)), (3, 1)], (-1)) (List.mem_of_getElem? (i := 2) rfl); omega
      have c3 : 0 ≤ y := by have q_ : (0 : Int) ≤ (1 * y + 0) + 0 := z4 ([(1, 1)], 0) (List.mem_of_getElem? (i := 3) rfl); omega
      have c4 : 0 ≤ -y + 7 := by have q_ : (0 : Int) ≤ ((-1) * y + 0) + 7 := z4 ([(1, (-1))], 7) (List.mem_of_getElem? (i := 4) rfl); omega
      have c5 : 0 ≤ -y + n - 1 := by have q_ : (0 : Int) ≤ ((-1) * y + (1 * n + 0)) + (-1) := z4 ([(1, (-1)), (3, 1)], (-1)) (List.mem_of_getElem? (i := 5) rfl); omega
      have c6 : 0 ≤ -z := by have q_ : (0 : Int) ≤ ((-1) * z + 0) + 0 := z4 ([(2, (-1))], 0) (List.mem_of_getElem? (i := 6) rfl); omega
      have n0 : x ≠ y := fun e_ => z5 (([(0, 1)], 0), ([(1, 1)], 0)) (List.mem_of_getElem? (i := 0) rfl) (by show (1 * x + 0) + 0 = (1 * y + 0) + 0; omega)
      obtain ⟨r_, rfl, hv⟩ := ansI p1 (z2 (0, ([], (-1))) (List.mem_of_getElem? (i := 0) rfl))
      have s0 : r_.toInt = (-1) := (show r_.toInt = 0 + (-1) from hv).trans (by omega)
      exact hR5 h' r_ hi' hm c0 c1 c2 c3 c4 c5 c6 n0 s0
    rcases List.mem_cons.mp he with rfl | he
    · obtain ⟨p1, -, hz⟩ := hp
      obtain ⟨⟨z1, z2, z3, z4⟩, z5, z6⟩ := hz
      have c0 : 0 ≤ x := by have q_ : (0 : Int) ≤ (1 * x + 0) + 0 := z4 ([(0, 1)], 0) (List.mem_of_getElem? (i := 0) rfl); omega
      have c1 : 0 ≤ -x + 7 := by have q_ : (0 : Int) ≤ ((-1) * x + 0) + 7 := z4 ([(0, (-1))], 7) (List.mem_of_getElem? (i := 1) rfl); omega
      have c2 : 0 ≤ -x + n - 1 := by have q_ : (0 : Int) ≤ ((-1) * x + (1 * n + 0)) + (-1) := z4 ([(0, (-1)), (3, 1)], (-1)) (List.mem_of_getElem? (i := 2) rfl); omega
      have c3 : 0 ≤ y := by have q_ : (0 : Int) ≤ (1 * y + 0) + 0 := z4 ([(1, 1)], 0) (List.mem_of_getElem? (i := 3) rfl); omega
      have c4 : 0 ≤ -y + 7 := by have q_ : (0 : Int) ≤ ((-1) * y + 0) + 7 := z4 ([(1, (-1))], 7) (List.mem_of_getElem? (i := 4) rfl); omega
      have c5 : 0 ≤ -y + n - 1 := by have q_ : (0 : Int) ≤ ((-1) * y + (1 * n + 0)) + (-1) := z4 ([(1, (-1)), (3, 1)], (-1)) (List.mem_of_getElem? (i := 5) rfl); omega
      have c6 : 0 ≤ z - 1 := by have q_ : (0 : Int) ≤ (1 * z + 0) + (-1) := z4 ([(2, 1)], (-1)) (List.mem_of_getElem? (i := 6) rfl); omega
      have c7 : 0 ≤ z - 1000 := by have q_ : (0 : Int) ≤ (1 * z + 0) + (-1000) := z4 ([(2, 1)], (-1000)) (List.mem_of_getElem? (i := 7) rfl); omega
      have n0 : x ≠ y := fun e_ => z5 (([(0, 1)], 0), ([(1, 1)], 0)) (List.mem_of_getElem? (i := 0) rfl) (by show (1 * x + 0) + 0 = (1 * y + 0) + 0; omega)
      obtain ⟨r_, rfl, hv⟩ := ansI p1 (z2 (0, ([], (-1))) (List.mem_of_getElem? (i := 0) rfl))
      have s0 : r_.toInt = (-1) := (show r_.toInt = 0 + (-1) from hv).trans (by omega)
      exact hR6 h' r_ hi' hm c0 c1 c2 c3 c4 c5 c6 c7 n0 s0
    rcases List.mem_cons.mp he with rfl | he
    · obtain ⟨p1, -, hz⟩ := hp
      obtain ⟨⟨z1, z2, z3, z4⟩, z5, z6⟩ := hz
      have c0 : 0 ≤ x := by have q_ : (0 : Int) ≤ (1 * x + 0) + 0 := z4 ([(0, 1)], 0) (List.mem_of_getElem? (i := 0) rfl); omega
      have c1 : 0 ≤ -x + 7 := by have q_ : (0 : Int) ≤ ((-1) * x + 0) + 7 := z4 ([(0, (-1))], 7) (List.mem_of_getElem? (i := 1) rfl); omega
      have c2 : 0 ≤ -x + n - 1 := by have q_ : (0 : Int) ≤ ((-1) * x + (1 * n + 0)) + (-1) := z4 ([(0, (-1)), (3, 1)], (-1)) (List.mem_of_getElem? (i := 2) rfl); omega
      have c3 : 0 ≤ y := by have q_ : (0 : Int) ≤ (1 * y + 0) + 0 := z4 ([(1, 1)], 0) (List.mem_of_getElem? (i := 3) rfl); omega
      have c4 : 0 ≤ -y + 7 := by have q_ : (0 : Int) ≤ ((-1) * y + 0) + 7 := z4 ([(1, (-1))], 7) (List.mem_of_getElem? (i := 4) rfl); omega
      have c5 : 0 ≤ y - n := by have q_ : (0 : Int) ≤ (1 * y + ((-1) * n + 0)) + 0 := z4 ([(1, 1), (3, (-1))], 0) (List.mem_of_getElem? (i := 5) rfl); omega
      obtain ⟨r_, rfl, hv⟩ := ansI p1 (z2 (0, ([], (-1))) (List.mem_of_getElem? (i := 0) rfl))
      have s0 : r_.toInt = (-1) := (show r_.toInt = 0 + (-1) from hv).trans (by omega)
      exact hR7 h' r_ hi' hm c0 c1 c2 c3 c4 c5 s0
    rcases List.mem_cons.mp he with rfl | he
    · obtain ⟨p1, -, hz⟩ := hp
      obtain ⟨⟨z1, z2, z3, z4⟩, z5, z6⟩ := hz
      have c0 : 0 ≤ x := by have q_ : (0 : Int) ≤ (1 * x + 0) + 0 := z4 ([(0, 1)], 0) (List.mem_of_getElem? (i := 0) rfl); omega
      have c1 : 0 ≤ -x + 7 := by have q_ : (0 : Int) ≤ ((-1) * x + 0) + 7 := z4 ([(0, (-1))], 7) (List.mem_of_getElem? (i := 1) rfl); omega
      have c2 : 0 ≤ x - n := by have q_ : (0 : Int) ≤ (1 * x + ((-1) * n + 0)) + 0 := z4 ([(0, 1), (3, (-1))], 0) (List.mem_of_getElem? (i := 2) rfl); omega
      obtain ⟨r_, rfl, hv⟩ := ansI p1 (z2 (0, ([], (-1))) (List.mem_of_getElem? (i := 0) rfl))
      have s0 : r_.toInt = (-1) := (show r_.toInt = 0 + (-1) from hv).trans (by omega)
      exact hR8 h' r_ hi' hm c0 c1 c2 s0
    cases he
def kdP1_L : List (Nat × sT) := [(0, .inr (.inl 0)), (1, .inl (0, 7)), (2, .inl (0, 7)), (3, .inl (1, 999))]
def kdP1_S : List sT := []
def kdP1_A : sAs := ([], [], [], [])
def kdP1_P : List sP0 := [(45, (some 0, 0), (0, 999)), (44, (some 1, 0), (0, 999))]
def kdP1_G : List sP0 := []
def kdP1_B : List (Nat × Nat × Int) := []
def kdP1_m : sM := []
def kdP1_e0 : sXe := (76, [.inl sf32, .inl sf32, .inl sf32, .inr (.inl 43)], [(0, .inr (.inl 0)), (1, .inl sf32), (2, .inl sf32), (3, .inl sf32)], sA0, [], ([], [(0, ([(2, 1)], 0)), (1, ([(1, 1)], 0)), (2, ([(0, 1)], 0))], [(1, ([(0, 1)], 0)), (2, ([(1, 1)], 0)), (3, ([(2, 1)], 0))], [([(2, (-1)), (3, 1)], 0), ([(2, (-1)), (4, (-1))], 999)]), [], [])
def kdP1_r0 : sXr := (some (.inl sf32), sA0, [], ([], [(0, ([], (-1)))], [], [([(2, (-1)), (3, 1)], 0), ([(2, 1), (4, 1)], (-1000))]), [], [])
def kdP1_r1 : sXr := (some (.inl sf32), sA0, [], ([], [(0, ([], (-2)))], [], [([(2, 1), (3, (-1))], (-1))]), [], [])
theorem kdP1_b : syeB swC sT0 kdP1_m 400 0 95 kdP1_L kdP1_S kdP1_A kdP1_P kdP1_G kdP1_B 34 [kdP1_e0] [kdP1_r0, kdP1_r1] = true := by decide +kernel
theorem kdP1 {l : Launch} {Γ : zG} {d : Nat} (hd : 0 ≤ d) {Kp : Option Value → zH → Prop} {lo : zL} {h : zH} {x y z bl ab : Int} (hi : sInv swC h) (b_x : 0 ≤ x ∧ x ≤ 7) (b_y : 0 ≤ y ∧ y ≤ 7) (b_z : 1 ≤ z ∧ z ≤ 999) (b_bl : 0 ≤ bl ∧ bl ≤ 999) (b_ab : 0 ≤ ab ∧ ab ≤ 999) (l0 : zget lo 0 = some (.ref 0)) (l1 : zI lo 1 x) (l2 : zI lo 2 y) (l3 : zI lo 3 z) (p_bl : pI h 45 (x + 0).toNat = bl) (p_ab : pI h 44 (y + 0).toNat = ab)
    (hE0 : ∀ (lo' : zL) (h' : zH) (y0 : Int32) (y1 : Int32) (y2 : Int32), sInv swC h' → sMd kdP1_m h h' → 0 ≤ -z + bl → 0 ≤ -z - ab + 999 → zget lo' 0 = some (.ref 0) → zI lo' 1 x → zI lo' 2 y → zI lo' 3 z → y0.toInt = z → y1.toInt = y → y2.toInt = x → zX l Γ false (d + 1) (zhd 95) (zMQ' Γ false (zhd 95) Kp) 0 0 76 lo' [.int y0, .int y1, .int y2, .ref 43] h')
    (hR0 : ∀ (h' : zH) (r_ : Int32), sInv swC h' → sMd kdP1_m h h' → 0 ≤ -z + bl → 0 ≤ z + ab - 1000 → r_.toInt = (-1) → Kp (some (.int r_)) h')
    (hR1 : ∀ (h' : zH) (r_ : Int32), sInv swC h' → sMd kdP1_m h h' → 0 ≤ z - bl - 1 → r_.toInt = (-2) → Kp (some (.int r_)) h') : zX l Γ false (d + 1) (zhd 95) (zMQ' Γ false (zhd 95) Kp) 0 0 34 lo [] h := by
  refine sye_ok (mi := 95) (pc := 34) (fun i => [x, y, z, bl, ab].getD i 0) kdP1_b (fun _ _ hc _ => nomatch hc) hd ⟨l0, zIm l1 (by show 0 ≤ x; omega) (by show x ≤ 7; omega), zIm l2 (by show 0 ≤ y; omega) (by show y ≤ 7; omega), zIm l3 (by show 1 ≤ z; omega) (by show z ≤ 999; omega), trivial⟩ rfl ⟨(fun _ hc => nomatch hc), (fun _ hc => nomatch hc), (fun _ hc => nomatch hc), Or.inl rfl⟩ ⟨⟨p_bl, by show 0 ≤ bl; omega, by show bl ≤ 999; omega⟩, ⟨p_ab, by show 0 ≤ ab; omega, by show ab ≤ 999; omega⟩, trivial⟩ trivial (fun _ hc => nomatch hc) hi ?_ ?_
  · intro e he lo' st' h' hp hi' hm
    rcases List.mem_cons.mp he with rfl | he
    · obtain ⟨p1, p2, -, hz⟩ := hp
      obtain ⟨⟨z1, z2, z3, z4⟩, z5, z6⟩ := hz
      have c0 : 0 ≤ -z + bl := by have q_ : (0 : Int) ≤ ((-1) * z + (1 * bl + 0)) + 0 := z4 ([(2, (-1)), (3, 1)], 0) (List.mem_of_getElem? (i := 0) rfl); omega
      have c1 : 0 ≤ -z - ab + 999 := by have q_ : (0 : Int) ≤ ((-1) * z + ((-1) * ab + 0)) + 999 := z4 ([(2, (-1)), (4, (-1))], 999) (List.mem_of_getElem? (i := 1) rfl); omega
      have o0 : zget lo' 0 = some (.ref 0) := locR (p2 (0, .inr (.inl 0)) (List.mem_of_getElem? (i := 0) rfl))
      have o1 : zI lo' 1 x := zI_of (p2 (1, .inl sf32) (List.mem_of_getElem? (i := 1) rfl)) (z3 (1, ([(0, 1)], 0)) (List.mem_of_getElem? (i := 0) rfl)) (show (1 * x + 0) + 0 = x from by omega)
      have o2 : zI lo' 2 y := zI_of (p2 (2, .inl sf32) (List.mem_of_getElem? (i := 2) rfl)) (z3 (2, ([(1, 1)], 0)) (List.mem_of_getElem? (i := 1) rfl)) (show (1 * y + 0) + 0 = y from by omega)
      have o3 : zI lo' 3 z := zI_of (p2 (3, .inl sf32) (List.mem_of_getElem? (i := 3) rfl)) (z3 (3, ([(2, 1)], 0)) (List.mem_of_getElem? (i := 2) rfl)) (show (1 * z + 0) + 0 = z from by omega)
      obtain ⟨_, _, rfl, ⟨y0, rfl, -⟩, p1⟩ := p1
      obtain ⟨_, _, rfl, ⟨y1, rfl, -⟩, p1⟩ := p1
      obtain ⟨_, _, rfl, ⟨y2, rfl, -⟩, p1⟩ := p1
      obtain ⟨_, _, rfl, hr, p1⟩ := p1
      have hr : _ = Value.ref 43 := hr
      subst hr
      have p1 : _ = [] := p1
      subst p1
      obtain ⟨v_, ev, hv⟩ := z2 (0, ([(2, 1)], 0)) (List.mem_of_getElem? (i := 0) rfl)
      cases ev
      have s0 : y0.toInt = z := (show y0.toInt = (1 * z + 0) + 0 from hv).trans (by omega)
      obtain ⟨v_, ev, hv⟩ := z2 (1, ([(1, 1)], 0)) (List.mem_of_getElem? (i := 1) rfl)
      cases ev
      have s1 : y1.toInt = y := (show y1.toInt = (1 * y + 0) + 0 from hv).trans (by omega)
      obtain ⟨v_, ev, hv⟩ := z2 (2, ([(0, 1)], 0)) (List.mem_of_getElem? (i := 2) rfl)
      cases ev
      have s2 : y2.toInt = x := (show y2.toInt = (1 * x + 0) + 0 from hv).trans (by omega)
      exact hE0 lo' h' y0 y1 y2 hi' hm c0 c1 o0 o1 o2 o3 s0 s1 s2
    cases he
  · intro e he r' h' hp hi' hm
    rcases List.mem_cons.mp he with rfl | he
    · obtain ⟨p1, -, hz⟩ := hp
      obtain ⟨⟨z1, z2, z3, z4⟩, z5, z6⟩ := hz
      have c0 : 0 ≤ -z + bl := by have q_ : (0 : Int) ≤ ((-1) * z + (1 * bl + 0)) + 0 := z4 ([(2, (-1)), (3, 1)], 0) (List.mem_of_getElem? (i := 0) rfl); omega
      have c1 : 0 ≤ z + ab - 1000 := by have q_ : (0 : Int) ≤ (1 * z + (1 * ab + 0)) + (-1000) := z4 ([(2, 1), (4, 1)], (-1000)) (List.mem_of_getElem? (i := 1) rfl); omega
      obtain ⟨r_, rfl, hv⟩ := ansI p1 (z2 (0, ([], (-1))) (List.mem_of_getElem? (i := 0) rfl))
      have s0 : r_.toInt = (-1) := (show r_.toInt = 0 + (-1) from hv).trans (by omega)
      exact hR0 h' r_ hi' hm c0 c1 s0
    rcases List.mem_cons.mp he with rfl | he
    · obtain ⟨p1, -, hz⟩ := hp
      obtain ⟨⟨z1, z2, z3, z4⟩, z5, z6⟩ := hz
      have c0 : 0 ≤ z - bl - 1 := by have q_ : (0 : Int) ≤ (1 * z + ((-1) * bl + 0)) + (-1) := z4 ([(2, 1), (3, (-1))], (-1)) (List.mem_of_getElem? (i := 0) rfl); omega
      obtain ⟨r_, rfl, hv⟩ := ansI p1 (z2 (0, ([], (-2))) (List.mem_of_getElem? (i := 0) rfl))
      have s0 : r_.toInt = (-2) := (show r_.toInt = 0 + (-2) from hv).trans (by omega)
      exact hR1 h' r_ hi' hm c0 s0
    cases he
def kdP2_L : List (Nat × sT) := [(0, .inr (.inl 0)), (1, .inl (0, 7)), (2, .inl (0, 7)), (3, .inl (1, 999))]
def kdP2_S : List sT := []
def kdP2_A : sAs := ([], [], [], [])
def kdP2_P : List sP0 := []
def kdP2_G : List sP0 := []
def kdP2_B : List (Nat × Nat × Int) := []
def kdP2_m : sM := []
def kdP2_e0 : sXe := (87, [.inl sf32, .inl sf32, .inl sf32, .inl sf32, .inr (.inl 86)], [(0, .inr (.inl 0)), (1, .inl sf32)], sA0, [], ([], [(0, ([(2, 1)], 0)), (1, ([(1, 1)], 0)), (2, ([(0, 1)], 0)), (3, ([], 1))], [(1, ([(0, 1)], 0))], []), [], [])
theorem kdP2_b : syeB swC sT0 kdP2_m 400 0 95 kdP2_L kdP2_S kdP2_A kdP2_P kdP2_G kdP2_B 79 [kdP2_e0] [] = true := by decide +kernel
theorem kdP2 {l : Launch} {Γ : zG} {d : Nat} (hd : 0 ≤ d) {Kp : Option Value → zH → Prop} {lo : zL} {h : zH} {x y z : Int} (hi : sInv swC h) (b_x : 0 ≤ x ∧ x ≤ 7) (b_y : 0 ≤ y ∧ y ≤ 7) (b_z : 1 ≤ z ∧ z ≤ 999) (l0 : zget lo 0 = some (.ref 0)) (l1 : zI lo 1 x) (l2 : zI lo 2 y) (l3 : zI lo 3 z)
    (hE0 : ∀ (lo' : zL) (h' : zH) (y0 : Int32) (y1 : Int32) (y2 : Int32) (y3 : Int32), sInv swC h' → sMd kdP2_m h h' → zget lo' 0 = some (.ref 0) → zI lo' 1 x → y0.toInt = z → y1.toInt = y → y2.toInt = x → y3.toInt = 1 → zX l Γ false (d + 1) (zhd 95) (zMQ' Γ false (zhd 95) Kp) 0 0 87 lo' [.int y0, .int y1, .int y2, .int y3, .ref 86] h') : zX l Γ false (d + 1) (zhd 95) (zMQ' Γ false (zhd 95) Kp) 0 0 79 lo [] h := by
  refine sye_ok (mi := 95) (pc := 79) (fun i => [x, y, z].getD i 0) kdP2_b (fun _ _ hc _ => nomatch hc) hd ⟨l0, zIm l1 (by show 0 ≤ x; omega) (by show x ≤ 7; omega), zIm l2 (by show 0 ≤ y; omega) (by show y ≤ 7; omega), zIm l3 (by show 1 ≤ z; omega) (by show z ≤ 999; omega), trivial⟩ rfl ⟨(fun _ hc => nomatch hc), (fun _ hc => nomatch hc), (fun _ hc => nomatch hc), Or.inl rfl⟩ trivial trivial (fun _ hc => nomatch hc) hi ?_ ?_
  · intro e he lo' st' h' hp hi' hm
    rcases List.mem_cons.mp he with rfl | he
    · obtain ⟨p1, p2, -, hz⟩ := hp
      obtain ⟨⟨z1, z2, z3, z4⟩, z5, z6⟩ := hz
      have o0 : zget lo' 0 = some (.ref 0) := locR (p2 (0, .inr (.inl 0)) (List.mem_of_getElem? (i := 0) rfl))
      have o1 : zI lo' 1 x := zI_of (p2 (1, .inl sf32) (List.mem_of_getElem? (i := 1) rfl)) (z3 (1, ([(0, 1)], 0)) (List.mem_of_getElem? (i := 0) rfl)) (show (1 * x + 0) + 0 = x from by omega)
      obtain ⟨_, _, rfl, ⟨y0, rfl, -⟩, p1⟩ := p1
      obtain ⟨_, _, rfl, ⟨y1, rfl, -⟩, p1⟩ := p1
      obtain ⟨_, _, rfl, ⟨y2, rfl, -⟩, p1⟩ := p1
      obtain ⟨_, _, rfl, ⟨y3, rfl, -⟩, p1⟩ := p1
      obtain ⟨_, _, rfl, hr, p1⟩ := p1
      have hr : _ = Value.ref 86 := hr
      subst hr
      have p1 : _ = [] := p1
      subst p1
      obtain ⟨v_, ev, hv⟩ := z2 (0, ([(2, 1)], 0)) (List.mem_of_getElem? (i := 0) rfl)
      cases ev
      have s0 : y0.toInt = z := (show y0.toInt = (1 * z + 0) + 0 from hv).trans (by omega)
      obtain ⟨v_, ev, hv⟩ := z2 (1, ([(1, 1)], 0)) (List.mem_of_getElem? (i := 1) rfl)
      cases ev
      have s1 : y1.toInt = y := (show y1.toInt = (1 * y + 0) + 0 from hv).trans (by omega)
      obtain ⟨v_, ev, hv⟩ := z2 (2, ([(0, 1)], 0)) (List.mem_of_getElem? (i := 2) rfl)
      cases ev
      have s2 : y2.toInt = x := (show y2.toInt = (1 * x + 0) + 0 from hv).trans (by omega)
      obtain ⟨v_, ev, hv⟩ := z2 (3, ([], 1)) (List.mem_of_getElem? (i := 3) rfl)
      cases ev
      have s3 : y3.toInt = 1 := (show y3.toInt = 0 + 1 from hv).trans (by omega)
      exact hE0 lo' h' y0 y1 y2 y3 hi' hm o0 o1 s0 s1 s2 s3
    cases he
  · intro e he r' h' hp hi' hm
    cases he
def kdP3_L (g : Nat) : List (Nat × sT) := [(0, .inr (.inl 0)), (1, .inl ((g : Int), (g : Int)))]
def kdP3_S (g : Nat) : List sT := []
def kdP3_A (g : Nat) : sAs := ([], [], [], [])
def kdP3_P (g : Nat) : List sP0 := [(45, (none, ((g : Nat) : Int)), sf32)]
def kdP3_G (g : Nat) : List sP0 := []
def kdP3_B (g : Nat) : List (Nat × Nat × Int) := []
def kdP3_m (g : Nat) : sM := []
def kdP3_r0 (g : Nat) : sXr := (some (.inl sf32), sA0, [], ([], [(0, ([(1, 1)], 0))], [], []), [], [])
theorem kdP3_b : ((List.range 8).all fun g => syeB swC sT0 (kdP3_m g) 400 0 95 (kdP3_L g) (kdP3_S g) (kdP3_A g) (kdP3_P g) (kdP3_G g) (kdP3_B g) 90 [] [kdP3_r0 g]) = true := by decide +kernel
theorem kdP3 {l : Launch} {Γ : zG} {d : Nat} (hd : 0 ≤ d) {Kp : Option Value → zH → Prop} {lo : zL} {h : zH} {g : Nat} (h_g : g < 8) {bl : Int} (hi : sInv swC h) (b_bl : (-2147483648) ≤ bl ∧ bl ≤ 2147483647) (l0 : zget lo 0 = some (.ref 0)) (l1 : zI lo 1 (g : Int)) (p_bl : pI h 45 g = bl)
    (hR0 : ∀ (h' : zH) (r_ : Int32), sInv swC h' → sMd (kdP3_m g) h h' → r_.toInt = bl → Kp (some (.int r_)) h') : zX l Γ false (d + 1) (zhd 95) (zMQ' Γ false (zhd 95) Kp) 0 0 90 lo [] h := by
  refine sye_ok (mi := 95) (pc := 90) (fun i => [(g : Int), bl].getD i 0) (zall_r kdP3_b h_g) (fun _ _ hc _ => nomatch hc) hd ⟨l0, zIm l1 (by show (g : Int) ≤ (g : Int); omega) (by show (g : Int) ≤ (g : Int); omega), trivial⟩ rfl ⟨(fun _ hc => nomatch hc), (fun _ hc => nomatch hc), (fun _ hc => nomatch hc), Or.inl rfl⟩ ⟨⟨p_bl, by show (-2147483648) ≤ bl; omega, by show bl ≤ 2147483647; omega⟩, trivial⟩ trivial (fun _ hc => nomatch hc) hi ?_ ?_
  · intro e he lo' st' h' hp hi' hm
    cases he
  · intro e he r' h' hp hi' hm
    rcases List.mem_cons.mp he with rfl | he
    · obtain ⟨p1, -, hz⟩ := hp
      obtain ⟨⟨z1, z2, z3, z4⟩, z5, z6⟩ := hz
      obtain ⟨r_, rfl, hv⟩ := ansI p1 (z2 (0, ([(1, 1)], 0)) (List.mem_of_getElem? (i := 0) rfl))
      have s0 : r_.toInt = bl := (show r_.toInt = (1 * bl + 0) + 0 from hv).trans (by omega)
      exact hR0 h' r_ hi' hm s0
    cases he
def kdC_L (f : Nat) (q : Nat) : List sT := [.inr (.inl 43), .inl ((f : Int), (f : Int)), .inl ((q : Int), (q : Int)), .inl ((-999), 999)]
def kdC_A (f : Nat) (q : Nat) : sAs := ([], [], [], [])
def kdC_P (f : Nat) (q : Nat) : List sP0 := [(45, (none, ((f : Nat) : Int)), (0, 999)), (47, (none, ((f : Nat) : Int)), (0, 2000000000)), (44, (none, ((q : Nat) : Int)), (0, 999))]
def kdC_G (f : Nat) (q : Nat) : List sP0 := []
def kdC_B (f : Nat) (q : Nat) : List (Nat × Nat × Int) := []
def kdC_m (f : Nat) (q : Nat) : sM := [(44, q, (q + 1)), (45, f, (f + 1)), (47, f, (f + 1))]
def kdC_r0 (f : Nat) (q : Nat) : sXr := (none, sA0, [], ([(44, (none, ((q : Nat) : Int)), ([(2, 1), (5, 1)], 0)), (47, (none, ((f : Nat) : Int)), ([(2, 1), (4, 1)], 0)), (45, (none, ((f : Nat) : Int)), ([(2, (-1)), (3, 1)], 0))], [], [], []), [], [])
theorem kdC_b : ((List.range 8).all fun f => ((List.range 8).all fun q => syfB swC sT0 (kdC_m f q) 400 0 96 (kdC_L f q) (kdC_A f q) (kdC_P f q) (kdC_G f q) (kdC_B f q) [] [kdC_r0 f q])) = true := by decide +kernel
theorem kdC {l : Launch} {Γ : zG} {d : Nat} (hd : 0 ≤ d) {Kp : Option Value → zH → Prop} {h : zH} {f : Nat} (h_f : f < 8) {q : Nat} (h_q : q < 8) {z bl pd ab : Int} (hi : sInv swC h) (b_z : (-999) ≤ z ∧ z ≤ 999) (b_bl : 0 ≤ bl ∧ bl ≤ 999) (b_pd : 0 ≤ pd ∧ pd ≤ 2000000000) (b_ab : 0 ≤ ab ∧ ab ≤ 999) {x_ff : Int32} (e_ff : x_ff.toInt = (f : Int)) {x_qq : Int32} (e_qq : x_qq.toInt = (q : Int)) {x_z : Int32} (e_z : x_z.toInt = z) (p_bl : pI h 45 f = bl) (p_pd : pI h 47 f = pd) (p_ab : pI h 44 q = ab)
    (hR0 : ∀ (h' : zH), sInv swC h' → sMd (kdC_m f q) h h' → pI h' 44 q = z + ab → pI h' 47 f = z + pd → pI h' 45 f = -z + bl → Kp none h') : zSem l Γ false (d + 1) (zhd 96) [.ref 43, .int x_ff, .int x_qq, .int x_z] h Kp := by
  refine syf_ok (mi := 96) (fun i => [(f : Int), (q : Int), z, bl, pd, ab].getD i 0) (zall_r (zall_r kdC_b h_f) h_q) (fun _ _ hc _ => nomatch hc) hd ⟨_, _, rfl, rfl, ⟨_, _, rfl, ⟨x_ff, rfl, by show (f : Int) ≤ x_ff.toInt; omega, by show x_ff.toInt ≤ (f : Int); omega⟩, ⟨_, _, rfl, ⟨x_qq, rfl, by show (q : Int) ≤ x_qq.toInt; omega, by show x_qq.toInt ≤ (q : Int); omega⟩, ⟨_, _, rfl, ⟨x_z, rfl, by show (-999) ≤ x_z.toInt; omega, by show x_z.toInt ≤ 999; omega⟩, rfl⟩⟩⟩⟩ ⟨rfl, ⟨x_ff, rfl, e_ff, by show (f : Int) ≤ (f : Int); omega, by show (f : Int) ≤ (f : Int); omega⟩, ⟨x_qq, rfl, e_qq, by show (q : Int) ≤ (q : Int); omega, by show (q : Int) ≤ (q : Int); omega⟩, ⟨x_z, rfl, e_z, by show (-999) ≤ z; omega, by show z ≤ 999; omega⟩, trivial⟩ ⟨(fun _ hc => nomatch hc), (fun _ hc => nomatch hc), (fun _ hc => nomatch hc), Or.inl rfl⟩ ⟨⟨p_bl, by show 0 ≤ bl; omega, by show bl ≤ 999; omega⟩, ⟨p_pd, by show 0 ≤ pd; omega, by show pd ≤ 2000000000; omega⟩, ⟨p_ab, by show 0 ≤ ab; omega, by show ab ≤ 999; omega⟩, trivial⟩ trivial (fun _ hc => nomatch hc) hi ?_ ?_
  · intro e he lo' st' h' hp hi' hm
    cases he
  · intro e he r' h' hp hi' hm
    rcases List.mem_cons.mp he with rfl | he
    · obtain ⟨p1, -, hz⟩ := hp
      obtain ⟨⟨z1, z2, z3, z4⟩, z5, z6⟩ := hz
      have k0 : pI h' 44 q = z + ab := (show pI h' 44 q = (1 * z + (1 * ab + 0)) + 0 from z1 (44, (none, ((q : Nat) : Int)), ([(2, 1), (5, 1)], 0)) (List.mem_of_getElem? (i := 0) rfl)).trans (by omega)
      have k1 : pI h' 47 f = z + pd := (show pI h' 47 f = (1 * z + (1 * pd + 0)) + 0 from z1 (47, (none, ((f : Nat) : Int)), ([(2, 1), (4, 1)], 0)) (List.mem_of_getElem? (i := 1) rfl)).trans (by omega)
      have k2 : pI h' 45 f = -z + bl := (show pI h' 45 f = ((-1) * z + (1 * bl + 0)) + 0 from z1 (45, (none, ((f : Nat) : Int)), ([(2, (-1)), (3, 1)], 0)) (List.mem_of_getElem? (i := 2) rfl)).trans (by omega)
      have p1 : r' = none := p1
      subst p1
      exact hR0 h' hi' hm k0 k1 k2
    cases he
def kdA0_L (n : Nat) : List sT := [.inr (.inl 86), .inl (0, 2), .inl (0, 7), .inl (0, 7), .inl (0, 999)]
def kdA0_A (n : Nat) : sAs := ([], [], [], [])
def kdA0_P (n : Nat) : List sP0 := [(86, (none, 4), ((n : Int), (n : Int)))]
def kdA0_G (n : Nat) : List sP0 := []
def kdA0_B (n : Nat) : List (Nat × Nat × Int) := []
def kdA0_m (n : Nat) : sM := [(86, 4, 5), (87, n, (n + 1)), (88, n, (n + 1)), (89, n, (n + 1)), (90, n, (n + 1))]
def kdA0_r0 (n : Nat) : sXr := (none, sA0, [], ([(86, (none, 4), ([], ((n : Int) + 1))), (90, (none, ((n : Nat) : Int)), ([(3, 1)], 0)), (89, (none, ((n : Nat) : Int)), ([(2, 1)], 0)), (88, (none, ((n : Nat) : Int)), ([(1, 1)], 0)), (87, (none, ((n : Nat) : Int)), ([(0, 1)], 0))], [], [], []), [], [])
theorem kdA0_b : ((List.range 20).all fun n => syfB swC sT0 (kdA0_m n) 400 0 93 (kdA0_L n) (kdA0_A n) (kdA0_P n) (kdA0_G n) (kdA0_B n) [] [kdA0_r0 n]) = true := by decide +kernel
theorem kdA0 {l : Launch} {Γ : zG} {d : Nat} (hd : 0 ≤ d) {Kp : Option Value → zH → Prop} {h : zH} {n : Nat} (h_n : n < 20) {kd on ot gr : Int} (hi : sInv swC h) (b_kd : 0 ≤ kd ∧ kd ≤ 2) (b_on : 0 ≤ on ∧ on ≤ 7) (b_ot : 0 ≤ ot ∧ ot ≤ 7) (b_gr : 0 ≤ gr ∧ gr ≤ 999) {x_kd : Int32} (e_kd : x_kd.toInt = kd) {x_on : Int32} (e_on : x_on.toInt = on) {x_ot : Int32} (e_ot : x_ot.toInt = ot) {x_gr : Int32} (e_gr : x_gr.toInt = gr) (p_nn : pI h 86 4 = (n : Int))
    (hR0 : ∀ (h' : zH), sInv swC h' → sMd (kdA0_m n) h h' → pI h' 86 4 = ((n : Int) + 1) → pI h' 90 n = gr → pI h' 89 n = ot → pI h' 88 n = on → pI h' 87 n = kd → Kp none h') : zSem l Γ false (d + 1) (zhd 93) [.ref 86, .int x_kd, .int x_on, .int x_ot, .int x_gr] h Kp := by
  refine syf_ok (mi := 93) (fun i => [kd, on, ot, gr, (n : Int)].getD i 0) (zall_r kdA0_b h_n) (fun _ _ hc _ => nomatch hc) hd ⟨_, _, rfl, rfl, ⟨_, _, rfl, ⟨x_kd, rfl, by show 0 ≤ x_kd.toInt; omega, by show x_kd.toInt ≤ 2; omega⟩, ⟨_, _, rfl, ⟨x_on, rfl, by show 0 ≤ x_on.toInt; omega, by show x_on.toInt ≤ 7; omega⟩, ⟨_, _, rfl, ⟨x_ot, rfl, by show 0 ≤ x_ot.toInt; omega, by show x_ot.toInt ≤ 7; omega⟩, ⟨_, _, rfl, ⟨x_gr, rfl, by show 0 ≤ x_gr.toInt; omega, by show x_gr.toInt ≤ 999; omega⟩, rfl⟩⟩⟩⟩⟩ ⟨rfl, ⟨x_kd, rfl, e_kd, by show 0 ≤ kd; omega, by show kd ≤ 2; omega⟩, ⟨x_on, rfl, e_on, by show 0 ≤ on; omega, by show on ≤ 7; omega⟩, ⟨x_ot, rfl, e_ot, by show 0 ≤ ot; omega, by show ot ≤ 7; omega⟩, ⟨x_gr, rfl, e_gr, by show 0 ≤ gr; omega, by show gr ≤ 999; omega⟩, trivial⟩ ⟨(fun _ hc => nomatch hc), (fun _ hc => nomatch hc), (fun _ hc => nomatch hc), Or.inl rfl⟩ ⟨⟨p_nn, by show (n : Int) ≤ (n : Int); omega, by show (n : Int) ≤ (n : Int); omega⟩, trivial⟩ trivial (fun _ hc => nomatch hc) hi ?_ ?_
  · intro e he lo' st' h' hp hi' hm
    cases he
  · intro e he r' h' hp hi' hm
    rcases List.mem_cons.mp he with rfl | he
    · obtain ⟨p1, -, hz⟩ := hp
      obtain ⟨⟨z1, z2, z3, z4⟩, z5, z6⟩ := hz
      have k0 : pI h' 86 4 = ((n : Int) + 1) := (show pI h' 86 4 = 0 + ((n : Int) + 1) from z1 (86, (none, 4), ([], ((n : Int) + 1))) (List.mem_of_getElem? (i := 0) rfl)).trans (by omega)
      have k1 : pI h' 90 n = gr := (show pI h' 90 n = (1 * gr + 0) + 0 from z1 (90, (none, ((n : Nat) : Int)), ([(3, 1)], 0)) (List.mem_of_getElem? (i := 1) rfl)).trans (by omega)
      have k2 : pI h' 89 n = ot := (show pI h' 89 n = (1 * ot + 0) + 0 from z1 (89, (none, ((n : Nat) : Int)), ([(2, 1)], 0)) (List.mem_of_getElem? (i := 2) rfl)).trans (by omega)
      have k3 : pI h' 88 n = on := (show pI h' 88 n = (1 * on + 0) + 0 from z1 (88, (none, ((n : Nat) : Int)), ([(1, 1)], 0)) (List.mem_of_getElem? (i := 3) rfl)).trans (by omega)
      have k4 : pI h' 87 n = kd := (show pI h' 87 n = (1 * kd + 0) + 0 from z1 (87, (none, ((n : Nat) : Int)), ([(0, 1)], 0)) (List.mem_of_getElem? (i := 4) rfl)).trans (by omega)
      have p1 : r' = none := p1
      subst p1
      exact hR0 h' hi' hm k0 k1 k2 k3 k4
    cases he
def kdA1_L : List sT := [.inr (.inl 86), .inl (0, 2), .inl (0, 7), .inl (0, 7), .inl (0, 999)]
def kdA1_A : sAs := ([], [], [], [])
def kdA1_P : List sP0 := [(86, (none, 4), (20, 20))]
def kdA1_G : List sP0 := []
def kdA1_B : List (Nat × Nat × Int) := []
def kdA1_m : sM := []
def kdA1_e0 : sXe := (10, [.inr (.inl 86)], [(0, .inr (.inl 86)), (1, .inl sf32), (2, .inl sf32), (3, .inl sf32), (4, .inl sf32)], sA0, [], ([], [], [(1, ([(0, 1)], 0)), (2, ([(1, 1)], 0)), (3, ([(2, 1)], 0)), (4, ([(3, 1)], 0))], []), [], [])
theorem kdA1_b : syfB swC sT0 kdA1_m 400 0 93 kdA1_L kdA1_A kdA1_P kdA1_G kdA1_B [kdA1_e0] [] = true := by decide +kernel
theorem kdA1 {l : Launch} {Γ : zG} {d : Nat} (hd : 0 ≤ d) {Kp : Option Value → zH → Prop} {h : zH} {kd on ot gr : Int} (hi : sInv swC h) (b_kd : 0 ≤ kd ∧ kd ≤ 2) (b_on : 0 ≤ on ∧ on ≤ 7) (b_ot : 0 ≤ ot ∧ ot ≤ 7) (b_gr : 0 ≤ gr ∧ gr ≤ 999) {x_kd : Int32} (e_kd : x_kd.toInt = kd) {x_on : Int32} (e_on : x_on.toInt = on) {x_ot : Int32} (e_ot : x_ot.toInt = ot) {x_gr : Int32} (e_gr : x_gr.toInt = gr) (p_nn : pI h 86 4 = 20)
    (hE0 : ∀ (lo' : zL) (h' : zH), sInv swC h' → sMd kdA1_m h h' → zget lo' 0 = some (.ref 86) → zI lo' 1 kd → zI lo' 2 on → zI lo' 3 ot → zI lo' 4 gr → zX l Γ false (d + 1) (zhd 93) (zMQ' Γ false (zhd 93) Kp) 0 0 10 lo' [.ref 86] h') : zSem l Γ false (d + 1) (zhd 93) [.ref 86, .int x_kd, .int x_on, .int x_ot, .int x_gr] h Kp := by
  refine syf_ok (mi := 93) (fun i => [kd, on, ot, gr, 20].getD i 0) kdA1_b (fun _ _ hc _ => nomatch hc) hd ⟨_, _, rfl, rfl, ⟨_, _, rfl, ⟨x_kd, rfl, by show 0 ≤ x_kd.toInt; omega, by show x_kd.toInt ≤ 2; omega⟩, ⟨_, _, rfl, ⟨x_on, rfl, by show 0 ≤ x_on.toInt; omega, by show x_on.toInt ≤ 7; omega⟩, ⟨_, _, rfl, ⟨x_ot, rfl, by show 0 ≤ x_ot.toInt; omega, by show x_ot.toInt ≤ 7; omega⟩, ⟨_, _, rfl, ⟨x_gr, rfl, by show 0 ≤ x_gr.toInt; omega, by show x_gr.toInt ≤ 999; omega⟩, rfl⟩⟩⟩⟩⟩ ⟨rfl, ⟨x_kd, rfl, e_kd, by show 0 ≤ kd; omega, by show kd ≤ 2; omega⟩, ⟨x_on, rfl, e_on, by show 0 ≤ on; omega, by show on ≤ 7; omega⟩, ⟨x_ot, rfl, e_ot, by show 0 ≤ ot; omega, by show ot ≤ 7; omega⟩, ⟨x_gr, rfl, e_gr, by show 0 ≤ gr; omega, by show gr ≤ 999; omega⟩, trivial⟩ ⟨(fun _ hc => nomatch hc), (fun _ hc => nomatch hc), (fun _ hc => nomatch hc), Or.inl rfl⟩ ⟨⟨p_nn, by show 20 ≤ 20; omega, by show 20 ≤ 20; omega⟩, trivial⟩ trivial (fun _ hc => nomatch hc) hi ?_ ?_
  · intro e he lo' st' h' hp hi' hm
    rcases List.mem_cons.mp he with rfl | he
    · obtain ⟨p1, p2, -, hz⟩ := hp
      obtain ⟨⟨z1, z2, z3, z4⟩, z5, z6⟩ := hz
      have o0 : zget lo' 0 = some (.ref 86) := locR (p2 (0, .inr (.inl 86)) (List.mem_of_getElem? (i := 0) rfl))
      have o1 : zI lo' 1 kd := zI_of (p2 (1, .inl sf32) (List.mem_of_getElem? (i := 1) rfl)) (z3 (1, ([(0, 1)], 0)) (List.mem_of_getElem? (i := 0) rfl)) (show (1 * kd + 0) + 0 = kd from by omega)
      have o2 : zI lo' 2 on := zI_of (p2 (2, .inl sf32) (List.mem_of_getElem? (i := 2) rfl)) (z3 (2, ([(1, 1)], 0)) (List.mem_of_getElem? (i := 1) rfl)) (show (1 * on + 0) + 0 = on from by omega)
      have o3 : zI lo' 3 ot := zI_of (p2 (3, .inl sf32) (List.mem_of_getElem? (i := 3) rfl)) (z3 (3, ([(2, 1)], 0)) (List.mem_of_getElem? (i := 2) rfl)) (show (1 * ot + 0) + 0 = ot from by omega)
      have o4 : zI lo' 4 gr := zI_of (p2 (4, .inl sf32) (List.mem_of_getElem? (i := 4) rfl)) (z3 (4, ([(3, 1)], 0)) (List.mem_of_getElem? (i := 3) rfl)) (show (1 * gr + 0) + 0 = gr from by omega)
      obtain ⟨_, _, rfl, hr, p1⟩ := p1
      have hr : _ = Value.ref 86 := hr
      subst hr
      have p1 : _ = [] := p1
      subst p1
      exact hE0 lo' h' hi' hm o0 o1 o2 o3 o4
    cases he
  · intro e he r' h' hp hi' hm
    cases he
def kdA2_L : List (Nat × sT) := [(0, .inr (.inl 86)), (1, .inl (0, 2)), (2, .inl (0, 7)), (3, .inl (0, 7)), (4, .inl (0, 999))]
def kdA2_S : List sT := []
def kdA2_A : sAs := ([], [], [], [])
def kdA2_P : List sP0 := [(86, (none, 4), (19, 19))]
def kdA2_G : List sP0 := []
def kdA2_B : List (Nat × Nat × Int) := []
def kdA2_m : sM := [(86, 4, 5), (87, 19, 20), (88, 19, 20), (89, 19, 20), (90, 19, 20)]
def kdA2_r0 : sXr := (none, sA0, [], ([(86, (none, 4), ([], 20)), (90, (none, 19), ([(3, 1)], 0)), (89, (none, 19), ([(2, 1)], 0)), (88, (none, 19), ([(1, 1)], 0)), (87, (none, 19), ([(0, 1)], 0))], [], [], []), [], [])
theorem kdA2_b : syeB swC sT0 kdA2_m 400 0 93 kdA2_L kdA2_S kdA2_A kdA2_P kdA2_G kdA2_B 13 [] [kdA2_r0] = true := by decide +kernel
theorem kdA2 {l : Launch} {Γ : zG} {d : Nat} (hd : 0 ≤ d) {Kp : Option Value → zH → Prop} {lo : zL} {h : zH} {kd on ot gr : Int} (hi : sInv swC h) (b_kd : 0 ≤ kd ∧ kd ≤ 2) (b_on : 0 ≤ on ∧ on ≤ 7) (b_ot : 0 ≤ ot ∧ ot ≤ 7) (b_gr : 0 ≤ gr ∧ gr ≤ 999) (l0 : zget lo 0 = some (.ref 86)) (l1 : zI lo 1 kd) (l2 : zI lo 2 on) (l3 : zI lo 3 ot) (l4 : zI lo 4 gr) (p_nn : pI h 86 4 = 19)
    (hR0 : ∀ (h' : zH), sInv swC h' → sMd kdA2_m h h' → pI h' 86 4 = 20 → pI h' 90 19 = gr → pI h' 89 19 = ot → pI h' 88 19 = on → pI h' 87 19 = kd → Kp none h') : zX l Γ false (d + 1) (zhd 93) (zMQ' Γ false (zhd 93) Kp) 0 0 13 lo [] h := by
  refine sye_ok (mi := 93) (pc := 13) (fun i => [kd, on, ot, gr, 19].getD i 0) kdA2_b (fun _ _ hc _ => nomatch hc) hd ⟨l0, zIm l1 (by show 0 ≤ kd; omega) (by show kd ≤ 2; omega), zIm l2 (by show 0 ≤ on; omega) (by show on ≤ 7; omega), zIm l3 (by show 0 ≤ ot; omega) (by show ot ≤ 7; omega), zIm l4 (by show 0 ≤ gr; omega) (by show gr ≤ 999; omega), trivial⟩ rfl ⟨(fun _ hc => nomatch hc), (fun _ hc => nomatch hc), (fun _ hc => nomatch hc), Or.inl rfl⟩ ⟨⟨p_nn, by show 19 ≤ 19; omega, by show 19 ≤ 19; omega⟩, trivial⟩ trivial (fun _ hc => nomatch hc) hi ?_ ?_
  · intro e he lo' st' h' hp hi' hm
    cases he
  · intro e he r' h' hp hi' hm
    rcases List.mem_cons.mp he with rfl | he
    · obtain ⟨p1, -, hz⟩ := hp
      obtain ⟨⟨z1, z2, z3, z4⟩, z5, z6⟩ := hz
      have k0 : pI h' 86 4 = 20 := (show pI h' 86 4 = 0 + 20 from z1 (86, (none, 4), ([], 20)) (List.mem_of_getElem? (i := 0) rfl)).trans (by omega)
      have k1 : pI h' 90 19 = gr := (show pI h' 90 19 = (1 * gr + 0) + 0 from z1 (90, (none, 19), ([(3, 1)], 0)) (List.mem_of_getElem? (i := 1) rfl)).trans (by omega)
      have k2 : pI h' 89 19 = ot := (show pI h' 89 19 = (1 * ot + 0) + 0 from z1 (89, (none, 19), ([(2, 1)], 0)) (List.mem_of_getElem? (i := 2) rfl)).trans (by omega)
      have k3 : pI h' 88 19 = on := (show pI h' 88 19 = (1 * on + 0) + 0 from z1 (88, (none, 19), ([(1, 1)], 0)) (List.mem_of_getElem? (i := 3) rfl)).trans (by omega)
      have k4 : pI h' 87 19 = kd := (show pI h' 87 19 = (1 * kd + 0) + 0 from z1 (87, (none, 19), ([(0, 1)], 0)) (List.mem_of_getElem? (i := 4) rfl)).trans (by omega)
      have p1 : r' = none := p1
      subst p1
      exact hR0 h' hi' hm k0 k1 k2 k3 k4
    cases he
def kdZ0_L : List sT := [.inr (.inl 86)]
def kdZ0_A : sAs := ([], [], [], [])
def kdZ0_P : List sP0 := []
def kdZ0_G : List sP0 := []
def kdZ0_B : List (Nat × Nat × Int) := []
def kdZ0_m : sM := [(86, 4, 5)]
def kdZ0_e0 : sXe := (20, [.inl sf32, .inl sf32, .inr (.inl 87), .inl sf32, .inr (.inl 87)], [(0, .inr (.inl 86))], sA0, [], ([(86, (none, 4), ([], 19))], [(0, ([], 19)), (1, ([], 0)), (3, ([], 1))], [], []), [], [])
theorem kdZ0_b : syfB swC sT0 kdZ0_m 400 0 94 kdZ0_L kdZ0_A kdZ0_P kdZ0_G kdZ0_B [kdZ0_e0] [] = true := by decide +kernel
theorem kdZ0 {l : Launch} {Γ : zG} {d : Nat} (hd : 0 ≤ d) {Kp : Option Value → zH → Prop} {h : zH} (hi : sInv swC h) 
    (hE0 : ∀ (lo' : zL) (h' : zH) (y0 : Int32) (y1 : Int32) (y3 : Int32), sInv swC h' → sMd kdZ0_m h h' → pI h' 86 4 = 19 → zget lo' 0 = some (.ref 86) → y0.toInt = 19 → y1.toInt = 0 → y3.toInt = 1 → zX l Γ false (d + 1) (zhd 94) (zMQ' Γ false (zhd 94) Kp) 0 0 20 lo' [.int y0, .int y1, .ref 87, .int y3, .ref 87] h') : zSem l Γ false (d + 1) (zhd 94) [.ref 86] h Kp := by
  refine syf_ok (mi := 94) (fun i => [].getD i 0) kdZ0_b (fun _ _ hc _ => nomatch hc) hd ⟨_, _, rfl, rfl, rfl⟩ ⟨rfl, trivial⟩ ⟨(fun _ hc => nomatch hc), (fun _ hc => nomatch hc), (fun _ hc => nomatch hc), Or.inl rfl⟩ trivial trivial (fun _ hc => nomatch hc) hi ?_ ?_
  · intro e he lo' st' h' hp hi' hm
    rcases List.mem_cons.mp he with rfl | he
    · obtain ⟨p1, p2, -, hz⟩ := hp
      obtain ⟨⟨z1, z2, z3, z4⟩, z5, z6⟩ := hz
      have k0 : pI h' 86 4 = 19 := (show pI h' 86 4 = 0 + 19 from z1 (86, (none, 4), ([], 19)) (List.mem_of_getElem? (i := 0) rfl)).trans (by omega)
      have o0 : zget lo' 0 = some (.ref 86) := locR (p2 (0, .inr (.inl 86)) (List.mem_of_getElem? (i := 0) rfl))
      obtain ⟨_, _, rfl, ⟨y0, rfl, -⟩, p1⟩ := p1
      obtain ⟨_, _, rfl, ⟨y1, rfl, -⟩, p1⟩ := p1
      obtain ⟨_, _, rfl, hr, p1⟩ := p1
      have hr : _ = Value.ref 87 := hr
      subst hr
      obtain ⟨_, _, rfl, ⟨y3, rfl, -⟩, p1⟩ := p1
      obtain ⟨_, _, rfl, hr, p1⟩ := p1
      have hr : _ = Value.ref 87 := hr
      subst hr
      have p1 : _ = [] := p1
      subst p1
      obtain ⟨v_, ev, hv⟩ := z2 (0, ([], 19)) (List.mem_of_getElem? (i := 0) rfl)
      cases ev
      have s0 : y0.toInt = 19 := (show y0.toInt = 0 + 19 from hv).trans (by omega)
      obtain ⟨v_, ev, hv⟩ := z2 (1, ([], 0)) (List.mem_of_getElem? (i := 1) rfl)
      cases ev
      have s1 : y1.toInt = 0 := (show y1.toInt = 0 + 0 from hv).trans (by omega)
      obtain ⟨v_, ev, hv⟩ := z2 (3, ([], 1)) (List.mem_of_getElem? (i := 2) rfl)
      cases ev
      have s3 : y3.toInt = 1 := (show y3.toInt = 0 + 1 from hv).trans (by omega)
      exact hE0 lo' h' y0 y1 y3 hi' hm k0 o0 s0 s1 s3
    cases he
  · intro e he r' h' hp hi' hm
    cases he
def kdZ1_L : List (Nat × sT) := [(0, .inr (.inl 86))]
def kdZ1_S : List sT := []
def kdZ1_A : sAs := ([], [], [], [])
def kdZ1_P : List sP0 := [(86, (none, 4), (19, 19))]
def kdZ1_G : List sP0 := []
def kdZ1_B : List (Nat × Nat × Int) := []
def kdZ1_m : sM := []
def kdZ1_e0 : sXe := (37, [.inl sf32, .inl sf32, .inr (.inl 88), .inl sf32, .inr (.inl 88)], [(0, .inr (.inl 86))], sA0, [], ([], [(0, ([], 19)), (1, ([], 0)), (3, ([], 1))], [], []), [], [])
theorem kdZ1_b : syeB swC sT0 kdZ1_m 400 0 94 kdZ1_L kdZ1_S kdZ1_A kdZ1_P kdZ1_G kdZ1_B 23 [kdZ1_e0] [] = true := by decide +kernel
theorem kdZ1 {l : Launch} {Γ : zG} {d : Nat} (hd : 0 ≤ d) {Kp : Option Value → zH → Prop} {lo : zL} {h : zH} (hi : sInv swC h) (l0 : zget lo 0 = some (.ref 86)) (p_nn : pI h 86 4 = 19)
    (hE0 : ∀ (lo' : zL) (h' : zH) (y0 : Int32) (y1 : Int32) (y3 : Int32), sInv swC h' → sMd kdZ1_m h h' → zget lo' 0 = some (.ref 86) → y0.toInt = 19 → y1.toInt = 0 → y3.toInt = 1 → zX l Γ false (d + 1) (zhd 94) (zMQ' Γ false (zhd 94) Kp) 0 0 37 lo' [.int y0, .int y1, .ref 88, .int y3, .ref 88] h') : zX l Γ false (d + 1) (zhd 94) (zMQ' Γ false (zhd 94) Kp) 0 0 23 lo [] h := by
  refine sye_ok (mi := 94) (pc := 23) (fun i => [19].getD i 0) kdZ1_b (fun _ _ hc _ => nomatch hc) hd ⟨l0, trivial⟩ rfl ⟨(fun _ hc => nomatch hc), (fun _ hc => nomatch hc), (fun _ hc => nomatch hc), Or.inl rfl⟩ ⟨⟨p_nn, by show 19 ≤ 19; omega, by show 19 ≤ 19; omega⟩, trivial⟩ trivial (fun _ hc => nomatch hc) hi ?_ ?_
  · intro e he lo' st' h' hp hi' hm
    rcases List.mem_cons.mp he with rfl | he
    · obtain ⟨p1, p2, -, hz⟩ := hp
      obtain ⟨⟨z1, z2, z3, z4⟩, z5, z6⟩ := hz
      have o0 : zget lo' 0 = some (.ref 86) := locR (p2 (0, .inr (.inl 86)) (List.mem_of_getElem? (i := 0) rfl))
      obtain ⟨_, _, rfl, ⟨y0, rfl, -⟩, p1⟩ := p1
      obtain ⟨_, _, rfl, ⟨y1, rfl, -⟩, p1⟩ := p1
      obtain ⟨_, _, rfl, hr, p1⟩ := p1
      have hr : _ = Value.ref 88 := hr
      subst hr
      obtain ⟨_, _, rfl, ⟨y3, rfl, -⟩, p1⟩ := p1
      obtain ⟨_, _, rfl, hr, p1⟩ := p1
      have hr : _ = Value.ref 88 := hr
      subst hr
      have p1 : _ = [] := p1
      subst p1
      obtain ⟨v_, ev, hv⟩ := z2 (0, ([], 19)) (List.mem_of_getElem? (i := 0) rfl)
      cases ev
      have s0 : y0.toInt = 19 := (show y0.toInt = 0 + 19 from hv).trans (by omega)
      obtain ⟨v_, ev, hv⟩ := z2 (1, ([], 0)) (List.mem_of_getElem? (i := 1) rfl)
      cases ev
      have s1 : y1.toInt = 0 := (show y1.toInt = 0 + 0 from hv).trans (by omega)
      obtain ⟨v_, ev, hv⟩ := z2 (3, ([], 1)) (List.mem_of_getElem? (i := 2) rfl)
      cases ev
      have s3 : y3.toInt = 1 := (show y3.toInt = 0 + 1 from hv).trans (by omega)
      exact hE0 lo' h' y0 y1 y3 hi' hm o0 s0 s1 s3
    cases he
  · intro e he r' h' hp hi' hm
    cases he
def kdZ2_L : List (Nat × sT) := [(0, .inr (.inl 86))]
def kdZ2_S : List sT := []
def kdZ2_A : sAs := ([], [], [], [])
def kdZ2_P : List sP0 := [(86, (none, 4), (19, 19))]
def kdZ2_G : List sP0 := []
def kdZ2_B : List (Nat × Nat × Int) := []
def kdZ2_m : sM := []
def kdZ2_e0 : sXe := (54, [.inl sf32, .inl sf32, .inr (.inl 89), .inl sf32, .inr (.inl 89)], [(0, .inr (.inl 86))], sA0, [], ([], [(0, ([], 19)), (1, ([], 0)), (3, ([], 1))], [], []), [], [])
theorem kdZ2_b : syeB swC sT0 kdZ2_m 400 0 94 kdZ2_L kdZ2_S kdZ2_A kdZ2_P kdZ2_G kdZ2_B 40 [kdZ2_e0] [] = true := by decide +kernel
theorem kdZ2 {l : Launch} {Γ : zG} {d : Nat} (hd : 0 ≤ d) {Kp : Option Value → zH → Prop} {lo : zL} {h : zH} (hi : sInv swC h) (l0 : zget lo 0 = some (.ref 86)) (p_nn : pI h 86 4 = 19)
    (hE0 : ∀ (lo' : zL) (h' : zH) (y0 : Int32) (y1 : Int32) (y3 : Int32), sInv swC h' → sMd kdZ2_m h h' → zget lo' 0 = some (.ref 86) → y0.toInt = 19 → y1.toInt = 0 → y3.toInt = 1 → zX l Γ false (d + 1) (zhd 94) (zMQ' Γ false (zhd 94) Kp) 0 0 54 lo' [.int y0, .int y1, .ref 89, .int y3, .ref 89] h') : zX l Γ false (d + 1) (zhd 94) (zMQ' Γ false (zhd 94) Kp) 0 0 40 lo [] h := by
  refine sye_ok (mi := 94) (pc := 40) (fun i => [19].getD i 0) kdZ2_b (fun _ _ hc _ => nomatch hc) hd ⟨l0, trivial⟩ rfl ⟨(fun _ hc => nomatch hc), (fun _ hc => nomatch hc), (fun _ hc => nomatch hc), Or.inl rfl⟩ ⟨⟨p_nn, by show 19 ≤ 19; omega, by show 19 ≤ 19; omega⟩, trivial⟩ trivial (fun _ hc => nomatch hc) hi ?_ ?_
  · intro e he lo' st' h' hp hi' hm
    rcases List.mem_cons.mp he with rfl | he
    · obtain ⟨p1, p2, -, hz⟩ := hp
      obtain ⟨⟨z1, z2, z3, z4⟩, z5, z6⟩ := hz
      have o0 : zget lo' 0 = some (.ref 86) := locR (p2 (0, .inr (.inl 86)) (List.mem_of_getElem? (i := 0) rfl))
      obtain ⟨_, _, rfl, ⟨y0, rfl, -⟩, p1⟩ := p1
      obtain ⟨_, _, rfl, ⟨y1, rfl, -⟩, p1⟩ := p1
      obtain ⟨_, _, rfl, hr, p1⟩ := p1
      have hr : _ = Value.ref 89 := hr
      subst hr
      obtain ⟨_, _, rfl, ⟨y3, rfl, -⟩, p1⟩ := p1
      obtain ⟨_, _, rfl, hr, p1⟩ := p1
      have hr : _ = Value.ref 89 := hr
      subst hr
      have p1 : _ = [] := p1
      subst p1
      obtain ⟨v_, ev, hv⟩ := z2 (0, ([], 19)) (List.mem_of_getElem? (i := 0) rfl)
      cases ev
      have s0 : y0.toInt = 19 := (show y0.toInt = 0 + 19 from hv).trans (by omega)
      obtain ⟨v_, ev, hv⟩ := z2 (1, ([], 0)) (List.mem_of_getElem? (i := 1) rfl)
      cases ev
      have s1 : y1.toInt = 0 := (show y1.toInt = 0 + 0 from hv).trans (by omega)
      obtain ⟨v_, ev, hv⟩ := z2 (3, ([], 1)) (List.mem_of_getElem? (i := 2) rfl)
      cases ev
      have s3 : y3.toInt = 1 := (show y3.toInt = 0 + 1 from hv).trans (by omega)
      exact hE0 lo' h' y0 y1 y3 hi' hm o0 s0 s1 s3
    cases he
  · intro e he r' h' hp hi' hm
    cases he
def kdZ3_L : List (Nat × sT) := [(0, .inr (.inl 86))]
def kdZ3_S : List sT := []
def kdZ3_A : sAs := ([], [], [], [])
def kdZ3_P : List sP0 := [(86, (none, 4), (19, 19))]
def kdZ3_G : List sP0 := []
def kdZ3_B : List (Nat × Nat × Int) := []
def kdZ3_m : sM := []
def kdZ3_e0 : sXe := (71, [.inl sf32, .inl sf32, .inr (.inl 90), .inl sf32, .inr (.inl 90)], [(0, .inr (.inl 86))], sA0, [], ([], [(0, ([], 19)), (1, ([], 0)), (3, ([], 1))], [], []), [], [])
theorem kdZ3_b : syeB swC sT0 kdZ3_m 400 0 94 kdZ3_L kdZ3_S kdZ3_A kdZ3_P kdZ3_G kdZ3_B 57 [kdZ3_e0] [] = true := by decide +kernel
theorem kdZ3 {l : Launch} {Γ : zG} {d : Nat} (hd : 0 ≤ d) {Kp : Option Value → zH → Prop} {lo : zL} {h : zH} (hi : sInv swC h) (l0 : zget lo 0 = some (.ref 86)) (p_nn : pI h 86 4 = 19)
    (hE0 : ∀ (lo' : zL) (h' : zH) (y0 : Int32) (y1 : Int32) (y3 : Int32), sInv swC h' → sMd kdZ3_m h h' → zget lo' 0 = some (.ref 86) → y0.toInt = 19 → y1.toInt = 0 → y3.toInt = 1 → zX l Γ false (d + 1) (zhd 94) (zMQ' Γ false (zhd 94) Kp) 0 0 71 lo' [.int y0, .int y1, .ref 90, .int y3, .ref 90] h') : zX l Γ false (d + 1) (zhd 94) (zMQ' Γ false (zhd 94) Kp) 0 0 57 lo [] h := by
  refine sye_ok (mi := 94) (pc := 57) (fun i => [19].getD i 0) kdZ3_b (fun _ _ hc _ => nomatch hc) hd ⟨l0, trivial⟩ rfl ⟨(fun _ hc => nomatch hc), (fun _ hc => nomatch hc), (fun _ hc => nomatch hc), Or.inl rfl⟩ ⟨⟨p_nn, by show 19 ≤ 19; omega, by show 19 ≤ 19; omega⟩, trivial⟩ trivial (fun _ hc => nomatch hc) hi ?_ ?_
  · intro e he lo' st' h' hp hi' hm
    rcases List.mem_cons.mp he with rfl | he
    · obtain ⟨p1, p2, -, hz⟩ := hp
      obtain ⟨⟨z1, z2, z3, z4⟩, z5, z6⟩ := hz
      have o0 : zget lo' 0 = some (.ref 86) := locR (p2 (0, .inr (.inl 86)) (List.mem_of_getElem? (i := 0) rfl))
      obtain ⟨_, _, rfl, ⟨y0, rfl, -⟩, p1⟩ := p1
      obtain ⟨_, _, rfl, ⟨y1, rfl, -⟩, p1⟩ := p1
      obtain ⟨_, _, rfl, hr, p1⟩ := p1
      have hr : _ = Value.ref 90 := hr
      subst hr
      obtain ⟨_, _, rfl, ⟨y3, rfl, -⟩, p1⟩ := p1
      obtain ⟨_, _, rfl, hr, p1⟩ := p1
      have hr : _ = Value.ref 90 := hr
      subst hr
      have p1 : _ = [] := p1
      subst p1
      obtain ⟨v_, ev, hv⟩ := z2 (0, ([], 19)) (List.mem_of_getElem? (i := 0) rfl)
      cases ev
      have s0 : y0.toInt = 19 := (show y0.toInt = 0 + 19 from hv).trans (by omega)
      obtain ⟨v_, ev, hv⟩ := z2 (1, ([], 0)) (List.mem_of_getElem? (i := 1) rfl)
      cases ev
      have s1 : y1.toInt = 0 := (show y1.toInt = 0 + 0 from hv).trans (by omega)
      obtain ⟨v_, ev, hv⟩ := z2 (3, ([], 1)) (List.mem_of_getElem? (i := 2) rfl)
      cases ev
      have s3 : y3.toInt = 1 := (show y3.toInt = 0 + 1 from hv).trans (by omega)
      exact hE0 lo' h' y0 y1 y3 hi' hm o0 s0 s1 s3
    cases he
  · intro e he r' h' hp hi' hm
    cases he
def kdZ4_L : List (Nat × sT) := [(0, .inr (.inl 86))]
def kdZ4_S : List sT := []
def kdZ4_A : sAs := ([], [], [], [])
def kdZ4_P : List sP0 := []
def kdZ4_G : List sP0 := []
def kdZ4_B : List (Nat × Nat × Int) := []
def kdZ4_m : sM := []
def kdZ4_r0 : sXr := (none, sA0, [], ([], [], [], []), [], [])
theorem kdZ4_b : syeB swC sT0 kdZ4_m 400 0 94 kdZ4_L kdZ4_S kdZ4_A kdZ4_P kdZ4_G kdZ4_B 74 [] [kdZ4_r0] = true := by decide +kernel
theorem kdZ4 {l : Launch} {Γ : zG} {d : Nat} (hd : 0 ≤ d) {Kp : Option Value → zH → Prop} {lo : zL} {h : zH} (hi : sInv swC h) (l0 : zget lo 0 = some (.ref 86))
    (hR0 : ∀ (h' : zH), sInv swC h' → sMd kdZ4_m h h' → Kp none h') : zX l Γ false (d + 1) (zhd 94) (zMQ' Γ false (zhd 94) Kp) 0 0 74 lo [] h := by
  refine sye_ok (mi := 94) (pc := 74) (fun i => [].getD i 0) kdZ4_b (fun _ _ hc _ => nomatch hc) hd ⟨l0, trivial⟩ rfl ⟨(fun _ hc => nomatch hc), (fun _ hc => nomatch hc), (fun _ hc => nomatch hc), Or.inl rfl⟩ trivial trivial (fun _ hc => nomatch hc) hi ?_ ?_
  · intro e he lo' st' h' hp hi' hm
    cases he
  · intro e he r' h' hp hi' hm
    rcases List.mem_cons.mp he with rfl | he
    · obtain ⟨p1, -, hz⟩ := hp
      obtain ⟨⟨z1, z2, z3, z4⟩, z5, z6⟩ := hz
      have p1 : r' = none := p1
      subst p1
      exact hR0 h' hi' hm
    cases he
def kdU0_L (n : Nat) : List sT := [.inr (.inl 86), .inr (.inl 43)]
def kdU0_A (n : Nat) : sAs := ([], [], [], [])
def kdU0_P (n : Nat) : List sP0 := [(86, (none, 4), (((n : Int) + 1), ((n : Int) + 1))), (87, (none, ((n : Nat) : Int)), (0, 0)), (88, (none, ((n : Nat) : Int)), (0, 7)), (89, (none, ((n : Nat) : Int)), (0, 7)), (90, (none, ((n : Nat) : Int)), (0, 999)), (43, (none, 3), (0, 255))]
def kdU0_G (n : Nat) : List sP0 := []
def kdU0_B (n : Nat) : List (Nat × Nat × Int) := []
def kdU0_m (n : Nat) : sM := [(86, 4, 5)]
def kdU0_e0 (n : Nat) : sXe := (50, [.inl sf32, .inr (.inl 43)], [(0, .inr (.inl 86)), (1, .inr (.inl 43))], sA0, [], ([(86, (none, 4), ([], (n : Int)))], [(0, ([(2, 1)], 0))], [], []), [], [])
theorem kdU0_b : ((List.range 20).all fun n => syfB swC sT0 (kdU0_m n) 400 0 172 (kdU0_L n) (kdU0_A n) (kdU0_P n) (kdU0_G n) (kdU0_B n) [kdU0_e0 n] []) = true := by decide +kernel
theorem kdU0 {l : Launch} {Γ : zG} {d : Nat} (hd : 0 ≤ d) {Kp : Option Value → zH → Prop} {h : zH} {n : Nat} (h_n : n < 20) {on ot gr w : Int} (hi : sInv swC h) (b_on : 0 ≤ on ∧ on ≤ 7) (b_ot : 0 ≤ ot ∧ ot ≤ 7) (b_gr : 0 ≤ gr ∧ gr ≤ 999) (b_w : 0 ≤ w ∧ w ≤ 255) (p_nn : pI h 86 4 = ((n : Int) + 1)) (p_kd : pI h 87 n = 0) (p_on : pI h 88 n = on) (p_ot : pI h 89 n = ot) (p_gr : pI h 90 n = gr) (p_w : pI h 43 3 = w)
    (hE0 : ∀ (lo' : zL) (h' : zH) (y0 : Int32), sInv swC h' → sMd (kdU0_m n) h h' → pI h' 86 4 = (n : Int) → zget lo' 0 = some (.ref 86) → zget lo' 1 = some (.ref 43) → y0.toInt = on → zX l Γ false (d + 1) (zhd 172) (zMQ' Γ false (zhd 172) Kp) 0 0 50 lo' [.int y0, .ref 43] h') : zSem l Γ false (d + 1) (zhd 172) [.ref 86, .ref 43] h Kp := by
  refine syf_ok (mi := 172) (fun i => [((n : Int) + 1), 0, on, ot, gr, w].getD i 0) (zall_r kdU0_b h_n) (fun _ _ hc _ => nomatch hc) hd ⟨_, _, rfl, rfl, ⟨_, _, rfl, rfl, rfl⟩⟩ ⟨rfl, rfl, trivial⟩ ⟨(fun _ hc => nomatch hc), (fun _ hc => nomatch hc), (fun _ hc => nomatch hc), Or.inl rfl⟩ ⟨⟨p_nn, by show ((n : Int) + 1) ≤ ((n : Int) + 1); omega, by show ((n : Int) + 1) ≤ ((n : Int) + 1); omega⟩, ⟨p_kd, by show 0 ≤ 0; omega, by show 0 ≤ 0; omega⟩, ⟨p_on, by show 0 ≤ on; omega, by show on ≤ 7; omega⟩, ⟨p_ot, by show 0 ≤ ot; omega, by show ot ≤ 7; omega⟩, ⟨p_gr, by show 0 ≤ gr; omega, by show gr ≤ 999; omega⟩, ⟨p_w, by show 0 ≤ w; omega, by show w ≤ 255; omega⟩, trivial⟩ trivial (fun _ hc => nomatch hc) hi ?_ ?_
  · intro e he lo' st' h' hp hi' hm
    rcases List.mem_cons.mp he with rfl | he
    · obtain ⟨p1, p2, -, hz⟩ := hp
      obtain ⟨⟨z1, z2, z3, z4⟩, z5, z6⟩ := hz
      have k0 : pI h' 86 4 = (n : Int) := (show pI h' 86 4 = 0 + (n : Int) from z1 (86, (none, 4), ([], (n : Int))) (List.mem_of_getElem? (i := 0) rfl)).trans (by omega)
      have o0 : zget lo' 0 = some (.ref 86) := locR (p2 (0, .inr (.inl 86)) (List.mem_of_getElem? (i := 0) rfl))
      have o1 : zget lo' 1 = some (.ref 43) := locR (p2 (1, .inr (.inl 43)) (List.mem_of_getElem? (i := 1) rfl))
      obtain ⟨_, _, rfl, ⟨y0, rfl, -⟩, p1⟩ := p1
      obtain ⟨_, _, rfl, hr, p1⟩ := p1
      have hr : _ = Value.ref 43 := hr
      subst hr
      have p1 : _ = [] := p1
      subst p1
      obtain ⟨v_, ev, hv⟩ := z2 (0, ([(2, 1)], 0)) (List.mem_of_getElem? (i := 0) rfl)
      cases ev
      have s0 : y0.toInt = on := (show y0.toInt = (1 * on + 0) + 0 from hv).trans (by omega)
      exact hE0 lo' h' y0 hi' hm k0 o0 o1 s0
    cases he
  · intro e he r' h' hp hi' hm
    cases he
def kdU1_L (n : Nat) : List sT := [.inr (.inl 86), .inr (.inl 43)]
def kdU1_A (n : Nat) : sAs := ([], [], [], [])
def kdU1_P (n : Nat) : List sP0 := [(86, (none, 4), (((n : Int) + 1), ((n : Int) + 1))), (87, (none, ((n : Nat) : Int)), (1, 1)), (88, (none, ((n : Nat) : Int)), (0, 7)), (89, (none, ((n : Nat) : Int)), (0, 7)), (90, (none, ((n : Nat) : Int)), (0, 999)), (43, (none, 3), (0, 255))]
def kdU1_G (n : Nat) : List sP0 := []
def kdU1_B (n : Nat) : List (Nat × Nat × Int) := []
def kdU1_m (n : Nat) : sM := [(86, 4, 5)]
def kdU1_e0 (n : Nat) : sXe := (97, [.inl sf32, .inl sf32, .inl sf32, .inr (.inl 43)], [(0, .inr (.inl 86)), (1, .inr (.inl 43))], sA0, [], ([(86, (none, 4), ([], (n : Int)))], [(0, ([(4, 1)], 0)), (1, ([(3, 1)], 0)), (2, ([(2, 1)], 0))], [], []), [], [])
theorem kdU1_b : ((List.range 20).all fun n => syfB swC sT0 (kdU1_m n) 400 0 172 (kdU1_L n) (kdU1_A n) (kdU1_P n) (kdU1_G n) (kdU1_B n) [kdU1_e0 n] []) = true := by decide +kernel
theorem kdU1 {l : Launch} {Γ : zG} {d : Nat} (hd : 0 ≤ d) {Kp : Option Value → zH → Prop} {h : zH} {n : Nat} (h_n : n < 20) {on ot gr w : Int} (hi : sInv swC h) (b_on : 0 ≤ on ∧ on ≤ 7) (b_ot : 0 ≤ ot ∧ ot ≤ 7) (b_gr : 0 ≤ gr ∧ gr ≤ 999) (b_w : 0 ≤ w ∧ w ≤ 255) (p_nn : pI h 86 4 = ((n : Int) + 1)) (p_kd : pI h 87 n = 1) (p_on : pI h 88 n = on) (p_ot : pI h 89 n = ot) (p_gr : pI h 90 n = gr) (p_w : pI h 43 3 = w)
    (hE0 : ∀ (lo' : zL) (h' : zH) (y0 : Int32) (y1 : Int32) (y2 : Int32), sInv swC h' → sMd (kdU1_m n) h h' → pI h' 86 4 = (n : Int) → zget lo' 0 = some (.ref 86) → zget lo' 1 = some (.ref 43) → y0.toInt = gr → y1.toInt = ot → y2.toInt = on → zX l Γ false (d + 1) (zhd 172) (zMQ' Γ false (zhd 172) Kp) 0 0 97 lo' [.int y0, .int y1, .int y2, .ref 43] h') : zSem l Γ false (d + 1) (zhd 172) [.ref 86, .ref 43] h Kp := by
  refine syf_ok (mi := 172) (fun i => [((n : Int) + 1), 1, on, ot, gr, w].getD i 0) (zall_r kdU1_b h_n) (fun _ _ hc _ => nomatch hc) hd ⟨_, _, rfl, rfl, ⟨_, _, rfl, rfl, rfl⟩⟩ ⟨rfl, rfl, trivial⟩ ⟨(fun _ hc => nomatch hc), (fun _ hc => nomatch hc), (fun _ hc => nomatch hc), Or.inl rfl⟩ ⟨⟨p_nn, by show ((n : Int) + 1) ≤ ((n : Int) + 1); omega, by show ((n : Int) + 1) ≤ ((n : Int) + 1); omega⟩, ⟨p_kd, by show 1 ≤ 1; omega, by show 1 ≤ 1; omega⟩, ⟨p_on, by show 0 ≤ on; omega, by show on ≤ 7; omega⟩, ⟨p_ot, by show 0 ≤ ot; omega, by show ot ≤ 7; omega⟩, ⟨p_gr, by show 0 ≤ gr; omega, by show gr ≤ 999; omega⟩, ⟨p_w, by show 0 ≤ w; omega, by show w ≤ 255; omega⟩, trivial⟩ trivial (fun _ hc => nomatch hc) hi ?_ ?_
  · intro e he lo' st' h' hp hi' hm
    rcases List.mem_cons.mp he with rfl | he
    · obtain ⟨p1, p2, -, hz⟩ := hp
      obtain ⟨⟨z1, z2, z3, z4⟩, z5, z6⟩ := hz
      have k0 : pI h' 86 4 = (n : Int) := (show pI h' 86 4 = 0 + (n : Int) from z1 (86, (none, 4), ([], (n : Int))) (List.mem_of_getElem? (i := 0) rfl)).trans (by omega)
      have o0 : zget lo' 0 = some (.ref 86) := locR (p2 (0, .inr (.inl 86)) (List.mem_of_getElem? (i := 0) rfl))
      have o1 : zget lo' 1 = some (.ref 43) := locR (p2 (1, .inr (.inl 43)) (List.mem_of_getElem? (i := 1) rfl))
      obtain ⟨_, _, rfl, ⟨y0, rfl, -⟩, p1⟩ := p1
      obtain ⟨_, _, rfl, ⟨y1, rfl, -⟩, p1⟩ := p1
      obtain ⟨_, _, rfl, ⟨y2, rfl, -⟩, p1⟩ := p1
      obtain ⟨_, _, rfl, hr, p1⟩ := p1
      have hr : _ = Value.ref 43 := hr
      subst hr
      have p1 : _ = [] := p1
      subst p1
      obtain ⟨v_, ev, hv⟩ := z2 (0, ([(4, 1)], 0)) (List.mem_of_getElem? (i := 0) rfl)
      cases ev
      have s0 : y0.toInt = gr := (show y0.toInt = (1 * gr + 0) + 0 from hv).trans (by omega)
      obtain ⟨v_, ev, hv⟩ := z2 (1, ([(3, 1)], 0)) (List.mem_of_getElem? (i := 1) rfl)
      cases ev
      have s1 : y1.toInt = ot := (show y1.toInt = (1 * ot + 0) + 0 from hv).trans (by omega)
      obtain ⟨v_, ev, hv⟩ := z2 (2, ([(2, 1)], 0)) (List.mem_of_getElem? (i := 2) rfl)
      cases ev
      have s2 : y2.toInt = on := (show y2.toInt = (1 * on + 0) + 0 from hv).trans (by omega)
      exact hE0 lo' h' y0 y1 y2 hi' hm k0 o0 o1 s0 s1 s2
    cases he
  · intro e he r' h' hp hi' hm
    cases he
def kdU2_L (n : Nat) : List sT := [.inr (.inl 86), .inr (.inl 43)]
def kdU2_A (n : Nat) : sAs := ([], [], [], [])
def kdU2_P (n : Nat) : List sP0 := [(86, (none, 4), (((n : Int) + 1), ((n : Int) + 1))), (87, (none, ((n : Nat) : Int)), (2, 2)), (88, (none, ((n : Nat) : Int)), (0, 7)), (89, (none, ((n : Nat) : Int)), (0, 7)), (90, (none, ((n : Nat) : Int)), (0, 999)), (43, (none, 3), (0, 255))]
def kdU2_G (n : Nat) : List sP0 := []
def kdU2_B (n : Nat) : List (Nat × Nat × Int) := []
def kdU2_m (n : Nat) : sM := [(43, 3, 4), (86, 4, 5)]
def kdU2_r0 (n : Nat) : sXr := (none, sA0, [(0, 3, ([], 1), ([(2, 1)], 0)), (0, 0, ([(5, 1)], 0), ([(6, 1)], 0))], ([(43, (none, 3), ([(7, 1)], 0)), (86, (none, 4), ([], (n : Int)))], [], [], []), [], [])
theorem kdU2_b : ((List.range 20).all fun n => syfB swC sT0 (kdU2_m n) 400 0 172 (kdU2_L n) (kdU2_A n) (kdU2_P n) (kdU2_G n) (kdU2_B n) [] [kdU2_r0 n]) = true := by decide +kernel
theorem kdU2 {l : Launch} {Γ : zG} {d : Nat} (hd : 0 ≤ d) {Kp : Option Value → zH → Prop} {h : zH} {n : Nat} (h_n : n < 20) {on ot gr w : Int} (hi : sInv swC h) (b_on : 0 ≤ on ∧ on ≤ 7) (b_ot : 0 ≤ ot ∧ ot ≤ 7) (b_gr : 0 ≤ gr ∧ gr ≤ 999) (b_w : 0 ≤ w ∧ w ≤ 255) (p_nn : pI h 86 4 = ((n : Int) + 1)) (p_kd : pI h 87 n = 2) (p_on : pI h 88 n = on) (p_ot : pI h 89 n = ot) (p_gr : pI h 90 n = gr) (p_w : pI h 43 3 = w)
    (hR0 : ∀ (h' : zH) (w0 w1 : Int), sInv swC h' → sMd (kdU2_m n) h h' → w0 = sgfn 3 1 on → w1 = sgfn 0 w w0 → pI h' 43 3 = w1 → pI h' 86 4 = (n : Int) → Kp none h') : zSem l Γ false (d + 1) (zhd 172) [.ref 86, .ref 43] h Kp := by
  refine syf_ok (mi := 172) (fun i => [((n : Int) + 1), 2, on, ot, gr, w].getD i 0) (zall_r kdU2_b h_n) (fun _ _ hc _ => nomatch hc) hd ⟨_, _, rfl, rfl, ⟨_, _, rfl, rfl, rfl⟩⟩ ⟨rfl, rfl, trivial⟩ ⟨(fun _ hc => nomatch hc), (fun _ hc => nomatch hc), (fun _ hc => nomatch hc), Or.inl rfl⟩ ⟨⟨p_nn, by show ((n : Int) + 1) ≤ ((n : Int) + 1); omega, by show ((n : Int) + 1) ≤ ((n : Int) + 1); omega⟩, ⟨p_kd, by show 2 ≤ 2; omega, by show 2 ≤ 2; omega⟩, ⟨p_on, by show 0 ≤ on; omega, by show on ≤ 7; omega⟩, ⟨p_ot, by show 0 ≤ ot; omega, by show ot ≤ 7; omega⟩, ⟨p_gr, by show 0 ≤ gr; omega, by show gr ≤ 999; omega⟩, ⟨p_w, by show 0 ≤ w; omega, by show w ≤ 255; omega⟩, trivial⟩ trivial (fun _ hc => nomatch hc) hi ?_ ?_
  · intro e he lo' st' h' hp hi' hm
    cases he
  · intro e he r' h' hp hi' hm
    rcases List.mem_cons.mp he with rfl | he
    · obtain ⟨p1, -, hz⟩ := hp
      obtain ⟨w0, f0, hz⟩ := hz
      obtain ⟨w1, f1, hz⟩ := hz
      obtain ⟨⟨z1, z2, z3, z4⟩, z5, z6⟩ := hz
      have g0 : w0 = sgfn 3 1 on := (show w0 = sgfn 3 (0 + 1) ((1 * on + 0) + 0) from f0).trans (sgfn_c (by omega) (by omega))
      have g1 : w1 = sgfn 0 w w0 := (show w1 = sgfn 0 ((1 * w + 0) + 0) ((1 * w0 + 0) + 0) from f1).trans (sgfn_c (by omega) (by omega))
      have k0 : pI h' 43 3 = w1 := (show pI h' 43 3 = (1 * w1 + 0) + 0 from z1 (43, (none, 3), ([(7, 1)], 0)) (List.mem_of_getElem? (i := 0) rfl)).trans (by omega)
      have k1 : pI h' 86 4 = (n : Int) := (show pI h' 86 4 = 0 + (n : Int) from z1 (86, (none, 4), ([], (n : Int))) (List.mem_of_getElem? (i := 1) rfl)).trans (by omega)
      have p1 : r' = none := p1
      subst p1
      exact hR0 h' w0 w1 hi' hm g0 g1 k0 k1
    cases he
def kdU3_L : List (Nat × sT) := [(0, .inr (.inl 86)), (1, .inr (.inl 43))]
def kdU3_S : List sT := []
def kdU3_A : sAs := ([], [], [], [])
def kdU3_P : List sP0 := []
def kdU3_G : List sP0 := []
def kdU3_B : List (Nat × Nat × Int) := []
def kdU3_m : sM := []
def kdU3_r0 : sXr := (none, sA0, [], ([], [], [], []), [], [])
theorem kdU3_b : syeB swC sT0 kdU3_m 400 0 172 kdU3_L kdU3_S kdU3_A kdU3_P kdU3_G kdU3_B 53 [] [kdU3_r0] = true := by decide +kernel
theorem kdU3 {l : Launch} {Γ : zG} {d : Nat} (hd : 0 ≤ d) {Kp : Option Value → zH → Prop} {lo : zL} {h : zH} (hi : sInv swC h) (l0 : zget lo 0 = some (.ref 86)) (l1 : zget lo 1 = some (.ref 43))
    (hR0 : ∀ (h' : zH), sInv swC h' → sMd kdU3_m h h' → Kp none h') : zX l Γ false (d + 1) (zhd 172) (zMQ' Γ false (zhd 172) Kp) 0 0 53 lo [] h := by
  refine sye_ok (mi := 172) (pc := 53) (fun i => [].getD i 0) kdU3_b (fun _ _ hc _ => nomatch hc) hd ⟨l0, l1, trivial⟩ rfl ⟨(fun _ hc => nomatch hc), (fun _ hc => nomatch hc), (fun _ hc => nomatch hc), Or.inl rfl⟩ trivial trivial (fun _ hc => nomatch hc) hi ?_ ?_
  · intro e he lo' st' h' hp hi' hm
    cases he
  · intro e he r' h' hp hi' hm
    rcases List.mem_cons.mp he with rfl | he
    · obtain ⟨p1, -, hz⟩ := hp
      obtain ⟨⟨z1, z2, z3, z4⟩, z5, z6⟩ := hz
      have p1 : r' = none := p1
      subst p1
      exact hR0 h' hi' hm
    cases he
def kdU4_L : List (Nat × sT) := [(0, .inr (.inl 86)), (1, .inr (.inl 43))]
def kdU4_S : List sT := []
def kdU4_A : sAs := ([], [], [], [])
def kdU4_P : List sP0 := []
def kdU4_G : List sP0 := []
def kdU4_B : List (Nat × Nat × Int) := []
def kdU4_m : sM := []
def kdU4_r0 : sXr := (none, sA0, [], ([], [], [], []), [], [])
theorem kdU4_b : syeB swC sT0 kdU4_m 400 0 172 kdU4_L kdU4_S kdU4_A kdU4_P kdU4_G kdU4_B 101 [] [kdU4_r0] = true := by decide +kernel
theorem kdU4 {l : Launch} {Γ : zG} {d : Nat} (hd : 0 ≤ d) {Kp : Option Value → zH → Prop} {lo : zL} {h : zH} (hi : sInv swC h) (l0 : zget lo 0 = some (.ref 86)) (l1 : zget lo 1 = some (.ref 43))
    (hR0 : ∀ (h' : zH), sInv swC h' → sMd kdU4_m h h' → Kp none h') : zX l Γ false (d + 1) (zhd 172) (zMQ' Γ false (zhd 172) Kp) 0 0 101 lo [] h := by
  refine sye_ok (mi := 172) (pc := 101) (fun i => [].getD i 0) kdU4_b (fun _ _ hc _ => nomatch hc) hd ⟨l0, l1, trivial⟩ rfl ⟨(fun _ hc => nomatch hc), (fun _ hc => nomatch hc), (fun _ hc => nomatch hc), Or.inl rfl⟩ trivial trivial (fun _ hc => nomatch hc) hi ?_ ?_
  · intro e he lo' st' h' hp hi' hm
    cases he
  · intro e he r' h' hp hi' hm
    rcases List.mem_cons.mp he with rfl | he
    · obtain ⟨p1, -, hz⟩ := hp
      obtain ⟨⟨z1, z2, z3, z4⟩, z5, z6⟩ := hz
      have p1 : r' = none := p1
      subst p1
      exact hR0 h' hi' hm
    cases he
def kdG0_L (t : Nat) : List sT := [.inr (.inl 0), .inl sf32]
def kdG0_A (t : Nat) : sAs := ([], [(0, 5, (17 * t + 9))], [], [])
def kdG0_P (t : Nat) : List sP0 := [(43, (none, 0), (0, 2000000000)), (86, (none, 4), (0, 20))]
def kdG0_G (t : Nat) : List sP0 := []
def kdG0_B (t : Nat) : List (Nat × Nat × Int) := []
def kdG0_m (t : Nat) : sM := [(86, 4, 5)]
def kdG0_e0 (t : Nat) : sXe := (47, [.inr (.inl (17 * t + 9)), .inr (.inl 61)], [(0, .inr (.inl 0)), (1, .inl sf32)], sA0, [], ([(86, (none, 4), ([(2, 1)], 0))], [], [(1, ([(0, 1)], 0))], [([(0, 1)], 0), ([(0, (-1))], 200), ([(0, (-1)), (1, (-1))], 9000), ([(0, (-1))], 0)]), [], [])
def kdG0_e1 (t : Nat) : sXe := (47, [.inr (.inl (17 * t + 9)), .inr (.inl 61)], [(0, .inr (.inl 0)), (1, .inl sf32)], sA0, [], ([(86, (none, 4), ([], 0))], [], [(1, ([(0, 1)], 0))], [([(0, 1)], 0), ([(0, (-1))], 200), ([(0, (-1)), (1, (-1))], 9000), ([(0, 1)], (-1))]), [], [])
def kdG0_r0 (t : Nat) : sXr := (some (.inl sf32), sA0, [], ([(86, (none, 4), ([(2, 1)], 0))], [(0, ([], (-1)))], [], [([(0, (-1))], (-1))]), [], [])
def kdG0_r1 (t : Nat) : sXr := (some (.inl sf32), sA0, [], ([(86, (none, 4), ([(2, 1)], 0))], [(0, ([], (-1)))], [], [([(0, 1)], 0), ([(0, (-1))], 200), ([(0, 1), (1, 1)], (-9001))]), [], [])
def kdG0_r2 (t : Nat) : sXr := (some (.inl sf32), sA0, [], ([(86, (none, 4), ([(2, 1)], 0))], [(0, ([], (-1)))], [], [([(0, 1)], 0), ([(0, 1)], (-201))]), [], [])
theorem kdG0_b : ((List.range 2).all fun t => syfB swC sT0 (kdG0_m t) 400 1 98 (kdG0_L t) (kdG0_A t) (kdG0_P t) (kdG0_G t) (kdG0_B t) [kdG0_e0 t, kdG0_e1 t] [kdG0_r0 t, kdG0_r1 t, kdG0_r2 t]) = true := by decide +kernel
theorem kdG0 {l : Launch} {Γ : zG} {d : Nat} (hd : 1 ≤ d) {Kp : Option Value → zH → Prop} {h : zH} {t : Nat} (h_t : t < 2) {x m nn : Int} (hi : sInv swC h) (b_x : (-2147483648) ≤ x ∧ x ≤ 2147483647) (b_m : 0 ≤ m ∧ m ≤ 2000000000) (b_nn : 0 ≤ nn ∧ nn ≤ 20) {x_x : Int32} (e_x : x_x.toInt = x) (p_m : pI h 43 0 = m) (p_nn : pI h 86 4 = nn) (q0 : h.2.2.2 0 5 = some (17 * t + 9))
    (hE0 : ∀ (lo' : zL) (h' : zH), sInv swC h' → sMd (kdG0_m t) h h' → 0 ≤ x → 0 ≤ -x + 200 → 0 ≤ -x - m + 9000 → 0 ≤ -x → pI h' 86 4 = nn → zget lo' 0 = some (.ref 0) → zI lo' 1 x → zX l Γ false (d + 1) (zhd 98) (zMQ' Γ false (zhd 98) Kp) 0 0 47 lo' [.ref (17 * t + 9), .ref 61] h')
    (hE1 : ∀ (lo' : zL) (h' : zH), sInv swC h' → sMd (kdG0_m t) h h' → 0 ≤ x → 0 ≤ -x + 200 → 0 ≤ -x - m + 9000 → 0 ≤ x - 1 → pI h' 86 4 = 0 → zget lo' 0 = some (.ref 0) → zI lo' 1 x → zX l Γ false (d + 1) (zhd 98) (zMQ' Γ false (zhd 98) Kp) 0 0 47 lo' [.ref (17 * t + 9), .ref 61] h')
    (hR0 : ∀ (h' : zH) (r_ : Int32), sInv swC h' → sMd (kdG0_m t) h h' → 0 ≤ -x - 1 → pI h' 86 4 = nn → r_.toInt = (-1) → Kp (some (.int r_)) h')
    (hR1 : ∀ (h' : zH) (r_ : Int32), sInv swC h' → sMd (kdG0_m t) h h' → 0 ≤ x → 0 ≤ -x + 200 → 0 ≤ x + m - 9001 → pI h' 86 4 = nn → r_.toInt = (-1) → Kp (some (.int r_)) h')
    (hR2 : ∀ (h' : zH) (r_ : Int32), sInv swC h' → sMd (kdG0_m t) h h' → 0 ≤ x → 0 ≤ x - 201 → pI h' 86 4 = nn → r_.toInt = (-1) → Kp (some (.int r_)) h') : zSem l Γ false (d + 1) (zhd 98) [.ref 0, .int x_x] h Kp := by
  refine syf_ok (mi := 98) (fun i => [x, m, nn].getD i 0) (zall_r kdG0_b h_t) (fun _ _ hc _ => nomatch hc) hd ⟨_, _, rfl, rfl, ⟨_, _, rfl, ⟨x_x, rfl, by show (-2147483648) ≤ x_x.toInt; omega, by show x_x.toInt ≤ 2147483647; omega⟩, rfl⟩⟩ ⟨rfl, ⟨x_x, rfl, e_x, by show (-2147483648) ≤ x; omega, by show x ≤ 2147483647; omega⟩, trivial⟩ ⟨(fun _ hc => nomatch hc), (sfm q0 (fun _ hc => nomatch hc)), (fun _ hc => nomatch hc), Or.inl rfl⟩ ⟨⟨p_m, by show 0 ≤ m; omega, by show m ≤ 2000000000; omega⟩, ⟨p_nn, by show 0 ≤ nn; omega, by show nn ≤ 20; omega⟩, trivial⟩ trivial (fun _ hc => nomatch hc) hi ?_ ?_
  · intro e he lo' st' h' hp hi' hm
    rcases List.mem_cons.mp he with rfl | he
    · obtain ⟨p1, p2, -, hz⟩ := hp
      obtain ⟨⟨z1, z2, z3, z4⟩, z5, z6⟩ := hz
      have c0 : 0 ≤ x := by have q_ : (0 : Int) ≤ (1 * x + 0) + 0 := z4 ([(0, 1)], 0) (List.mem_of_getElem? (i := 0) rfl); omega
      have c1 : 0 ≤ -x + 200 := by have q_ : (0 : Int) ≤ ((-1) * x + 0) + 200 := z4 ([(0, (-1))], 200) (List.mem_of_getElem? (i := 1) rfl); omega
      have c2 : 0 ≤ -x - m + 9000 := by have q_ : (0 : Int) ≤ ((-1) * x + ((-1) * m + 0)) + 9000 := z4 ([(0, (-1)), (1, (-1))], 9000) (List.mem_of_getElem? (i := 2) rfl); omega
      have c3 : 0 ≤ -x := by have q_ : (0 : Int) ≤ ((-1) * x + 0) + 0 := z4 ([(0, (-1))], 0) (List.mem_of_getElem? (i := 3) rfl); omega
      have k0 : pI h' 86 4 = nn := (show pI h' 86 4 = (1 * nn + 0) + 0 from z1 (86, (none, 4), ([(2, 1)], 0)) (List.mem_of_getElem? (i := 0) rfl)).trans (by omega)
      have o0 : zget lo' 0 = some (.ref 0) := locR (p2 (0, .inr (.inl 0)) (List.mem_of_getElem? (i := 0) rfl))
      have o1 : zI lo' 1 x := zI_of (p2 (1, .inl sf32) (List.mem_of_getElem? (i := 1) rfl)) (z3 (1, ([(0, 1)], 0)) (List.mem_of_getElem? (i := 0) rfl)) (show (1 * x + 0) + 0 = x from by omega)
      obtain ⟨_, _, rfl, hr, p1⟩ := p1
      have hr : _ = Value.ref (17 * t + 9) := hr
      subst hr
      obtain ⟨_, _, rfl, hr, p1⟩ := p1
      have hr : _ = Value.ref 61 := hr
      subst hr
      have p1 : _ = [] := p1
      subst p1
      exact hE0 lo' h' hi' hm c0 c1 c2 c3 k0 o0 o1
    rcases List.mem_cons.mp he with rfl | he
    · obtain ⟨p1, p2, -, hz⟩ := hp
      obtain ⟨⟨z1, z2, z3, z4⟩, z5, z6⟩ := hz
      have c0 : 0 ≤ x := by have q_ : (0 : Int) ≤ (1 * x + 0) + 0 := z4 ([(0, 1)], 0) (List.mem_of_getElem? (i := 0) rfl); omega
      have c1 : 0 ≤ -x + 200 := by have q_ : (0 : Int) ≤ ((-1) * x + 0) + 200 := z4 ([(0, (-1))], 200) (List.mem_of_getElem? (i := 1) rfl); omega
      have c2 : 0 ≤ -x - m + 9000 := by have q_ : (0 : Int) ≤ ((-1) * x + ((-1) * m + 0)) + 9000 := z4 ([(0, (-1)), (1, (-1))], 9000) (List.mem_of_getElem? (i := 2) rfl); omega
      have c3 : 0 ≤ x - 1 := by have q_ : (0 : Int) ≤ (1 * x + 0) + (-1) := z4 ([(0, 1)], (-1)) (List.mem_of_getElem? (i := 3) rfl); omega
      have k0 : pI h' 86 4 = 0 := (show pI h' 86 4 = 0 + 0 from z1 (86, (none, 4), ([], 0)) (List.mem_of_getElem? (i := 0) rfl)).trans (by omega)
      have o0 : zget lo' 0 = some (.ref 0) := locR (p2 (0, .inr (.inl 0)) (List.mem_of_getElem? (i := 0) rfl))
      have o1 : zI lo' 1 x := zI_of (p2 (1, .inl sf32) (List.mem_of_getElem? (i := 1) rfl)) (z3 (1, ([(0, 1)], 0)) (List.mem_of_getElem? (i := 0) rfl)) (show (1 * x + 0) + 0 = x from by omega)
      obtain ⟨_, _, rfl, hr, p1⟩ := p1
      have hr : _ = Value.ref (17 * t + 9) := hr
      subst hr
      obtain ⟨_, _, rfl, hr, p1⟩ := p1
      have hr : _ = Value.ref 61 := hr
      subst hr
      have p1 : _ = [] := p1
      subst p1
      exact hE1 lo' h' hi' hm c0 c1 c2 c3 k0 o0 o1
    cases he
  · intro e he r' h' hp hi' hm
    rcases List.mem_cons.mp he with rfl | he
    · obtain ⟨p1, -, hz⟩ := hp
      obtain ⟨⟨z1, z2, z3, z4⟩, z5, z6⟩ := hz
      have c0 : 0 ≤ -x - 1 := by have q_ : (0 : Int) ≤ ((-1) * x + 0) + (-1) := z4 ([(0, (-1))], (-1)) (List.mem_of_getElem? (i := 0) rfl); omega
      have k0 : pI h' 86 4 = nn := (show pI h' 86 4 = (1 * nn + 0) + 0 from z1 (86, (none, 4), ([(2, 1)], 0)) (List.mem_of_getElem? (i := 0) rfl)).trans (by omega)
      obtain ⟨r_, rfl, hv⟩ := ansI p1 (z2 (0, ([], (-1))) (List.mem_of_getElem? (i := 0) rfl))
      have s0 : r_.toInt = (-1) := (show r_.toInt = 0 + (-1) from hv).trans (by omega)
      exact hR0 h' r_ hi' hm c0 k0 s0
    rcases List.mem_cons.mp he with rfl | he
    · obtain ⟨p1, -, hz⟩ := hp
      obtain ⟨⟨z1, z2, z3, z4⟩, z5, z6⟩ := hz
      have c0 : 0 ≤ x := by have q_ : (0 : Int) ≤ (1 * x + 0) + 0 := z4 ([(0, 1)], 0) (List.mem_of_getElem? (i := 0) rfl); omega
      have c1 : 0 ≤ -x + 200 := by have q_ : (0 : Int) ≤ ((-1) * x + 0) + 200 := z4 ([(0, (-1))], 200) (List.mem_of_getElem? (i := 1) rfl); omega
      have c2 : 0 ≤ x + m - 9001 := by have q_ : (0 : Int) ≤ (1 * x + (1 * m + 0)) + (-9001) := z4 ([(0, 1), (1, 1)], (-9001)) (List.mem_of_getElem? (i := 2) rfl); omega
      have k0 : pI h' 86 4 = nn := (show pI h' 86 4 = (1 * nn + 0) + 0 from z1 (86, (none, 4), ([(2, 1)], 0)) (List.mem_of_getElem? (i := 0) rfl)).trans (by omega)
      obtain ⟨r_, rfl, hv⟩ := ansI p1 (z2 (0, ([], (-1))) (List.mem_of_getElem? (i := 0) rfl))
      have s0 : r_.toInt = (-1) := (show r_.toInt = 0 + (-1) from hv).trans (by omega)
      exact hR1 h' r_ hi' hm c0 c1 c2 k0 s0
    rcases List.mem_cons.mp he with rfl | he
    · obtain ⟨p1, -, hz⟩ := hp
      obtain ⟨⟨z1, z2, z3, z4⟩, z5, z6⟩ := hz
      have c0 : 0 ≤ x := by have q_ : (0 : Int) ≤ (1 * x + 0) + 0 := z4 ([(0, 1)], 0) (List.mem_of_getElem? (i := 0) rfl); omega
      have c1 : 0 ≤ x - 201 := by have q_ : (0 : Int) ≤ (1 * x + 0) + (-201) := z4 ([(0, 1)], (-201)) (List.mem_of_getElem? (i := 1) rfl); omega
      have k0 : pI h' 86 4 = nn := (show pI h' 86 4 = (1 * nn + 0) + 0 from z1 (86, (none, 4), ([(2, 1)], 0)) (List.mem_of_getElem? (i := 0) rfl)).trans (by omega)
      obtain ⟨r_, rfl, hv⟩ := ansI p1 (z2 (0, ([], (-1))) (List.mem_of_getElem? (i := 0) rfl))
      have s0 : r_.toInt = (-1) := (show r_.toInt = 0 + (-1) from hv).trans (by omega)
      exact hR2 h' r_ hi' hm c0 c1 k0 s0
    cases he
def kdG1_L : List (Nat × sT) := [(0, .inr (.inl 0)), (1, .inl (0, 200))]
def kdG1_S : List sT := []
def kdG1_A : sAs := ([], [], [], [])
def kdG1_P : List sP0 := []
def kdG1_G : List sP0 := []
def kdG1_B : List (Nat × Nat × Int) := []
def kdG1_m : sM := []
def kdG1_e0 : sXe := (59, [.inl sf32, .inr (.inl 43), .inr (.inl 61)], [(0, .inr (.inl 0))], sA0, [], ([], [(0, ([(0, 1)], 0))], [], []), [], [])
theorem kdG1_b : syeB swC sT0 kdG1_m 400 0 98 kdG1_L kdG1_S kdG1_A kdG1_P kdG1_G kdG1_B 50 [kdG1_e0] [] = true := by decide +kernel
theorem kdG1 {l : Launch} {Γ : zG} {d : Nat} (hd : 0 ≤ d) {Kp : Option Value → zH → Prop} {lo : zL} {h : zH} {x : Int} (hi : sInv swC h) (b_x : 0 ≤ x ∧ x ≤ 200) (l0 : zget lo 0 = some (.ref 0)) (l1 : zI lo 1 x)
    (hE0 : ∀ (lo' : zL) (h' : zH) (y0 : Int32), sInv swC h' → sMd kdG1_m h h' → zget lo' 0 = some (.ref 0) → y0.toInt = x → zX l Γ false (d + 1) (zhd 98) (zMQ' Γ false (zhd 98) Kp) 0 0 59 lo' [.int y0, .ref 43, .ref 61] h') : zX l Γ false (d + 1) (zhd 98) (zMQ' Γ false (zhd 98) Kp) 0 0 50 lo [] h := by
  refine sye_ok (mi := 98) (pc := 50) (fun i => [x].getD i 0) kdG1_b (fun _ _ hc _ => nomatch hc) hd ⟨l0, zIm l1 (by show 0 ≤ x; omega) (by show x ≤ 200; omega), trivial⟩ rfl ⟨(fun _ hc => nomatch hc), (fun _ hc => nomatch hc), (fun _ hc => nomatch hc), Or.inl rfl⟩ trivial trivial (fun _ hc => nomatch hc) hi ?_ ?_
  · intro e he lo' st' h' hp hi' hm
    rcases List.mem_cons.mp he with rfl | he
    · obtain ⟨p1, p2, -, hz⟩ := hp
      obtain ⟨⟨z1, z2, z3, z4⟩, z5, z6⟩ := hz
      have o0 : zget lo' 0 = some (.ref 0) := locR (p2 (0, .inr (.inl 0)) (List.mem_of_getElem? (i := 0) rfl))
      obtain ⟨_, _, rfl, ⟨y0, rfl, -⟩, p1⟩ := p1
      obtain ⟨_, _, rfl, hr, p1⟩ := p1
      have hr : _ = Value.ref 43 := hr
      subst hr
      obtain ⟨_, _, rfl, hr, p1⟩ := p1
      have hr : _ = Value.ref 61 := hr
      subst hr
      have p1 : _ = [] := p1
      subst p1
      obtain ⟨v_, ev, hv⟩ := z2 (0, ([(0, 1)], 0)) (List.mem_of_getElem? (i := 0) rfl)
      cases ev
      have s0 : y0.toInt = x := (show y0.toInt = (1 * x + 0) + 0 from hv).trans (by omega)
      exact hE0 lo' h' y0 hi' hm o0 s0
    cases he
  · intro e he r' h' hp hi' hm
    cases he
def kdG2_L : List (Nat × sT) := [(0, .inr (.inl 0))]
def kdG2_S : List sT := []
def kdG2_A : sAs := ([], [], [], [])
def kdG2_P : List sP0 := [(43, (none, 0), sf32)]
def kdG2_G : List sP0 := []
def kdG2_B : List (Nat × Nat × Int) := []
def kdG2_m : sM := []
def kdG2_r0 : sXr := (some (.inl sf32), sA0, [], ([], [(0, ([(0, 1)], 0))], [], []), [], [])
theorem kdG2_b : syeB swC sT0 kdG2_m 400 0 98 kdG2_L kdG2_S kdG2_A kdG2_P kdG2_G kdG2_B 62 [] [kdG2_r0] = true := by decide +kernel
theorem kdG2 {l : Launch} {Γ : zG} {d : Nat} (hd : 0 ≤ d) {Kp : Option Value → zH → Prop} {lo : zL} {h : zH} {m : Int} (hi : sInv swC h) (b_m : (-2147483648) ≤ m ∧ m ≤ 2147483647) (l0 : zget lo 0 = some (.ref 0)) (p_m : pI h 43 0 = m)
    (hR0 : ∀ (h' : zH) (r_ : Int32), sInv swC h' → sMd kdG2_m h h' → r_.toInt = m → Kp (some (.int r_)) h') : zX l Γ false (d + 1) (zhd 98) (zMQ' Γ false (zhd 98) Kp) 0 0 62 lo [] h := by
  refine sye_ok (mi := 98) (pc := 62) (fun i => [m].getD i 0) kdG2_b (fun _ _ hc _ => nomatch hc) hd ⟨l0, trivial⟩ rfl ⟨(fun _ hc => nomatch hc), (fun _ hc => nomatch hc), (fun _ hc => nomatch hc), Or.inl rfl⟩ ⟨⟨p_m, by show (-2147483648) ≤ m; omega, by show m ≤ 2147483647; omega⟩, trivial⟩ trivial (fun _ hc => nomatch hc) hi ?_ ?_
  · intro e he lo' st' h' hp hi' hm
    cases he
  · intro e he r' h' hp hi' hm
    rcases List.mem_cons.mp he with rfl | he
    · obtain ⟨p1, -, hz⟩ := hp
      obtain ⟨⟨z1, z2, z3, z4⟩, z5, z6⟩ := hz
      obtain ⟨r_, rfl, hv⟩ := ansI p1 (z2 (0, ([(0, 1)], 0)) (List.mem_of_getElem? (i := 0) rfl))
      have s0 : r_.toInt = m := (show r_.toInt = (1 * m + 0) + 0 from hv).trans (by omega)
      exact hR0 h' r_ hi' hm s0
    cases he
def kdV0_L : List sT := [.inr (.inl 0)]
def kdV0_A : sAs := ([], [], [], [])
def kdV0_P : List sP0 := [(86, (none, 4), (0, 20))]
def kdV0_G : List sP0 := []
def kdV0_B : List (Nat × Nat × Int) := []
def kdV0_m : sM := []
def kdV0_e0 : sXe := (20, [.inr (.inl 43), .inr (.inl 86)], [(0, .inr (.inl 0))], sA0, [], ([], [], [], []), [(([(0, 1)], 0), ([], 0))], [])
def kdV0_r0 : sXr := (some (.inl sf32), sA0, [], ([], [(0, ([], (-1)))], [], [([(0, 1)], 0), ([(0, (-1))], 0)]), [], [])
theorem kdV0_b : syfB swC sT0 kdV0_m 400 0 171 kdV0_L kdV0_A kdV0_P kdV0_G kdV0_B [kdV0_e0] [kdV0_r0] = true := by decide +kernel
theorem kdV0 {l : Launch} {Γ : zG} {d : Nat} (hd : 0 ≤ d) {Kp : Option Value → zH → Prop} {h : zH} {nn : Int} (hi : sInv swC h) (b_nn : 0 ≤ nn ∧ nn ≤ 20) (p_nn : pI h 86 4 = nn)
    (hE0 : ∀ (lo' : zL) (h' : zH), sInv swC h' → sMd kdV0_m h h' → nn ≠ 0 → zget lo' 0 = some (.ref 0) → zX l Γ false (d + 1) (zhd 171) (zMQ' Γ false (zhd 171) Kp) 0 0 20 lo' [.ref 43, .ref 86] h')
    (hR0 : ∀ (h' : zH) (r_ : Int32), sInv swC h' → sMd kdV0_m h h' → nn = 0 → r_.toInt = (-1) → Kp (some (.int r_)) h') : zSem l Γ false (d + 1) (zhd 171) [.ref 0] h Kp := by
  refine syf_ok (mi := 171) (fun i => [nn].getD i 0) kdV0_b (fun _ _ hc _ => nomatch hc) hd ⟨_, _, rfl, rfl, rfl⟩ ⟨rfl, trivial⟩ ⟨(fun _ hc => nomatch hc), (fun _ hc => nomatch hc), (fun _ hc => nomatch hc), Or.inl rfl⟩ ⟨⟨p_nn, by show 0 ≤ nn; omega, by show nn ≤ 20; omega⟩, trivial⟩ trivial (fun _ hc => nomatch hc) hi ?_ ?_
  · intro e he lo' st' h' hp hi' hm
    rcases List.mem_cons.mp he with rfl | he
    · obtain ⟨p1, p2, -, hz⟩ := hp
      obtain ⟨⟨z1, z2, z3, z4⟩, z5, z6⟩ := hz
      have n0 : nn ≠ 0 := fun e_ => z5 (([(0, 1)], 0), ([], 0)) (List.mem_of_getElem? (i := 0) rfl) (by show (1 * nn + 0) + 0 = 0 + 0; omega)
      have o0 : zget lo' 0 = some (.ref 0) := locR (p2 (0, .inr (.inl 0)) (List.mem_of_getElem? (i := 0) rfl))
      obtain ⟨_, _, rfl, hr, p1⟩ := p1
      have hr : _ = Value.ref 43 := hr
      subst hr
      obtain ⟨_, _, rfl, hr, p1⟩ := p1
      have hr : _ = Value.ref 86 := hr
      subst hr
      have p1 : _ = [] := p1
      subst p1
      exact hE0 lo' h' hi' hm n0 o0
    cases he
  · intro e he r' h' hp hi' hm
    rcases List.mem_cons.mp he with rfl | he
    · obtain ⟨p1, -, hz⟩ := hp
      obtain ⟨⟨z1, z2, z3, z4⟩, z5, z6⟩ := hz
      have c0 : nn = 0 := by have q_ : (0 : Int) ≤ (1 * nn + 0) + 0 := z4 ([(0, 1)], 0) (List.mem_of_getElem? (i := 0) rfl); have q2_ : (0 : Int) ≤ ((-1) * nn + 0) + 0 := z4 ([(0, (-1))], 0) (List.mem_of_getElem? (i := 1) rfl); omega
      obtain ⟨r_, rfl, hv⟩ := ansI p1 (z2 (0, ([], (-1))) (List.mem_of_getElem? (i := 0) rfl))
      have s0 : r_.toInt = (-1) := (show r_.toInt = 0 + (-1) from hv).trans (by omega)
      exact hR0 h' r_ hi' hm c0 s0
    cases he
def kdV1_L : List (Nat × sT) := [(0, .inr (.inl 0))]
def kdV1_S : List sT := []
def kdV1_A : sAs := ([], [], [], [])
def kdV1_P : List sP0 := [(86, (none, 4), (0, 20))]
def kdV1_G : List sP0 := []
def kdV1_B : List (Nat × Nat × Int) := []
def kdV1_m : sM := []
def kdV1_r0 : sXr := (some (.inl sf32), sA0, [], ([], [(0, ([(0, 1)], 0))], [], []), [], [])
theorem kdV1_b : syeB swC sT0 kdV1_m 400 0 171 kdV1_L kdV1_S kdV1_A kdV1_P kdV1_G kdV1_B 23 [] [kdV1_r0] = true := by decide +kernel
theorem kdV1 {l : Launch} {Γ : zG} {d : Nat} (hd : 0 ≤ d) {Kp : Option Value → zH → Prop} {lo : zL} {h : zH} {nn : Int} (hi : sInv swC h) (b_nn : 0 ≤ nn ∧ nn ≤ 20) (l0 : zget lo 0 = some (.ref 0)) (p_nn : pI h 86 4 = nn)
    (hR0 : ∀ (h' : zH) (r_ : Int32), sInv swC h' → sMd kdV1_m h h' → r_.toInt = nn → Kp (some (.int r_)) h') : zX l Γ false (d + 1) (zhd 171) (zMQ' Γ false (zhd 171) Kp) 0 0 23 lo [] h := by
  refine sye_ok (mi := 171) (pc := 23) (fun i => [nn].getD i 0) kdV1_b (fun _ _ hc _ => nomatch hc) hd ⟨l0, trivial⟩ rfl ⟨(fun _ hc => nomatch hc), (fun _ hc => nomatch hc), (fun _ hc => nomatch hc), Or.inl rfl⟩ ⟨⟨p_nn, by show 0 ≤ nn; omega, by show nn ≤ 20; omega⟩, trivial⟩ trivial (fun _ hc => nomatch hc) hi ?_ ?_
  · intro e he lo' st' h' hp hi' hm
    cases he
  · intro e he r' h' hp hi' hm
    rcases List.mem_cons.mp he with rfl | he
    · obtain ⟨p1, -, hz⟩ := hp
      obtain ⟨⟨z1, z2, z3, z4⟩, z5, z6⟩ := hz
      obtain ⟨r_, rfl, hv⟩ := ansI p1 (z2 (0, ([(0, 1)], 0)) (List.mem_of_getElem? (i := 0) rfl))
      have s0 : r_.toInt = nn := (show r_.toInt = (1 * nn + 0) + 0 from hv).trans (by omega)
      exact hR0 h' r_ hi' hm s0
    cases he
def kdE0_L : List sT := [.inr (.inl 0)]
def kdE0_A : sAs := ([], [], [], [])
def kdE0_P : List sP0 := []
def kdE0_G : List sP0 := []
def kdE0_B : List (Nat × Nat × Int) := []
def kdE0_m : sM := []
def kdE0_e0 : sXe := (8, [.inr (.inl 43), .inr (.inl 49)], [(0, .inr (.inl 0))], sA0, [], ([], [], [], []), [], [])
theorem kdE0_b : syfB swC sT0 kdE0_m 400 0 173 kdE0_L kdE0_A kdE0_P kdE0_G kdE0_B [kdE0_e0] [] = true := by decide +kernel
theorem kdE0 {l : Launch} {Γ : zG} {d : Nat} (hd : 0 ≤ d) {Kp : Option Value → zH → Prop} {h : zH} (hi : sInv swC h) 
    (hE0 : ∀ (lo' : zL) (h' : zH), sInv swC h' → sMd kdE0_m h h' → zget lo' 0 = some (.ref 0) → zX l Γ false (d + 1) (zhd 173) (zMQ' Γ false (zhd 173) Kp) 0 0 8 lo' [.ref 43, .ref 49] h') : zSem l Γ false (d + 1) (zhd 173) [.ref 0] h Kp := by
  refine syf_ok (mi := 173) (fun i => [].getD i 0) kdE0_b (fun _ _ hc _ => nomatch hc) hd ⟨_, _, rfl, rfl, rfl⟩ ⟨rfl, trivial⟩ ⟨(fun _ hc => nomatch hc), (fun _ hc => nomatch hc), (fun _ hc => nomatch hc), Or.inl rfl⟩ trivial trivial (fun _ hc => nomatch hc) hi ?_ ?_
  · intro e he lo' st' h' hp hi' hm
    rcases List.mem_cons.mp he with rfl | he
    · obtain ⟨p1, p2, -, hz⟩ := hp
      obtain ⟨⟨z1, z2, z3, z4⟩, z5, z6⟩ := hz
      have o0 : zget lo' 0 = some (.ref 0) := locR (p2 (0, .inr (.inl 0)) (List.mem_of_getElem? (i := 0) rfl))
      obtain ⟨_, _, rfl, hr, p1⟩ := p1
      have hr : _ = Value.ref 43 := hr
      subst hr
      obtain ⟨_, _, rfl, hr, p1⟩ := p1
      have hr : _ = Value.ref 49 := hr
      subst hr
      have p1 : _ = [] := p1
      subst p1
      exact hE0 lo' h' hi' hm o0
    cases he
  · intro e he r' h' hp hi' hm
    cases he
def kdE1_L : List (Nat × sT) := [(0, .inr (.inl 0))]
def kdE1_S : List sT := []
def kdE1_A : sAs := ([], [], [], [])
def kdE1_P : List sP0 := [(43, (none, 0), sf32)]
def kdE1_G : List sP0 := []
def kdE1_B : List (Nat × Nat × Int) := []
def kdE1_m : sM := [(0, 9, 10)]
def kdE1_r0 : sXr := (some (.inl sf32), sA0, [], ([(0, (none, 9), ([], 1))], [(0, ([(0, 1)], 0))], [], []), [], [])
theorem kdE1_b : syeB swC sT0 kdE1_m 400 0 173 kdE1_L kdE1_S kdE1_A kdE1_P kdE1_G kdE1_B 11 [] [kdE1_r0] = true := by decide +kernel
theorem kdE1 {l : Launch} {Γ : zG} {d : Nat} (hd : 0 ≤ d) {Kp : Option Value → zH → Prop} {lo : zL} {h : zH} {m : Int} (hi : sInv swC h) (b_m : (-2147483648) ≤ m ∧ m ≤ 2147483647) (l0 : zget lo 0 = some (.ref 0)) (p_m : pI h 43 0 = m)
    (hR0 : ∀ (h' : zH) (r_ : Int32), sInv swC h' → sMd kdE1_m h h' → pI h' 0 9 = 1 → r_.toInt = m → Kp (some (.int r_)) h') : zX l Γ false (d + 1) (zhd 173) (zMQ' Γ false (zhd 173) Kp) 0 0 11 lo [] h := by
  refine sye_ok (mi := 173) (pc := 11) (fun i => [m].getD i 0) kdE1_b (fun _ _ hc _ => nomatch hc) hd ⟨l0, trivial⟩ rfl ⟨(fun _ hc => nomatch hc), (fun _ hc => nomatch hc), (fun _ hc => nomatch hc), Or.inl rfl⟩ ⟨⟨p_m, by show (-2147483648) ≤ m; omega, by show m ≤ 2147483647; omega⟩, trivial⟩ trivial (fun _ hc => nomatch hc) hi ?_ ?_
  · intro e he lo' st' h' hp hi' hm
    cases he
  · intro e he r' h' hp hi' hm
    rcases List.mem_cons.mp he with rfl | he
    · obtain ⟨p1, -, hz⟩ := hp
      obtain ⟨⟨z1, z2, z3, z4⟩, z5, z6⟩ := hz
      have k0 : pI h' 0 9 = 1 := (show pI h' 0 9 = 0 + 1 from z1 (0, (none, 9), ([], 1)) (List.mem_of_getElem? (i := 0) rfl)).trans (by omega)
      obtain ⟨r_, rfl, hv⟩ := ansI p1 (z2 (0, ([(0, 1)], 0)) (List.mem_of_getElem? (i := 0) rfl))
      have s0 : r_.toInt = m := (show r_.toInt = (1 * m + 0) + 0 from hv).trans (by omega)
      exact hR0 h' r_ hi' hm k0 s0
    cases he
def kdH0_L : List sT := [.inr (.inl 0)]
def kdH0_A : sAs := ([], [], [], [])
def kdH0_P : List sP0 := [(0, (none, 9), (0, 1))]
def kdH0_G : List sP0 := []
def kdH0_B : List (Nat × Nat × Int) := []
def kdH0_m : sM := []
def kdH0_e0 : sXe := (17, [.inr (.inl 49), .inr (.inl 43)], [(0, .inr (.inl 0))], sA0, [], ([], [], [], []), [(([(0, 1)], 0), ([], 0))], [])
def kdH0_r0 : sXr := (some (.inl sf32), sA0, [], ([], [(0, ([], (-1)))], [], [([(0, 1)], 0), ([(0, (-1))], 0)]), [], [])
theorem kdH0_b : syfB swC sT0 kdH0_m 400 0 174 kdH0_L kdH0_A kdH0_P kdH0_G kdH0_B [kdH0_e0] [kdH0_r0] = true := by decide +kernel
theorem kdH0 {l : Launch} {Γ : zG} {d : Nat} (hd : 0 ≤ d) {Kp : Option Value → zH → Prop} {h : zH} {hi_ : Int} (hi : sInv swC h) (b_hi_ : 0 ≤ hi_ ∧ hi_ ≤ 1) (p_hi_ : pI h 0 9 = hi_)
    (hE0 : ∀ (lo' : zL) (h' : zH), sInv swC h' → sMd kdH0_m h h' → hi_ ≠ 0 → zget lo' 0 = some (.ref 0) → zX l Γ false (d + 1) (zhd 174) (zMQ' Γ false (zhd 174) Kp) 0 0 17 lo' [.ref 49, .ref 43] h')
    (hR0 : ∀ (h' : zH) (r_ : Int32), sInv swC h' → sMd kdH0_m h h' → hi_ = 0 → r_.toInt = (-1) → Kp (some (.int r_)) h') : zSem l Γ false (d + 1) (zhd 174) [.ref 0] h Kp := by
  refine syf_ok (mi := 174) (fun i => [hi_].getD i 0) kdH0_b (fun _ _ hc _ => nomatch hc) hd ⟨_, _, rfl, rfl, rfl⟩ ⟨rfl, trivial⟩ ⟨(fun _ hc => nomatch hc), (fun _ hc => nomatch hc), (fun _ hc => nomatch hc), Or.inl rfl⟩ ⟨⟨p_hi_, by show 0 ≤ hi_; omega, by show hi_ ≤ 1; omega⟩, trivial⟩ trivial (fun _ hc => nomatch hc) hi ?_ ?_
  · intro e he lo' st' h' hp hi' hm
    rcases List.mem_cons.mp he with rfl | he
    · obtain ⟨p1, p2, -, hz⟩ := hp
      obtain ⟨⟨z1, z2, z3, z4⟩, z5, z6⟩ := hz
      have n0 : hi_ ≠ 0 := fun e_ => z5 (([(0, 1)], 0), ([], 0)) (List.mem_of_getElem? (i := 0) rfl) (by show (1 * hi_ + 0) + 0 = 0 + 0; omega)
      have o0 : zget lo' 0 = some (.ref 0) := locR (p2 (0, .inr (.inl 0)) (List.mem_of_getElem? (i := 0) rfl))
      obtain ⟨_, _, rfl, hr, p1⟩ := p1
      have hr : _ = Value.ref 49 := hr
      subst hr
      obtain ⟨_, _, rfl, hr, p1⟩ := p1
      have hr : _ = Value.ref 43 := hr
      subst hr
      have p1 : _ = [] := p1
      subst p1
      exact hE0 lo' h' hi' hm n0 o0
    cases he
  · intro e he r' h' hp hi' hm
    rcases List.mem_cons.mp he with rfl | he
    · obtain ⟨p1, -, hz⟩ := hp
      obtain ⟨⟨z1, z2, z3, z4⟩, z5, z6⟩ := hz
      have c0 : hi_ = 0 := by have q_ : (0 : Int) ≤ (1 * hi_ + 0) + 0 := z4 ([(0, 1)], 0) (List.mem_of_getElem? (i := 0) rfl); have q2_ : (0 : Int) ≤ ((-1) * hi_ + 0) + 0 := z4 ([(0, (-1))], 0) (List.mem_of_getElem? (i := 1) rfl); omega
      obtain ⟨r_, rfl, hv⟩ := ansI p1 (z2 (0, ([], (-1))) (List.mem_of_getElem? (i := 0) rfl))
      have s0 : r_.toInt = (-1) := (show r_.toInt = 0 + (-1) from hv).trans (by omega)
      exact hR0 h' r_ hi' hm c0 s0
    cases he
def kdH1_L : List (Nat × sT) := [(0, .inr (.inl 0))]
def kdH1_S : List sT := []
def kdH1_A : sAs := ([], [], [], [])
def kdH1_P : List sP0 := [(43, (none, 0), sf32)]
def kdH1_G : List sP0 := []
def kdH1_B : List (Nat × Nat × Int) := []
def kdH1_m : sM := [(86, 4, 5)]
def kdH1_r0 : sXr := (some (.inl sf32), sA0, [], ([(86, (none, 4), ([], 0))], [(0, ([(0, 1)], 0))], [], []), [], [])
theorem kdH1_b : syeB swC sT0 kdH1_m 400 1 174 kdH1_L kdH1_S kdH1_A kdH1_P kdH1_G kdH1_B 20 [] [kdH1_r0] = true := by decide +kernel
theorem kdH1 {l : Launch} {Γ : zG} {d : Nat} (hd : 1 ≤ d) {Kp : Option Value → zH → Prop} {lo : zL} {h : zH} {m : Int} (hi : sInv swC h) (b_m : (-2147483648) ≤ m ∧ m ≤ 2147483647) (l0 : zget lo 0 = some (.ref 0)) (p_m : pI h 43 0 = m)
    (hR0 : ∀ (h' : zH) (r_ : Int32), sInv swC h' → sMd kdH1_m h h' → pI h' 86 4 = 0 → r_.toInt = m → Kp (some (.int r_)) h') : zX l Γ false (d + 1) (zhd 174) (zMQ' Γ false (zhd 174) Kp) 0 0 20 lo [] h := by
  refine sye_ok (mi := 174) (pc := 20) (fun i => [m].getD i 0) kdH1_b (fun _ _ hc _ => nomatch hc) hd ⟨l0, trivial⟩ rfl ⟨(fun _ hc => nomatch hc), (fun _ hc => nomatch hc), (fun _ hc => nomatch hc), Or.inl rfl⟩ ⟨⟨p_m, by show (-2147483648) ≤ m; omega, by show m ≤ 2147483647; omega⟩, trivial⟩ trivial (fun _ hc => nomatch hc) hi ?_ ?_
  · intro e he lo' st' h' hp hi' hm
    cases he
  · intro e he r' h' hp hi' hm
    rcases List.mem_cons.mp he with rfl | he
    · obtain ⟨p1, -, hz⟩ := hp
      obtain ⟨⟨z1, z2, z3, z4⟩, z5, z6⟩ := hz
      have k0 : pI h' 86 4 = 0 := (show pI h' 86 4 = 0 + 0 from z1 (86, (none, 4), ([], 0)) (List.mem_of_getElem? (i := 0) rfl)).trans (by omega)
      obtain ⟨r_, rfl, hv⟩ := ansI p1 (z2 (0, ([(0, 1)], 0)) (List.mem_of_getElem? (i := 0) rfl))
      have s0 : r_.toInt = m := (show r_.toInt = (1 * m + 0) + 0 from hv).trans (by omega)
      exact hR0 h' r_ hi' hm k0 s0
    cases he
def kdJ0_L : List sT := [.inr (.inl 0)]
def kdJ0_A : sAs := ([], [], [], [])
def kdJ0_P : List sP0 := []
def kdJ0_G : List sP0 := []
def kdJ0_B : List (Nat × Nat × Int) := []
def kdJ0_m : sM := []
def kdJ0_e0 : sXe := (8, [.inr (.inl 43), .inr (.inl 55)], [(0, .inr (.inl 0))], sA0, [], ([], [], [], []), [], [])
theorem kdJ0_b : syfB swC sT0 kdJ0_m 400 0 111 kdJ0_L kdJ0_A kdJ0_P kdJ0_G kdJ0_B [kdJ0_e0] [] = true := by decide +kernel
theorem kdJ0 {l : Launch} {Γ : zG} {d : Nat} (hd : 0 ≤ d) {Kp : Option Value → zH → Prop} {h : zH} (hi : sInv swC h) 
    (hE0 : ∀ (lo' : zL) (h' : zH), sInv swC h' → sMd kdJ0_m h h' → zget lo' 0 = some (.ref 0) → zX l Γ false (d + 1) (zhd 111) (zMQ' Γ false (zhd 111) Kp) 0 0 8 lo' [.ref 43, .ref 55] h') : zSem l Γ false (d + 1) (zhd 111) [.ref 0] h Kp := by
  refine syf_ok (mi := 111) (fun i => [].getD i 0) kdJ0_b (fun _ _ hc _ => nomatch hc) hd ⟨_, _, rfl, rfl, rfl⟩ ⟨rfl, trivial⟩ ⟨(fun _ hc => nomatch hc), (fun _ hc => nomatch hc), (fun _ hc => nomatch hc), Or.inl rfl⟩ trivial trivial (fun _ hc => nomatch hc) hi ?_ ?_
  · intro e he lo' st' h' hp hi' hm
    rcases List.mem_cons.mp he with rfl | he
    · obtain ⟨p1, p2, -, hz⟩ := hp
      obtain ⟨⟨z1, z2, z3, z4⟩, z5, z6⟩ := hz
      have o0 : zget lo' 0 = some (.ref 0) := locR (p2 (0, .inr (.inl 0)) (List.mem_of_getElem? (i := 0) rfl))
      obtain ⟨_, _, rfl, hr, p1⟩ := p1
      have hr : _ = Value.ref 43 := hr
      subst hr
      obtain ⟨_, _, rfl, hr, p1⟩ := p1
      have hr : _ = Value.ref 55 := hr
      subst hr
      have p1 : _ = [] := p1
      subst p1
      exact hE0 lo' h' hi' hm o0
    cases he
  · intro e he r' h' hp hi' hm
    cases he
def kdJ1_L (t : Nat) : List (Nat × sT) := [(0, .inr (.inl 0))]
def kdJ1_S (t : Nat) : List sT := []
def kdJ1_A (t : Nat) : sAs := ([], [(0, 5, (17 * t + 9))], [], [])
def kdJ1_P (t : Nat) : List sP0 := []
def kdJ1_G (t : Nat) : List sP0 := []
def kdJ1_B (t : Nat) : List (Nat × Nat × Int) := []
def kdJ1_m (t : Nat) : sM := [(61, 0, 1), (61, 1, 2), (61, 2, 3), (61, 3, 4), (61, 4, 5)]
def kdJ1_r0 (t : Nat) : sXr := (none, ([], [(61, 0, (17 * t + 9))], [], []), [], ([(61, (none, 4), ([], (-1))), (61, (none, 3), ([], (-1))), (61, (none, 2), ([], (-1))), (61, (none, 1), ([], 0))], [], [], []), [], [])
theorem kdJ1_b : ((List.range 2).all fun t => syeB swC sT0 (kdJ1_m t) 400 1 111 (kdJ1_L t) (kdJ1_S t) (kdJ1_A t) (kdJ1_P t) (kdJ1_G t) (kdJ1_B t) 11 [] [kdJ1_r0 t]) = true := by decide +kernel
theorem kdJ1 {l : Launch} {Γ : zG} {d : Nat} (hd : 1 ≤ d) {Kp : Option Value → zH → Prop} {lo : zL} {h : zH} {t : Nat} (h_t : t < 2) (hi : sInv swC h) (l0 : zget lo 0 = some (.ref 0)) (q0 : h.2.2.2 0 5 = some (17 * t + 9))
    (hR0 : ∀ (h' : zH), sInv swC h' → sMd (kdJ1_m t) h h' → h'.2.2.2 61 0 = some (17 * t + 9) → pI h' 61 4 = (-1) → pI h' 61 3 = (-1) → pI h' 61 2 = (-1) → pI h' 61 1 = 0 → Kp none h') : zX l Γ false (d + 1) (zhd 111) (zMQ' Γ false (zhd 111) Kp) 0 0 11 lo [] h := by
  refine sye_ok (mi := 111) (pc := 11) (fun i => [].getD i 0) (zall_r kdJ1_b h_t) (fun _ _ hc _ => nomatch hc) hd ⟨l0, trivial⟩ rfl ⟨(fun _ hc => nomatch hc), (sfm q0 (fun _ hc => nomatch hc)), (fun _ hc => nomatch hc), Or.inl rfl⟩ trivial trivial (fun _ hc => nomatch hc) hi ?_ ?_
  · intro e he lo' st' h' hp hi' hm
    cases he
  · intro e he r' h' hp hi' hm
    rcases List.mem_cons.mp he with rfl | he
    · obtain ⟨p1, pa, hz⟩ := hp
      have t0 : h'.2.2.2 61 0 = some (17 * t + 9) := pa.2.1 (61, 0, (17 * t + 9)) (List.mem_of_getElem? (i := 0) rfl)
      obtain ⟨⟨z1, z2, z3, z4⟩, z5, z6⟩ := hz
      have k0 : pI h' 61 4 = (-1) := (show pI h' 61 4 = 0 + (-1) from z1 (61, (none, 4), ([], (-1))) (List.mem_of_getElem? (i := 0) rfl)).trans (by omega)
      have k1 : pI h' 61 3 = (-1) := (show pI h' 61 3 = 0 + (-1) from z1 (61, (none, 3), ([], (-1))) (List.mem_of_getElem? (i := 1) rfl)).trans (by omega)
      have k2 : pI h' 61 2 = (-1) := (show pI h' 61 2 = 0 + (-1) from z1 (61, (none, 2), ([], (-1))) (List.mem_of_getElem? (i := 2) rfl)).trans (by omega)
      have k3 : pI h' 61 1 = 0 := (show pI h' 61 1 = 0 + 0 from z1 (61, (none, 1), ([], 0)) (List.mem_of_getElem? (i := 3) rfl)).trans (by omega)
      have p1 : r' = none := p1
      subst p1
      exact hR0 h' hi' hm t0 k0 k1 k2 k3
    cases he
