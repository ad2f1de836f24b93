def keA0_L (b : Nat) : List sT := [.inr (.inl 0), .inl ((b : Int), (b : Int))]
def keA0_A (b : Nat) : sAs := ([], [], [], [])
def keA0_P (b : Nat) : List sP0 := []
def keA0_G (b : Nat) : List sP0 := []
def keA0_B (b : Nat) : List (Nat × Nat × Int) := []
def keA0_m (b : Nat) : sM := []
def keA0_e0 (b : Nat) : sXe := (2, [], [(0, .inr (.inl 0)), (1, .inl sf32), (2, .inl sf32)], sA0, [], ([], [], [(1, ([], (b : Int))), (2, ([], 0))], []), [], [])
theorem keA0_b : ((List.range 2).all fun b => syfB swM sT0 (keA0_m b) 400 0 191 (keA0_L b) (keA0_A b) (keA0_P b) (keA0_G b) (keA0_B b) [keA0_e0 b] []) = true := by decide +kernel
theorem keA0 {l : Launch} {Γ : zG} {d : Nat} (hd : 0 ≤ d) {Kp : Option Value → zH → Prop} {h : zH} {b : Nat} (h_b : b < 2) (hi : sInv swM h) {x_bb : Int32} (e_bb : x_bb.toInt = (b : Int))
    (hE0 : ∀ (lo' : zL) (h' : zH), sInv swM h' → sMd (keA0_m b) h h' → zget lo' 0 = some (.ref 0) → zI lo' 1 (b : Int) → zI lo' 2 0 → zX l Γ false (d + 1) (zhd 191) (zMQ' Γ false (zhd 191) Kp) 0 0 2 lo' [] h') : zSem l Γ false (d + 1) (zhd 191) [.ref 0, .int x_bb] h Kp := by
  refine syf_ok (mi := 191) (fun i => [(b : Int)].getD i 0) (zall_r keA0_b h_b) (fun _ _ hc _ => nomatch hc) hd ⟨_, _, rfl, rfl, ⟨_, _, rfl, ⟨x_bb, rfl, by show (b : Int) ≤ x_bb.toInt; omega, by show x_bb.toInt ≤ (b : Int); omega⟩, rfl⟩⟩ ⟨rfl, ⟨x_bb, rfl, e_bb, by show (b : Int) ≤ (b : Int); omega, by show (b : Int) ≤ (b : Int); omega⟩, trivial⟩ ⟨(fun _ hc => nomatch hc), (fun _ hc => nomatch hc), (fun _ hc => nomatch hc), Or.inl rfl⟩ trivial trivial (fun _ hc => nomatch hc) hi ?_ ?_
  · intro e he lo' st' h' hp hi' hm
    rcases List.mem_cons.mp he with rfl | he
    · obtain ⟨p1, p2, -, hz⟩ := hp
      obtain ⟨⟨z1, z2, z3, z4⟩, z5, z6⟩ := hz
      have o0 : zget lo' 0 = some (.ref 0) := locR (p2 (0, .inr (.inl 0)) (List.mem_of_getElem? (i := 0) rfl))
      have o1 : zI lo' 1 (b : Int) := zI_of (p2 (1, .inl sf32) (List.mem_of_getElem? (i := 1) rfl)) (z3 (1, ([], (b : Int))) (List.mem_of_getElem? (i := 0) rfl)) (show 0 + (b : Int) = (b : Int) from by omega)
      have o2 : zI lo' 2 0 := zI_of (p2 (2, .inl sf32) (List.mem_of_getElem? (i := 2) rfl)) (z3 (2, ([], 0)) (List.mem_of_getElem? (i := 1) rfl)) (show 0 + 0 = 0 from by omega)
      have p1 : _ = [] := p1
      subst p1
      exact hE0 lo' h' hi' hm o0 o1 o2
    cases he
  · intro e he r' h' hp hi' hm
    cases he
def keA1_L (b : Nat) (g : Nat) : List (Nat × sT) := [(0, .inr (.inl 0)), (1, .inl ((b : Int), (b : Int))), (2, .inl ((g : Int), (g : Int)))]
def keA1_S (b : Nat) (g : Nat) : List sT := []
def keA1_A (b : Nat) (g : Nat) : sAs := ([], [], [], [])
def keA1_P (b : Nat) (g : Nat) : List sP0 := [(8, (none, ((g : Nat) : Int)), (0, 99)), (9, (none, ((g : Nat) : Int)), (0, 99))]
def keA1_G (b : Nat) (g : Nat) : List sP0 := []
def keA1_B (b : Nat) (g : Nat) : List (Nat × Nat × Int) := []
def keA1_m (b : Nat) (g : Nat) : sM := [(29, (8 * b + g), (8 * b + g + 1)), (30, (8 * b + g), (8 * b + g + 1)), (31, (8 * b + g), (8 * b + g + 1)), (32, (8 * b + g), (8 * b + g + 1)), (33, (8 * b + g), (8 * b + g + 1))]
def keA1_e0 (b : Nat) (g : Nat) : sXe := (2, [], [(0, .inr (.inl 0)), (1, .inl sf32), (2, .inl sf32)], sA0, [], ([(33, (none, (((8 * b + g) : Nat) : Int)), ([], 0)), (32, (none, (((8 * b + g) : Nat) : Int)), ([], 0)), (31, (none, (((8 * b + g) : Nat) : Int)), ([], 0)), (30, (none, (((8 * b + g) : Nat) : Int)), ([(3, 1)], 0)), (29, (none, (((8 * b + g) : Nat) : Int)), ([(2, 1)], 0))], [], [(1, ([], (b : Int))), (2, ([], ((g : Int) + 1)))], []), [], [])
theorem keA1_b : ((List.range 2).all fun b => ((List.range 8).all fun g => syeB swM sT0 (keA1_m b g) 400 0 191 (keA1_L b g) (keA1_S b g) (keA1_A b g) (keA1_P b g) (keA1_G b g) (keA1_B b g) 2 [keA1_e0 b g] [])) = true := by decide +kernel
theorem keA1 {l : Launch} {Γ : zG} {d : Nat} (hd : 0 ≤ d) {Kp : Option Value → zH → Prop} {lo : zL} {h : zH} {b : Nat} (h_b : b < 2) {g : Nat} (h_g : g < 8) {a bw : Int} (hi : sInv swM h) (b_a : 0 ≤ a ∧ a ≤ 99) (b_bw : 0 ≤ bw ∧ bw ≤ 99) (l0 : zget lo 0 = some (.ref 0)) (l1 : zI lo 1 (b : Int)) (l2 : zI lo 2 (g : Int)) (p_a : pI h 8 g = a) (p_bw : pI h 9 g = bw)
    (hE0 : ∀ (lo' : zL) (h' : zH), sInv swM h' → sMd (keA1_m b g) h h' → pI h' 33 (8 * b + g) = 0 → pI h' 32 (8 * b + g) = 0 → pI h' 31 (8 * b + g) = 0 → pI h' 30 (8 * b + g) = bw → pI h' 29 (8 * b + g) = a → zget lo' 0 = some (.ref 0) → zI lo' 1 (b : Int) → zI lo' 2 ((g : Int) + 1) → zX l Γ false (d + 1) (zhd 191) (zMQ' Γ false (zhd 191) Kp) 0 0 2 lo' [] h') : zX l Γ false (d + 1) (zhd 191) (zMQ' Γ false (zhd 191) Kp) 0 0 2 lo [] h := by
  refine sye_ok (mi := 191) (pc := 2) (fun i => [(b : Int), (g : Int), a, bw].getD i 0) (zall_r (zall_r keA1_b h_b) h_g) (fun _ _ hc _ => nomatch hc) hd ⟨l0, zIm l1 (by show (b : Int) ≤ (b : Int); omega) (by show (b : Int) ≤ (b : Int); omega), zIm l2 (by show (g : Int) ≤ (g : Int); omega) (by show (g : Int) ≤ (g : Int); omega), trivial⟩ rfl ⟨(fun _ hc => nomatch hc), (fun _ hc => nomatch hc), (fun _ hc => nomatch hc), Or.inl rfl⟩ ⟨⟨p_a, by show 0 ≤ a; omega, by show a ≤ 99; omega⟩, ⟨p_bw, by show 0 ≤ bw; omega, by show bw ≤ 99; omega⟩, trivial⟩ trivial (fun _ hc => nomatch hc) hi ?_ ?_
  · intro e he lo' st' h' hp hi' hm
    rcases List.mem_cons.mp he with rfl | he
    · obtain ⟨p1, p2, -, hz⟩ := hp
      obtain ⟨⟨z1, z2, z3, z4⟩, z5, z6⟩ := hz
      have k0 : pI h' 33 (8 * b + g) = 0 := (show pI h' 33 (8 * b + g) = 0 + 0 from z1 (33, (none, (((8 * b + g) : Nat) : Int)), ([], 0)) (List.mem_of_getElem? (i := 0) rfl)).trans (by omega)
      have k1 : pI h' 32 (8 * b + g) = 0 := (show pI h' 32 (8 * b + g) = 0 + 0 from z1 (32, (none, (((8 * b + g) : Nat) : Int)), ([], 0)) (List.mem_of_getElem? (i := 1) rfl)).trans (by omega)
      have k2 : pI h' 31 (8 * b + g) = 0 := (show pI h' 31 (8 * b + g) = 0 + 0 from z1 (31, (none, (((8 * b + g) : Nat) : Int)), ([], 0)) (List.mem_of_getElem? (i := 2) rfl)).trans (by omega)
      have k3 : pI h' 30 (8 * b + g) = bw := (show pI h' 30 (8 * b + g) = (1 * bw + 0) + 0 from z1 (30, (none, (((8 * b + g) : Nat) : Int)), ([(3, 1)], 0)) (List.mem_of_getElem? (i := 3) rfl)).trans (by omega)
      have k4 : pI h' 29 (8 * b + g) = a := (show pI h' 29 (8 * b + g) = (1 * a + 0) + 0 from z1 (29, (none, (((8 * b + g) : Nat) : Int)), ([(2, 1)], 0)) (List.mem_of_getElem? (i := 4) rfl)).trans (by omega)
      have o0 : zget lo' 0 = some (.ref 0) := locR (p2 (0, .inr (.inl 0)) (List.mem_of_getElem? (i := 0) rfl))
      have o1 : zI lo' 1 (b : Int) := zI_of (p2 (1, .inl sf32) (List.mem_of_getElem? (i := 1) rfl)) (z3 (1, ([], (b : Int))) (List.mem_of_getElem? (i := 0) rfl)) (show 0 + (b : Int) = (b : Int) from by omega)
      have o2 : zI lo' 2 ((g : Int) + 1) := zI_of (p2 (2, .inl sf32) (List.mem_of_getElem? (i := 2) rfl)) (z3 (2, ([], ((g : Int) + 1))) (List.mem_of_getElem? (i := 1) rfl)) (show 0 + ((g : Int) + 1) = ((g : Int) + 1) from by omega)
      have p1 : _ = [] := p1
      subst p1
      exact hE0 lo' h' hi' hm k0 k1 k2 k3 k4 o0 o1 o2
    cases he
  · intro e he r' h' hp hi' hm
    cases he
def keA2_L (b : Nat) : List (Nat × sT) := [(0, .inr (.inl 0)), (1, .inl ((b : Int), (b : Int))), (2, .inl (8, 8))]
def keA2_S (b : Nat) : List sT := []
def keA2_A (b : Nat) : sAs := ([], [], [], [])
def keA2_P (b : Nat) : List sP0 := []
def keA2_G (b : Nat) : List sP0 := []
def keA2_B (b : Nat) : List (Nat × Nat × Int) := []
def keA2_m (b : Nat) : sM := []
def keA2_e0 (b : Nat) : sXe := (86, [], [(0, .inr (.inl 0)), (1, .inl sf32), (2, .inl sf32)], sA0, [], ([], [], [(1, ([], (b : Int))), (2, ([], 0))], []), [], [])
theorem keA2_b : ((List.range 2).all fun b => syeB swM sT0 (keA2_m b) 400 0 191 (keA2_L b) (keA2_S b) (keA2_A b) (keA2_P b) (keA2_G b) (keA2_B b) 2 [keA2_e0 b] []) = true := by decide +kernel
theorem keA2 {l : Launch} {Γ : zG} {d : Nat} (hd : 0 ≤ d) {Kp : Option Value → zH → Prop} {lo : zL} {h : zH} {b : Nat} (h_b : b < 2) (hi : sInv swM h) (l0 : zget lo 0 = some (.ref 0)) (l1 : zI lo 1 (b : Int)) (l2 : zI lo 2 8)
    (hE0 : ∀ (lo' : zL) (h' : zH), sInv swM h' → sMd (keA2_m b) h h' → zget lo' 0 = some (.ref 0) → zI lo' 1 (b : Int) → zI lo' 2 0 → zX l Γ false (d + 1) (zhd 191) (zMQ' Γ false (zhd 191) Kp) 0 0 86 lo' [] h') : zX l Γ false (d + 1) (zhd 191) (zMQ' Γ false (zhd 191) Kp) 0 0 2 lo [] h := by
  refine sye_ok (mi := 191) (pc := 2) (fun i => [(b : Int), 8].getD i 0) (zall_r keA2_b h_b) (fun _ _ hc _ => nomatch hc) hd ⟨l0, zIm l1 (by show (b : Int) ≤ (b : Int); omega) (by show (b : Int) ≤ (b : Int); omega), zIm l2 (by show 8 ≤ 8; omega) (by show 8 ≤ 8; omega), trivial⟩ rfl ⟨(fun _ hc => nomatch hc), (fun _ hc => nomatch hc), (fun _ hc => nomatch hc), Or.inl rfl⟩ trivial trivial (fun _ hc => nomatch hc) hi ?_ ?_
  · intro e he lo' st' h' hp hi' hm
    rcases List.mem_cons.mp he with rfl | he
    · obtain ⟨p1, p2, -, hz⟩ := hp
      obtain ⟨⟨z1, z2, z3, z4⟩, z5, z6⟩ := hz
      have o0 : zget lo' 0 = some (.ref 0) := locR (p2 (0, .inr (.inl 0)) (List.mem_of_getElem? (i := 0) rfl))
      have o1 : zI lo' 1 (b : Int) := zI_of (p2 (1, .inl sf32) (List.mem_of_getElem? (i := 1) rfl)) (z3 (1, ([], (b : Int))) (List.mem_of_getElem? (i := 0) rfl)) (show 0 + (b : Int) = (b : Int) from by omega)
      have o2 : zI lo' 2 0 := zI_of (p2 (2, .inl sf32) (List.mem_of_getElem? (i := 2) rfl)) (z3 (2, ([], 0)) (List.mem_of_getElem? (i := 1) rfl)) (show 0 + 0 = 0 from by omega)
      have p1 : _ = [] := p1
      subst p1
      exact hE0 lo' h' hi' hm o0 o1 o2
    cases he
  · intro e he r' h' hp hi' hm
    cases he
def keA3_L (b : Nat) (p : Nat) : List (Nat × sT) := [(0, .inr (.inl 0)), (1, .inl ((b : Int), (b : Int))), (2, .inl ((p : Int), (p : Int)))]
def keA3_S (b : Nat) (p : Nat) : List sT := []
def keA3_A (b : Nat) (p : Nat) : sAs := ([], [], [], [])
def keA3_P (b : Nat) (p : Nat) : List sP0 := []
def keA3_G (b : Nat) (p : Nat) : List sP0 := []
def keA3_B (b : Nat) (p : Nat) : List (Nat × Nat × Int) := []
def keA3_m (b : Nat) (p : Nat) : sM := [(34, (10 * b + p), (10 * b + p + 1))]
def keA3_e0 (b : Nat) (p : Nat) : sXe := (86, [], [(0, .inr (.inl 0)), (1, .inl sf32), (2, .inl sf32)], sA0, [], ([(34, (none, (((10 * b + p) : Nat) : Int)), ([], 0))], [], [(1, ([], (b : Int))), (2, ([], ((p : Int) + 1)))], []), [], [])
theorem keA3_b : ((List.range 2).all fun b => ((List.range 10).all fun p => syeB swM sT0 (keA3_m b p) 400 0 191 (keA3_L b p) (keA3_S b p) (keA3_A b p) (keA3_P b p) (keA3_G b p) (keA3_B b p) 86 [keA3_e0 b p] [])) = true := by decide +kernel
theorem keA3 {l : Launch} {Γ : zG} {d : Nat} (hd : 0 ≤ d) {Kp : Option Value → zH → Prop} {lo : zL} {h : zH} {b : Nat} (h_b : b < 2) {p : Nat} (h_p : p < 10) (hi : sInv swM h) (l0 : zget lo 0 = some (.ref 0)) (l1 : zI lo 1 (b : Int)) (l2 : zI lo 2 (p : Int))
    (hE0 : ∀ (lo' : zL) (h' : zH), sInv swM h' → sMd (keA3_m b p) h h' → pI h' 34 (10 * b + p) = 0 → zget lo' 0 = some (.ref 0) → zI lo' 1 (b : Int) → zI lo' 2 ((p : Int) + 1) → zX l Γ false (d + 1) (zhd 191) (zMQ' Γ false (zhd 191) Kp) 0 0 86 lo' [] h') : zX l Γ false (d + 1) (zhd 191) (zMQ' Γ false (zhd 191) Kp) 0 0 86 lo [] h := by
  refine sye_ok (mi := 191) (pc := 86) (fun i => [(b : Int), (p : Int)].getD i 0) (zall_r (zall_r keA3_b h_b) h_p) (fun _ _ hc _ => nomatch hc) hd ⟨l0, zIm l1 (by show (b : Int) ≤ (b : Int); omega) (by show (b : Int) ≤ (b : Int); omega), zIm l2 (by show (p : Int) ≤ (p : Int); omega) (by show (p : Int) ≤ (p : Int); omega), trivial⟩ rfl ⟨(fun _ hc => nomatch hc), (fun _ hc => nomatch hc), (fun _ hc => nomatch hc), Or.inl rfl⟩ trivial trivial (fun _ hc => nomatch hc) hi ?_ ?_
  · intro e he lo' st' h' hp hi' hm
    rcases List.mem_cons.mp he with rfl | he
    · obtain ⟨p1, p2, -, hz⟩ := hp
      obtain ⟨⟨z1, z2, z3, z4⟩, z5, z6⟩ := hz
      have k0 : pI h' 34 (10 * b + p) = 0 := (show pI h' 34 (10 * b + p) = 0 + 0 from z1 (34, (none, (((10 * b + p) : Nat) : Int)), ([], 0)) (List.mem_of_getElem? (i := 0) rfl)).trans (by omega)
      have o0 : zget lo' 0 = some (.ref 0) := locR (p2 (0, .inr (.inl 0)) (List.mem_of_getElem? (i := 0) rfl))
      have o1 : zI lo' 1 (b : Int) := zI_of (p2 (1, .inl sf32) (List.mem_of_getElem? (i := 1) rfl)) (z3 (1, ([], (b : Int))) (List.mem_of_getElem? (i := 0) rfl)) (show 0 + (b : Int) = (b : Int) from by omega)
      have o2 : zI lo' 2 ((p : Int) + 1) := zI_of (p2 (2, .inl sf32) (List.mem_of_getElem? (i := 2) rfl)) (z3 (2, ([], ((p : Int) + 1))) (List.mem_of_getElem? (i := 1) rfl)) (show 0 + ((p : Int) + 1) = ((p : Int) + 1) from by omega)
      have p1 : _ = [] := p1
      subst p1
      exact hE0 lo' h' hi' hm k0 o0 o1 o2
    cases he
  · intro e he r' h' hp hi' hm
    cases he
def keA4_L (b : Nat) : List (Nat × sT) := [(0, .inr (.inl 0)), (1, .inl ((b : Int), (b : Int))), (2, .inl (10, 10))]
def keA4_S (b : Nat) : List sT := []
def keA4_A (b : Nat) : sAs := ([], [], [], [])
def keA4_P (b : Nat) : List sP0 := []
def keA4_G (b : Nat) : List sP0 := []
def keA4_B (b : Nat) : List (Nat × Nat × Int) := []
def keA4_m (b : Nat) : sM := [(35, b, (b + 1)), (36, b, (b + 1))]
def keA4_r0 (b : Nat) : sXr := (none, sA0, [], ([(36, (none, ((b : Nat) : Int)), ([], 0)), (35, (none, ((b : Nat) : Int)), ([], 0))], [], [], []), [], [])
theorem keA4_b : ((List.range 2).all fun b => syeB swM sT0 (keA4_m b) 400 0 191 (keA4_L b) (keA4_S b) (keA4_A b) (keA4_P b) (keA4_G b) (keA4_B b) 86 [] [keA4_r0 b]) = true := by decide +kernel
theorem keA4 {l : Launch} {Γ : zG} {d : Nat} (hd : 0 ≤ d) {Kp : Option Value → zH → Prop} {lo : zL} {h : zH} {b : Nat} (h_b : b < 2) (hi : sInv swM h) (l0 : zget lo 0 = some (.ref 0)) (l1 : zI lo 1 (b : Int)) (l2 : zI lo 2 10)
    (hR0 : ∀ (h' : zH), sInv swM h' → sMd (keA4_m b) h h' → pI h' 36 b = 0 → pI h' 35 b = 0 → Kp none h') : zX l Γ false (d + 1) (zhd 191) (zMQ' Γ false (zhd 191) Kp) 0 0 86 lo [] h := by
  refine sye_ok (mi := 191) (pc := 86) (fun i => [(b : Int), 10].getD i 0) (zall_r keA4_b h_b) (fun _ _ hc _ => nomatch hc) hd ⟨l0, zIm l1 (by show (b : Int) ≤ (b : Int); omega) (by show (b : Int) ≤ (b : Int); omega), zIm l2 (by show 10 ≤ 10; omega) (by show 10 ≤ 10; omega), trivial⟩ rfl ⟨(fun _ hc => nomatch hc), (fun _ hc => nomatch hc), (fun _ hc => nomatch hc), Or.inl rfl⟩ trivial trivial (fun _ hc => nomatch hc) hi ?_ ?_
  · intro e he lo' st' h' hp hi' hm
    cases he
  · intro e he r' h' hp hi' hm
    rcases List.mem_cons.mp he with rfl | he
    · obtain ⟨p1, -, hz⟩ := hp
      obtain ⟨⟨z1, z2, z3, z4⟩, z5, z6⟩ := hz
      have k0 : pI h' 36 b = 0 := (show pI h' 36 b = 0 + 0 from z1 (36, (none, ((b : Nat) : Int)), ([], 0)) (List.mem_of_getElem? (i := 0) rfl)).trans (by omega)
      have k1 : pI h' 35 b = 0 := (show pI h' 35 b = 0 + 0 from z1 (35, (none, ((b : Nat) : Int)), ([], 0)) (List.mem_of_getElem? (i := 1) rfl)).trans (by omega)
      have p1 : r' = none := p1
      subst p1
      exact hR0 h' hi' hm k0 k1
    cases he
def keL0_L : List sT := [.inr (.inl 0)]
def keL0_A : sAs := ([], [], [], [])
def keL0_P : List sP0 := []
def keL0_G : List sP0 := []
def keL0_B : List (Nat × Nat × Int) := []
def keL0_m : sM := []
def keL0_e0 : sXe := (2, [], [(0, .inr (.inl 0)), (1, .inl sf32)], sA0, [], ([], [], [(1, ([], 0))], []), [], [])
theorem keL0_b : syfB swM sT0 keL0_m 400 0 263 keL0_L keL0_A keL0_P keL0_G keL0_B [keL0_e0] [] = true := by decide +kernel
theorem keL0 {l : Launch} {Γ : zG} {d : Nat} (hd : 0 ≤ d) {Kp : Option Value → zH → Prop} {h : zH} (hi : sInv swM h) 
    (hE0 : ∀ (lo' : zL) (h' : zH), sInv swM h' → sMd keL0_m h h' → zget lo' 0 = some (.ref 0) → zI lo' 1 0 → zX l Γ false (d + 1) (zhd 263) (zMQ' Γ false (zhd 263) Kp) 0 0 2 lo' [] h') : zSem l Γ false (d + 1) (zhd 263) [.ref 0] h Kp := by
  refine syf_ok (mi := 263) (fun i => [].getD i 0) keL0_b (fun _ _ hc _ => nomatch hc) hd ⟨_, _, rfl, rfl, rfl⟩ ⟨rfl, trivial⟩ ⟨(fun _ hc => nomatch hc), (fun _ hc => nomatch hc), (fun _ hc => nomatch hc), Or.inl rfl⟩ trivial trivial (fun _ hc => nomatch hc) hi ?_ ?_
  · intro e he lo' st' h' hp hi' hm
    rcases List.mem_cons.mp he with rfl | he
    · obtain ⟨p1, p2, -, hz⟩ := hp
      obtain ⟨⟨z1, z2, z3, z4⟩, z5, z6⟩ := hz
      have o0 : zget lo' 0 = some (.ref 0) := locR (p2 (0, .inr (.inl 0)) (List.mem_of_getElem? (i := 0) rfl))
      have o1 : zI lo' 1 0 := zI_of (p2 (1, .inl sf32) (List.mem_of_getElem? (i := 1) rfl)) (z3 (1, ([], 0)) (List.mem_of_getElem? (i := 0) rfl)) (show 0 + 0 = 0 from by omega)
      have p1 : _ = [] := p1
      subst p1
      exact hE0 lo' h' hi' hm o0 o1
    cases he
  · intro e he r' h' hp hi' hm
    cases he
def keL1_L (g : Nat) : List (Nat × sT) := [(0, .inr (.inl 0)), (1, .inl ((g : Int), (g : Int)))]
def keL1_S (g : Nat) : List sT := []
def keL1_A (g : Nat) : sAs := ([], [], [], [])
def keL1_P (g : Nat) : List sP0 := [(29, (none, ((g : Nat) : Int)), (0, 999)), (30, (none, ((g : Nat) : Int)), (0, 999)), (31, (none, ((g : Nat) : Int)), (0, 1)), (32, (none, ((g : Nat) : Int)), sf32), (33, (none, ((g : Nat) : Int)), sf32)]
def keL1_G (g : Nat) : List sP0 := []
def keL1_B (g : Nat) : List (Nat × Nat × Int) := []
def keL1_m (g : Nat) : sM := [(29, (g + 8), (g + 9)), (30, (g + 8), (g + 9)), (31, (g + 8), (g + 9)), (32, (g + 8), (g + 9)), (33, (g + 8), (g + 9))]
def keL1_e0 (g : Nat) : sXe := (2, [], [(0, .inr (.inl 0)), (1, .inl sf32)], sA0, [], ([(33, (none, (((g + 8) : Nat) : Int)), ([(5, 1)], 0)), (32, (none, (((g + 8) : Nat) : Int)), ([(4, 1)], 0)), (31, (none, (((g + 8) : Nat) : Int)), ([(3, 1)], 0)), (30, (none, (((g + 8) : Nat) : Int)), ([(2, 1)], 0)), (29, (none, (((g + 8) : Nat) : Int)), ([(1, 1)], 0))], [], [(1, ([], ((g : Int) + 1)))], []), [], [])
theorem keL1_b : ((List.range 8).all fun g => syeB swM sT0 (keL1_m g) 400 0 263 (keL1_L g) (keL1_S g) (keL1_A g) (keL1_P g) (keL1_G g) (keL1_B g) 2 [keL1_e0 g] []) = true := by decide +kernel
theorem keL1 {l : Launch} {Γ : zG} {d : Nat} (hd : 0 ≤ d) {Kp : Option Value → zH → Prop} {lo : zL} {h : zH} {g : Nat} (h_g : g < 8) {a bw w em pd : Int} (hi : sInv swM h) (b_a : 0 ≤ a ∧ a ≤ 999) (b_bw : 0 ≤ bw ∧ bw ≤ 999) (b_w : 0 ≤ w ∧ w ≤ 1) (b_em : (-2147483648) ≤ em ∧ em ≤ 2147483647) (b_pd : (-2147483648) ≤ pd ∧ pd ≤ 2147483647) (l0 : zget lo 0 = some (.ref 0)) (l1 : zI lo 1 (g : Int)) (p_a : pI h 29 g = a) (p_bw : pI h 30 g = bw) (p_w : pI h 31 g = w) (p_em : pI h 32 g = em) (p_pd : pI h 33 g = pd)
    (hE0 : ∀ (lo' : zL) (h' : zH), sInv swM h' → sMd (keL1_m g) h h' → pI h' 33 (g + 8) = pd → pI h' 32 (g + 8) = em → pI h' 31 (g + 8) = w → pI h' 30 (g + 8) = bw → pI h' 29 (g + 8) = a → zget lo' 0 = some (.ref 0) → zI lo' 1 ((g : Int) + 1) → zX l Γ false (d + 1) (zhd 263) (zMQ' Γ false (zhd 263) Kp) 0 0 2 lo' [] h') : zX l Γ false (d + 1) (zhd 263) (zMQ' Γ false (zhd 263) Kp) 0 0 2 lo [] h := by
  refine sye_ok (mi := 263) (pc := 2) (fun i => [(g : Int), a, bw, w, em, pd].getD i 0) (zall_r keL1_b h_g) (fun _ _ hc _ => nomatch hc) hd ⟨l0, zIm l1 (by show (g : Int) ≤ (g : Int); omega) (by show (g : Int) ≤ (g : Int); omega), trivial⟩ rfl ⟨(fun _ hc => nomatch hc), (fun _ hc => nomatch hc), (fun _ hc => nomatch hc), Or.inl rfl⟩ ⟨⟨p_a, by show 0 ≤ a; omega, by show a ≤ 999; omega⟩, ⟨p_bw, by show 0 ≤ bw; omega, by show bw ≤ 999; omega⟩, ⟨p_w, by show 0 ≤ w; omega, by show w ≤ 1; omega⟩, ⟨p_em, by show (-2147483648) ≤ em; omega, by show em ≤ 2147483647; omega⟩, ⟨p_pd, by show (-2147483648) ≤ pd; omega, by show pd ≤ 2147483647; omega⟩, trivial⟩ trivial (fun _ hc => nomatch hc) hi ?_ ?_
  · intro e he lo' st' h' hp hi' hm
    rcases List.mem_cons.mp he with rfl | he
    · obtain ⟨p1, p2, -, hz⟩ := hp
      obtain ⟨⟨z1, z2, z3, z4⟩, z5, z6⟩ := hz
      have k0 : pI h' 33 (g + 8) = pd := (show pI h' 33 (g + 8) = (1 * pd + 0) + 0 from z1 (33, (none, (((g + 8) : Nat) : Int)), ([(5, 1)], 0)) (List.mem_of_getElem? (i := 0) rfl)).trans (by omega)
      have k1 : pI h' 32 (g + 8) = em := (show pI h' 32 (g + 8) = (1 * em + 0) + 0 from z1 (32, (none, (((g + 8) : Nat) : Int)), ([(4, 1)], 0)) (List.mem_of_getElem? (i := 1) rfl)).trans (by omega)
      have k2 : pI h' 31 (g + 8) = w := (show pI h' 31 (g + 8) = (1 * w + 0) + 0 from z1 (31, (none, (((g + 8) : Nat) : Int)), ([(3, 1)], 0)) (List.mem_of_getElem? (i := 2) rfl)).trans (by omega)
      have k3 : pI h' 30 (g + 8) = bw := (show pI h' 30 (g + 8) = (1 * bw + 0) + 0 from z1 (30, (none, (((g + 8) : Nat) : Int)), ([(2, 1)], 0)) (List.mem_of_getElem? (i := 3) rfl)).trans (by omega)
      have k4 : pI h' 29 (g + 8) = a := (show pI h' 29 (g + 8) = (1 * a + 0) + 0 from z1 (29, (none, (((g + 8) : Nat) : Int)), ([(1, 1)], 0)) (List.mem_of_getElem? (i := 4) rfl)).trans (by omega)
      have o0 : zget lo' 0 = some (.ref 0) := locR (p2 (0, .inr (.inl 0)) (List.mem_of_getElem? (i := 0) rfl))
      have o1 : zI lo' 1 ((g : Int) + 1) := zI_of (p2 (1, .inl sf32) (List.mem_of_getElem? (i := 1) rfl)) (z3 (1, ([], ((g : Int) + 1))) (List.mem_of_getElem? (i := 0) rfl)) (show 0 + ((g : Int) + 1) = ((g : Int) + 1) from by omega)
      have p1 : _ = [] := p1
      subst p1
      exact hE0 lo' h' hi' hm k0 k1 k2 k3 k4 o0 o1
    cases he
  · intro e he r' h' hp hi' hm
    cases he
def keL2_L : List (Nat × sT) := [(0, .inr (.inl 0)), (1, .inl (8, 8))]
def keL2_S : List sT := []
def keL2_A : sAs := ([], [], [], [])
def keL2_P : List sP0 := []
def keL2_G : List sP0 := []
def keL2_B : List (Nat × Nat × Int) := []
def keL2_m : sM := []
def keL2_e0 : sXe := (91, [], [(0, .inr (.inl 0)), (1, .inl sf32)], sA0, [], ([], [], [(1, ([], 0))], []), [], [])
theorem keL2_b : syeB swM sT0 keL2_m 400 0 263 keL2_L keL2_S keL2_A keL2_P keL2_G keL2_B 2 [keL2_e0] [] = true := by decide +kernel
theorem keL2 {l : Launch} {Γ : zG} {d : Nat} (hd : 0 ≤ d) {Kp : Option Value → zH → Prop} {lo : zL} {h : zH} (hi : sInv swM h) (l0 : zget lo 0 = some (.ref 0)) (l1 : zI lo 1 8)
    (hE0 : ∀ (lo' : zL) (h' : zH), sInv swM h' → sMd keL2_m h h' → zget lo' 0 = some (.ref 0) → zI lo' 1 0 → zX l Γ false (d + 1) (zhd 263) (zMQ' Γ false (zhd 263) Kp) 0 0 91 lo' [] h') : zX l Γ false (d + 1) (zhd 263) (zMQ' Γ false (zhd 263) Kp) 0 0 2 lo [] h := by
  refine sye_ok (mi := 263) (pc := 2) (fun i => [8].getD i 0) keL2_b (fun _ _ hc _ => nomatch hc) hd ⟨l0, zIm l1 (by show 8 ≤ 8; omega) (by show 8 ≤ 8; omega), trivial⟩ rfl ⟨(fun _ hc => nomatch hc), (fun _ hc => nomatch hc), (fun _ hc => nomatch hc), Or.inl rfl⟩ trivial trivial (fun _ hc => nomatch hc) hi ?_ ?_
  · intro e he lo' st' h' hp hi' hm
    rcases List.mem_cons.mp he with rfl | he
    · obtain ⟨p1, p2, -, hz⟩ := hp
      obtain ⟨⟨z1, z2, z3, z4⟩, z5, z6⟩ := hz
      have o0 : zget lo' 0 = some (.ref 0) := locR (p2 (0, .inr (.inl 0)) (List.mem_of_getElem? (i := 0) rfl))
      have o1 : zI lo' 1 0 := zI_of (p2 (1, .inl sf32) (List.mem_of_getElem? (i := 1) rfl)) (z3 (1, ([], 0)) (List.mem_of_getElem? (i := 0) rfl)) (show 0 + 0 = 0 from by omega)
      have p1 : _ = [] := p1
      subst p1
      exact hE0 lo' h' hi' hm o0 o1
    cases he
  · intro e he r' h' hp hi' hm
    cases he
def keL3_L (p : Nat) : List (Nat × sT) := [(0, .inr (.inl 0)), (1, .inl ((p : Int), (p : Int)))]
def keL3_S (p : Nat) : List sT := []
def keL3_A (p : Nat) : sAs := ([], [], [], [])
def keL3_P (p : Nat) : List sP0 := [(34, (none, ((p : Nat) : Int)), (0, 2))]
def keL3_G (p : Nat) : List sP0 := []
def keL3_B (p : Nat) : List (Nat × Nat × Int) := []
def keL3_m (p : Nat) : sM := [(34, (p + 10), (p + 11))]
def keL3_e0 (p : Nat) : sXe := (91, [], [(0, .inr (.inl 0)), (1, .inl sf32)], sA0, [], ([(34, (none, (((p + 10) : Nat) : Int)), ([(1, 1)], 0))], [], [(1, ([], ((p : Int) + 1)))], []), [], [])
theorem keL3_b : ((List.range 10).all fun p => syeB swM sT0 (keL3_m p) 400 0 263 (keL3_L p) (keL3_S p) (keL3_A p) (keL3_P p) (keL3_G p) (keL3_B p) 91 [keL3_e0 p] []) = true := by decide +kernel
theorem keL3 {l : Launch} {Γ : zG} {d : Nat} (hd : 0 ≤ d) {Kp : Option Value → zH → Prop} {lo : zL} {h : zH} {p : Nat} (h_p : p < 10) {dn : Int} (hi : sInv swM h) (b_dn : 0 ≤ dn ∧ dn ≤ 2) (l0 : zget lo 0 = some (.ref 0)) (l1 : zI lo 1 (p : Int)) (p_dn : pI h 34 p = dn)
    (hE0 : ∀ (lo' : zL) (h' : zH), sInv swM h' → sMd (keL3_m p) h h' → pI h' 34 (p + 10) = dn → zget lo' 0 = some (.ref 0) → zI lo' 1 ((p : Int) + 1) → zX l Γ false (d + 1) (zhd 263) (zMQ' Γ false (zhd 263) Kp) 0 0 91 lo' [] h') : zX l Γ false (d + 1) (zhd 263) (zMQ' Γ false (zhd 263) Kp) 0 0 91 lo [] h := by
  refine sye_ok (mi := 263) (pc := 91) (fun i => [(p : Int), dn].getD i 0) (zall_r keL3_b h_p) (fun _ _ hc _ => nomatch hc) hd ⟨l0, zIm l1 (by show (p : Int) ≤ (p : Int); omega) (by show (p : Int) ≤ (p : Int); omega), trivial⟩ rfl ⟨(fun _ hc => nomatch hc), (fun _ hc => nomatch hc), (fun _ hc => nomatch hc), Or.inl rfl⟩ ⟨⟨p_dn, by show 0 ≤ dn; omega, by show dn ≤ 2; omega⟩, trivial⟩ trivial (fun _ hc => nomatch hc) hi ?_ ?_
  · intro e he lo' st' h' hp hi' hm
    rcases List.mem_cons.mp he with rfl | he
    · obtain ⟨p1, p2, -, hz⟩ := hp
      obtain ⟨⟨z1, z2, z3, z4⟩, z5, z6⟩ := hz
      have k0 : pI h' 34 (p + 10) = dn := (show pI h' 34 (p + 10) = (1 * dn + 0) + 0 from z1 (34, (none, (((p + 10) : Nat) : Int)), ([(1, 1)], 0)) (List.mem_of_getElem? (i := 0) rfl)).trans (by omega)
      have o0 : zget lo' 0 = some (.ref 0) := locR (p2 (0, .inr (.inl 0)) (List.mem_of_getElem? (i := 0) rfl))
      have o1 : zI lo' 1 ((p : Int) + 1) := zI_of (p2 (1, .inl sf32) (List.mem_of_getElem? (i := 1) rfl)) (z3 (1, ([], ((p : Int) + 1))) (List.mem_of_getElem? (i := 0) rfl)) (show 0 + ((p : Int) + 1) = ((p : Int) + 1) from by omega)
      have p1 : _ = [] := p1
      subst p1
      exact hE0 lo' h' hi' hm k0 o0 o1
    cases he
  · intro e he r' h' hp hi' hm
    cases he
def keL4_L : List (Nat × sT) := [(0, .inr (.inl 0)), (1, .inl (10, 10))]
def keL4_S : List sT := []
def keL4_A : sAs := ([], [], [], [])
def keL4_P : List sP0 := [(35, (none, 0), sf32), (36, (none, 0), sf32)]
def keL4_G : List sP0 := []
def keL4_B : List (Nat × Nat × Int) := []
def keL4_m : sM := [(0, 66, 67), (0, 67, 68), (0, 68, 69), (0, 69, 70), (0, 70, 71), (0, 71, 72), (0, 72, 73), (0, 73, 74), (35, 1, 2), (36, 1, 2)]
def keL4_r0 : sXr := (none, sA0, [], ([(0, (none, 73), ([], 0)), (0, (none, 72), ([], (-1))), (0, (none, 71), ([], (-1))), (0, (none, 70), ([], 0)), (0, (none, 69), ([], 0)), (0, (none, 68), ([], 0)), (0, (none, 67), ([], 0)), (0, (none, 66), ([], 0)), (36, (none, 1), ([(2, 1)], 0)), (35, (none, 1), ([(1, 1)], 0))], [], [], []), [], [])
theorem keL4_b : syeB swM sT0 keL4_m 400 1 263 keL4_L keL4_S keL4_A keL4_P keL4_G keL4_B 91 [] [keL4_r0] = true := by decide +kernel
theorem keL4 {l : Launch} {Γ : zG} {d : Nat} (hd : 1 ≤ d) {Kp : Option Value → zH → Prop} {lo : zL} {h : zH} {tx m : Int} (hi : sInv swM h) (b_tx : (-2147483648) ≤ tx ∧ tx ≤ 2147483647) (b_m : (-2147483648) ≤ m ∧ m ≤ 2147483647) (l0 : zget lo 0 = some (.ref 0)) (l1 : zI lo 1 10) (p_tx : pI h 35 0 = tx) (p_m : pI h 36 0 = m)
    (hR0 : ∀ (h' : zH), sInv swM h' → sMd keL4_m h h' → pI h' 0 73 = 0 → pI h' 0 72 = (-1) → pI h' 0 71 = (-1) → pI h' 0 70 = 0 → pI h' 0 69 = 0 → pI h' 0 68 = 0 → pI h' 0 67 = 0 → pI h' 0 66 = 0 → pI h' 36 1 = m → pI h' 35 1 = tx → Kp none h') : zX l Γ false (d + 1) (zhd 263) (zMQ' Γ false (zhd 263) Kp) 0 0 91 lo [] h := by
  refine sye_ok (mi := 263) (pc := 91) (fun i => [10, tx, m].getD i 0) keL4_b (fun _ _ hc _ => nomatch hc) hd ⟨l0, zIm l1 (by show 10 ≤ 10; omega) (by show 10 ≤ 10; omega), trivial⟩ rfl ⟨(fun _ hc => nomatch hc), (fun _ hc => nomatch hc), (fun _ hc => nomatch hc), Or.inl rfl⟩ ⟨⟨p_tx, by show (-2147483648) ≤ tx; omega, by show tx ≤ 2147483647; omega⟩, ⟨p_m, by show (-2147483648) ≤ m; omega, by show m ≤ 2147483647; omega⟩, trivial⟩ trivial (fun _ hc => nomatch hc) hi ?_ ?_
  · intro e he lo' st' h' hp hi' hm
    cases he
  · intro e he r' h' hp hi' hm
    rcases List.mem_cons.mp he with rfl | he
    · obtain ⟨p1, -, hz⟩ := hp
      obtain ⟨⟨z1, z2, z3, z4⟩, z5, z6⟩ := hz
      have k0 : pI h' 0 73 = 0 := (show pI h' 0 73 = 0 + 0 from z1 (0, (none, 73), ([], 0)) (List.mem_of_getElem? (i := 0) rfl)).trans (by omega)
      have k1 : pI h' 0 72 = (-1) := (show pI h' 0 72 = 0 + (-1) from z1 (0, (none, 72), ([], (-1))) (List.mem_of_getElem? (i := 1) rfl)).trans (by omega)
      have k2 : pI h' 0 71 = (-1) := (show pI h' 0 71 = 0 + (-1) from z1 (0, (none, 71), ([], (-1))) (List.mem_of_getElem? (i := 2) rfl)).trans (by omega)
      have k3 : pI h' 0 70 = 0 := (show pI h' 0 70 = 0 + 0 from z1 (0, (none, 70), ([], 0)) (List.mem_of_getElem? (i := 3) rfl)).trans (by omega)
      have k4 : pI h' 0 69 = 0 := (show pI h' 0 69 = 0 + 0 from z1 (0, (none, 69), ([], 0)) (List.mem_of_getElem? (i := 4) rfl)).trans (by omega)
      have k5 : pI h' 0 68 = 0 := (show pI h' 0 68 = 0 + 0 from z1 (0, (none, 68), ([], 0)) (List.mem_of_getElem? (i := 5) rfl)).trans (by omega)
      have k6 : pI h' 0 67 = 0 := (show pI h' 0 67 = 0 + 0 from z1 (0, (none, 67), ([], 0)) (List.mem_of_getElem? (i := 6) rfl)).trans (by omega)
      have k7 : pI h' 0 66 = 0 := (show pI h' 0 66 = 0 + 0 from z1 (0, (none, 66), ([], 0)) (List.mem_of_getElem? (i := 7) rfl)).trans (by omega)
      have k8 : pI h' 36 1 = m := (show pI h' 36 1 = (1 * m + 0) + 0 from z1 (36, (none, 1), ([(2, 1)], 0)) (List.mem_of_getElem? (i := 8) rfl)).trans (by omega)
      have k9 : pI h' 35 1 = tx := (show pI h' 35 1 = (1 * tx + 0) + 0 from z1 (35, (none, 1), ([(1, 1)], 0)) (List.mem_of_getElem? (i := 9) rfl)).trans (by omega)
      have p1 : r' = none := p1
      subst p1
      exact hR0 h' hi' hm k0 k1 k2 k3 k4 k5 k6 k7 k8 k9
    cases he
def kePt_L : List sT := [.inr (.inl 0)]
def kePt_A : sAs := ([], [], [], [])
def kePt_P : List sP0 := []
def kePt_G : List sP0 := []
def kePt_B : List (Nat × Nat × Int) := []
def kePt_m : sM := [(0, 66, 67), (0, 67, 68), (0, 68, 69), (0, 69, 70), (0, 70, 71), (0, 71, 72), (0, 72, 73), (0, 73, 74)]
def kePt_r0 : sXr := (none, sA0, [], ([(0, (none, 73), ([], 0)), (0, (none, 72), ([], (-1))), (0, (none, 71), ([], (-1))), (0, (none, 70), ([], 0)), (0, (none, 69), ([], 0)), (0, (none, 68), ([], 0)), (0, (none, 67), ([], 0)), (0, (none, 66), ([], 0))], [], [], []), [], [])
theorem kePt_b : syfB swM sT0 kePt_m 400 0 192 kePt_L kePt_A kePt_P kePt_G kePt_B [] [kePt_r0] = true := by decide +kernel
theorem kePt {l : Launch} {Γ : zG} {d : Nat} (hd : 0 ≤ d) {Kp : Option Value → zH → Prop} {h : zH} (hi : sInv swM h) 
    (hR0 : ∀ (h' : zH), sInv swM h' → sMd kePt_m h h' → pI h' 0 73 = 0 → pI h' 0 72 = (-1) → pI h' 0 71 = (-1) → pI h' 0 70 = 0 → pI h' 0 69 = 0 → pI h' 0 68 = 0 → pI h' 0 67 = 0 → pI h' 0 66 = 0 → Kp none h') : zSem l Γ false (d + 1) (zhd 192) [.ref 0] h Kp := by
  refine syf_ok (mi := 192) (fun i => [].getD i 0) kePt_b (fun _ _ hc _ => nomatch hc) hd ⟨_, _, rfl, rfl, rfl⟩ ⟨rfl, trivial⟩ ⟨(fun _ hc => nomatch hc), (fun _ hc => nomatch hc), (fun _ hc => nomatch hc), Or.inl rfl⟩ trivial trivial (fun _ hc => nomatch hc) hi ?_ ?_
  · intro e he lo' st' h' hp hi' hm
    cases he
  · intro e he r' h' hp hi' hm
    rcases List.mem_cons.mp he with rfl | he
    · obtain ⟨p1, -, hz⟩ := hp
      obtain ⟨⟨z1, z2, z3, z4⟩, z5, z6⟩ := hz
      have k0 : pI h' 0 73 = 0 := (show pI h' 0 73 = 0 + 0 from z1 (0, (none, 73), ([], 0)) (List.mem_of_getElem? (i := 0) rfl)).trans (by omega)
      have k1 : pI h' 0 72 = (-1) := (show pI h' 0 72 = 0 + (-1) from z1 (0, (none, 72), ([], (-1))) (List.mem_of_getElem? (i := 1) rfl)).trans (by omega)
      have k2 : pI h' 0 71 = (-1) := (show pI h' 0 71 = 0 + (-1) from z1 (0, (none, 71), ([], (-1))) (List.mem_of_getElem? (i := 2) rfl)).trans (by omega)
      have k3 : pI h' 0 70 = 0 := (show pI h' 0 70 = 0 + 0 from z1 (0, (none, 70), ([], 0)) (List.mem_of_getElem? (i := 3) rfl)).trans (by omega)
      have k4 : pI h' 0 69 = 0 := (show pI h' 0 69 = 0 + 0 from z1 (0, (none, 69), ([], 0)) (List.mem_of_getElem? (i := 4) rfl)).trans (by omega)
      have k5 : pI h' 0 68 = 0 := (show pI h' 0 68 = 0 + 0 from z1 (0, (none, 68), ([], 0)) (List.mem_of_getElem? (i := 5) rfl)).trans (by omega)
      have k6 : pI h' 0 67 = 0 := (show pI h' 0 67 = 0 + 0 from z1 (0, (none, 67), ([], 0)) (List.mem_of_getElem? (i := 6) rfl)).trans (by omega)
      have k7 : pI h' 0 66 = 0 := (show pI h' 0 66 = 0 + 0 from z1 (0, (none, 66), ([], 0)) (List.mem_of_getElem? (i := 7) rfl)).trans (by omega)
      have p1 : r' = none := p1
      subst p1
      exact hR0 h' hi' hm k0 k1 k2 k3 k4 k5 k6 k7
    cases he
def kePu0_L (k : Nat) : List sT := [.inr (.inl 0), .inr (.inl 41), .inl ((32 * (k : Int)), (32 * (k : Int)))]
def kePu0_A (k : Nat) : sAs := ([], [], [], [])
def kePu0_P (k : Nat) : List sP0 := []
def kePu0_G (k : Nat) : List sP0 := []
def kePu0_B (k : Nat) : List (Nat × Nat × Int) := []
def kePu0_m (k : Nat) : sM := []
def kePu0_e0 (k : Nat) : sXe := (2, [], [(0, .inr (.inl 0)), (1, .inr (.inl 41)), (2, .inl sf32), (3, .inl sf32)], sA0, [], ([], [], [(2, ([], (32 * (k : Int)))), (3, ([], 0))], []), [], [])
theorem kePu0_b : ((List.range 20).all fun k => syfB swM sT0 (kePu0_m k) 400 0 247 (kePu0_L k) (kePu0_A k) (kePu0_P k) (kePu0_G k) (kePu0_B k) [kePu0_e0 k] []) = true := by decide +kernel
theorem kePu0 {l : Launch} {Γ : zG} {d : Nat} (hd : 0 ≤ d) {Kp : Option Value → zH → Prop} {h : zH} {k : Nat} (h_k : k < 20) (hi : sInv swM h) {x_ix : Int32} (e_ix : x_ix.toInt = (32 * (k : Int)))
    (hE0 : ∀ (lo' : zL) (h' : zH), sInv swM h' → sMd (kePu0_m k) h h' → zget lo' 0 = some (.ref 0) → zget lo' 1 = some (.ref 41) → zI lo' 2 (32 * (k : Int)) → zI lo' 3 0 → zX l Γ false (d + 1) (zhd 247) (zMQ' Γ false (zhd 247) Kp) 0 0 2 lo' [] h') : zSem l Γ false (d + 1) (zhd 247) [.ref 0, .ref 41, .int x_ix] h Kp := by
  refine syf_ok (mi := 247) (fun i => [(32 * (k : Int))].getD i 0) (zall_r kePu0_b h_k) (fun _ _ hc _ => nomatch hc) hd ⟨_, _, rfl, rfl, ⟨_, _, rfl, rfl, ⟨_, _, rfl, ⟨x_ix, rfl, by show (32 * (k : Int)) ≤ x_ix.toInt; omega, by show x_ix.toInt ≤ (32 * (k : Int)); omega⟩, rfl⟩⟩⟩ ⟨rfl, rfl, ⟨x_ix, rfl, e_ix, by show (32 * (k : Int)) ≤ (32 * (k : Int)); omega, by show (32 * (k : Int)) ≤ (32 * (k : Int)); omega⟩, trivial⟩ ⟨(fun _ hc => nomatch hc), (fun _ hc => nomatch hc), (fun _ hc => nomatch hc), Or.inl rfl⟩ trivial trivial (fun _ hc => nomatch hc) hi ?_ ?_
  · intro e he lo' st' h' hp hi' hm
    rcases List.mem_cons.mp he with rfl | he
    · obtain ⟨p1, p2, -, hz⟩ := hp
      obtain ⟨⟨z1, z2, z3, z4⟩, z5, z6⟩ := hz
      have o0 : zget lo' 0 = some (.ref 0) := locR (p2 (0, .inr (.inl 0)) (List.mem_of_getElem? (i := 0) rfl))
      have o1 : zget lo' 1 = some (.ref 41) := locR (p2 (1, .inr (.inl 41)) (List.mem_of_getElem? (i := 1) rfl))
      have o2 : zI lo' 2 (32 * (k : Int)) := zI_of (p2 (2, .inl sf32) (List.mem_of_getElem? (i := 2) rfl)) (z3 (2, ([], (32 * (k : Int)))) (List.mem_of_getElem? (i := 0) rfl)) (show 0 + (32 * (k : Int)) = (32 * (k : Int)) from by omega)
      have o3 : zI lo' 3 0 := zI_of (p2 (3, .inl sf32) (List.mem_of_getElem? (i := 3) rfl)) (z3 (3, ([], 0)) (List.mem_of_getElem? (i := 1) rfl)) (show 0 + 0 = 0 from by omega)
      have p1 : _ = [] := p1
      subst p1
      exact hE0 lo' h' hi' hm o0 o1 o2 o3
    cases he
  · intro e he r' h' hp hi' hm
    cases he
def kePu1_L (g : Nat) (k : Nat) : List (Nat × sT) := [(0, .inr (.inl 0)), (1, .inr (.inl 41)), (2, .inl ((32 * (k : Int)), (32 * (k : Int)))), (3, .inl ((g : Int), (g : Int)))]
def kePu1_S (g : Nat) (k : Nat) : List sT := []
def kePu1_A (g : Nat) (k : Nat) : sAs := ([], [], [], [])
def kePu1_P (g : Nat) (k : Nat) : List sP0 := [(29, (none, ((g : Nat) : Int)), (0, 999)), (30, (none, ((g : Nat) : Int)), (0, 999)), (31, (none, ((g : Nat) : Int)), (0, 1)), (33, (none, ((g : Nat) : Int)), sf32)]
def kePu1_G (g : Nat) (k : Nat) : List sP0 := []
def kePu1_B (g : Nat) (k : Nat) : List (Nat × Nat × Int) := []
def kePu1_m (g : Nat) (k : Nat) : sM := [(41, (g + 32 * k), (g + 32 * k + 1)), (41, (g + 32 * k + 8), (g + 32 * k + 9)), (41, (g + 32 * k + 16), (g + 32 * k + 17)), (41, (g + 32 * k + 24), (g + 32 * k + 25))]
def kePu1_e0 (g : Nat) (k : Nat) : sXe := (2, [], [(0, .inr (.inl 0)), (1, .inr (.inl 41)), (2, .inl sf32), (3, .inl sf32)], sA0, [], ([(41, (none, (((g + 32 * k + 24) : Nat) : Int)), ([(5, 1)], 0)), (41, (none, (((g + 32 * k + 16) : Nat) : Int)), ([], 0)), (41, (none, (((g + 32 * k + 8) : Nat) : Int)), ([(3, 1)], 0)), (41, (none, (((g + 32 * k) : Nat) : Int)), ([(2, 1)], 0))], [], [(2, ([], (32 * (k : Int)))), (3, ([], ((g : Int) + 1)))], [([(4, 1)], 0), ([(4, (-1))], 0)]), [], [])
def kePu1_e1 (g : Nat) (k : Nat) : sXe := (2, [], [(0, .inr (.inl 0)), (1, .inr (.inl 41)), (2, .inl sf32), (3, .inl sf32)], sA0, [], ([(41, (none, (((g + 32 * k + 24) : Nat) : Int)), ([(5, 1)], 0)), (41, (none, (((g + 32 * k + 16) : Nat) : Int)), ([], 1)), (41, (none, (((g + 32 * k + 8) : Nat) : Int)), ([(3, 1)], 0)), (41, (none, (((g + 32 * k) : Nat) : Int)), ([(2, 1)], 0))], [], [(2, ([], (32 * (k : Int)))), (3, ([], ((g : Int) + 1)))], []), [(([(4, 1)], 0), ([], 0))], [])
theorem kePu1_b : ((List.range 8).all fun g => ((List.range 20).all fun k => syeB swM sT0 (kePu1_m g k) 400 0 247 (kePu1_L g k) (kePu1_S g k) (kePu1_A g k) (kePu1_P g k) (kePu1_G g k) (kePu1_B g k) 2 [kePu1_e0 g k, kePu1_e1 g k] [])) = true := by decide +kernel
theorem kePu1 {l : Launch} {Γ : zG} {d : Nat} (hd : 0 ≤ d) {Kp : Option Value → zH → Prop} {lo : zL} {h : zH} {g : Nat} (h_g : g < 8) {k : Nat} (h_k : k < 20) {a bw w pd : Int} (hi : sInv swM h) (b_a : 0 ≤ a ∧ a ≤ 999) (b_bw : 0 ≤ bw ∧ bw ≤ 999) (b_w : 0 ≤ w ∧ w ≤ 1) (b_pd : (-2147483648) ≤ pd ∧ pd ≤ 2147483647) (l0 : zget lo 0 = some (.ref 0)) (l1 : zget lo 1 = some (.ref 41)) (l2 : zI lo 2 (32 * (k : Int))) (l3 : zI lo 3 (g : Int)) (p_a : pI h 29 g = a) (p_bw : pI h 30 g = bw) (p_w : pI h 31 g = w) (p_pd : pI h 33 g = pd)
    (hE0 : ∀ (lo' : zL) (h' : zH), sInv swM h' → sMd (kePu1_m g k) h h' → w = 0 → pI h' 41 (g + 32 * k + 24) = pd → pI h' 41 (g + 32 * k + 16) = 0 → pI h' 41 (g + 32 * k + 8) = bw → pI h' 41 (g + 32 * k) = a → zget lo' 0 = some (.ref 0) → zget lo' 1 = some (.ref 41) → zI lo' 2 (32 * (k : Int)) → zI lo' 3 ((g : Int) + 1) → zX l Γ false (d + 1) (zhd 247) (zMQ' Γ false (zhd 247) Kp) 0 0 2 lo' [] h')
    (hE1 : ∀ (lo' : zL) (h' : zH), sInv swM h' → sMd (kePu1_m g k) h h' → w ≠ 0 → pI h' 41 (g + 32 * k + 24) = pd → pI h' 41 (g + 32 * k + 16) = 1 → pI h' 41 (g + 32 * k + 8) = bw → pI h' 41 (g + 32 * k) = a → zget lo' 0 = some (.ref 0) → zget lo' 1 = some (.ref 41) → zI lo' 2 (32 * (k : Int)) → zI lo' 3 ((g : Int) + 1) → zX l Γ false (d + 1) (zhd 247) (zMQ' Γ false (zhd 247) Kp) 0 0 2 lo' [] h') : zX l Γ false (d + 1) (zhd 247) (zMQ' Γ false (zhd 247) Kp) 0 0 2 lo [] h := by
  refine sye_ok (mi := 247) (pc := 2) (fun i => [(32 * (k : Int)), (g : Int), a, bw, w, pd].getD i 0) (zall_r (zall_r kePu1_b h_g) h_k) (fun _ _ hc _ => nomatch hc) hd ⟨l0, l1, zIm l2 (by show (32 * (k : Int)) ≤ (32 * (k : Int)); omega) (by show (32 * (k : Int)) ≤ (32 * (k : Int)); omega), zIm l3 (by show (g : Int) ≤ (g : Int); omega) (by show (g : Int) ≤ (g : Int); omega), trivial⟩ rfl ⟨(fun _ hc => nomatch hc), (fun _ hc => nomatch hc), (fun _ hc => nomatch hc), Or.inl rfl⟩ ⟨⟨p_a, by show 0 ≤ a; omega, by show a ≤ 999; omega⟩, ⟨p_bw, by show 0 ≤ bw; omega, by show bw ≤ 999; omega⟩, ⟨p_w, by show 0 ≤ w; omega, by show w ≤ 1; omega⟩, ⟨p_pd, by show (-2147483648) ≤ pd; omega, by show pd ≤ 2147483647; omega⟩, trivial⟩ trivial (fun _ hc => nomatch hc) hi ?_ ?_
  · intro e he lo' st' h' hp hi' hm
    rcases List.mem_cons.mp he with rfl | he
    · obtain ⟨p1, p2, -, hz⟩ := hp
      obtain ⟨⟨z1, z2, z3, z4⟩, z5, z6⟩ := hz
      have c0 : w = 0 := by have q_ : (0 : Int) ≤ (1 * w + 0) + 0 := z4 ([(4, 1)], 0) (List.mem_of_getElem? (i := 0) rfl); have q2_ : (0 : Int) ≤ ((-1) * w + 0) + 0 := z4 ([(4, (-1))], 0) (List.mem_of_getElem? (i := 1) rfl); omega
      have k0 : pI h' 41 (g + 32 * k + 24) = pd := (show pI h' 41 (g + 32 * k + 24) = (1 * pd + 0) + 0 from z1 (41, (none, (((g + 32 * k + 24) : Nat) : Int)), ([(5, 1)], 0)) (List.mem_of_getElem? (i := 0) rfl)).trans (by omega)
      have k1 : pI h' 41 (g + 32 * k + 16) = 0 := (show pI h' 41 (g + 32 * k + 16) = 0 + 0 from z1 (41, (none, (((g + 32 * k + 16) : Nat) : Int)), ([], 0)) (List.mem_of_getElem? (i := 1) rfl)).trans (by omega)
      have k2 : pI h' 41 (g + 32 * k + 8) = bw := (show pI h' 41 (g + 32 * k + 8) = (1 * bw + 0) + 0 from z1 (41, (none, (((g + 32 * k + 8) : Nat) : Int)), ([(3, 1)], 0)) (List.mem_of_getElem? (i := 2) rfl)).trans (by omega)
      have k3 : pI h' 41 (g + 32 * k) = a := (show pI h' 41 (g + 32 * k) = (1 * a + 0) + 0 from z1 (41, (none, (((g + 32 * k) : Nat) : Int)), ([(2, 1)], 0)) (List.mem_of_getElem? (i := 3) rfl)).trans (by omega)
      have o0 : zget lo' 0 = some (.ref 0) := locR (p2 (0, .inr (.inl 0)) (List.mem_of_getElem? (i := 0) rfl))
      have o1 : zget lo' 1 = some (.ref 41) := locR (p2 (1, .inr (.inl 41)) (List.mem_of_getElem? (i := 1) rfl))
      have o2 : zI lo' 2 (32 * (k : Int)) := zI_of (p2 (2, .inl sf32) (List.mem_of_getElem? (i := 2) rfl)) (z3 (2, ([], (32 * (k : Int)))) (List.mem_of_getElem? (i := 0) rfl)) (show 0 + (32 * (k : Int)) = (32 * (k : Int)) from by omega)
      have o3 : zI lo' 3 ((g : Int) + 1) := zI_of (p2 (3, .inl sf32) (List.mem_of_getElem? (i := 3) rfl)) (z3 (3, ([], ((g : Int) + 1))) (List.mem_of_getElem? (i := 1) rfl)) (show 0 + ((g : Int) + 1) = ((g : Int) + 1) from by omega)
      have p1 : _ = [] := p1
      subst p1
      exact hE0 lo' h' hi' hm c0 k0 k1 k2 k3 o0 o1 o2 o3
    rcases List.mem_cons.mp he with rfl | he
    · obtain ⟨p1, p2, -, hz⟩ := hp
      obtain ⟨⟨z1, z2, z3, z4⟩, z5, z6⟩ := hz
      have n0 : w ≠ 0 := fun e_ => z5 (([(4, 1)], 0), ([], 0)) (List.mem_of_getElem? (i := 0) rfl) (by show (1 * w + 0) + 0 = 0 + 0; omega)
      have k0 : pI h' 41 (g + 32 * k + 24) = pd := (show pI h' 41 (g + 32 * k + 24) = (1 * pd + 0) + 0 from z1 (41, (none, (((g + 32 * k + 24) : Nat) : Int)), ([(5, 1)], 0)) (List.mem_of_getElem? (i := 0) rfl)).trans (by omega)
      have k1 : pI h' 41 (g + 32 * k + 16) = 1 := (show pI h' 41 (g + 32 * k + 16) = 0 + 1 from z1 (41, (none, (((g + 32 * k + 16) : Nat) : Int)), ([], 1)) (List.mem_of_getElem? (i := 1) rfl)).trans (by omega)
      have k2 : pI h' 41 (g + 32 * k + 8) = bw := (show pI h' 41 (g + 32 * k + 8) = (1 * bw + 0) + 0 from z1 (41, (none, (((g + 32 * k + 8) : Nat) : Int)), ([(3, 1)], 0)) (List.mem_of_getElem? (i := 2) rfl)).trans (by omega)
      have k3 : pI h' 41 (g + 32 * k) = a := (show pI h' 41 (g + 32 * k) = (1 * a + 0) + 0 from z1 (41, (none, (((g + 32 * k) : Nat) : Int)), ([(2, 1)], 0)) (List.mem_of_getElem? (i := 3) rfl)).trans (by omega)
      have o0 : zget lo' 0 = some (.ref 0) := locR (p2 (0, .inr (.inl 0)) (List.mem_of_getElem? (i := 0) rfl))
      have o1 : zget lo' 1 = some (.ref 41) := locR (p2 (1, .inr (.inl 41)) (List.mem_of_getElem? (i := 1) rfl))
      have o2 : zI lo' 2 (32 * (k : Int)) := zI_of (p2 (2, .inl sf32) (List.mem_of_getElem? (i := 2) rfl)) (z3 (2, ([], (32 * (k : Int)))) (List.mem_of_getElem? (i := 0) rfl)) (show 0 + (32 * (k : Int)) = (32 * (k : Int)) from by omega)
      have o3 : zI lo' 3 ((g : Int) + 1) := zI_of (p2 (3, .inl sf32) (List.mem_of_getElem? (i := 3) rfl)) (z3 (3, ([], ((g : Int) + 1))) (List.mem_of_getElem? (i := 1) rfl)) (show 0 + ((g : Int) + 1) = ((g : Int) + 1) from by omega)
      have p1 : _ = [] := p1
      subst p1
      exact hE1 lo' h' hi' hm n0 k0 k1 k2 k3 o0 o1 o2 o3
    cases he
  · intro e he r' h' hp hi' hm
    cases he
def kePu2_L (k : Nat) : List (Nat × sT) := [(0, .inr (.inl 0)), (1, .inr (.inl 41)), (2, .inl ((32 * (k : Int)), (32 * (k : Int)))), (3, .inl (8, 8))]
def kePu2_S (k : Nat) : List sT := []
def kePu2_A (k : Nat) : sAs := ([], [], [], [])
def kePu2_P (k : Nat) : List sP0 := []
def kePu2_G (k : Nat) : List sP0 := []
def kePu2_B (k : Nat) : List (Nat × Nat × Int) := []
def kePu2_m (k : Nat) : sM := []
def kePu2_r0 (k : Nat) : sXr := (none, sA0, [], ([], [], [], []), [], [])
theorem kePu2_b : ((List.range 20).all fun k => syeB swM sT0 (kePu2_m k) 400 0 247 (kePu2_L k) (kePu2_S k) (kePu2_A k) (kePu2_P k) (kePu2_G k) (kePu2_B k) 2 [] [kePu2_r0 k]) = true := by decide +kernel
theorem kePu2 {l : Launch} {Γ : zG} {d : Nat} (hd : 0 ≤ d) {Kp : Option Value → zH → Prop} {lo : zL} {h : zH} {k : Nat} (h_k : k < 20) (hi : sInv swM h) (l0 : zget lo 0 = some (.ref 0)) (l1 : zget lo 1 = some (.ref 41)) (l2 : zI lo 2 (32 * (k : Int))) (l3 : zI lo 3 8)
    (hR0 : ∀ (h' : zH), sInv swM h' → sMd (kePu2_m k) h h' → Kp none h') : zX l Γ false (d + 1) (zhd 247) (zMQ' Γ false (zhd 247) Kp) 0 0 2 lo [] h := by
  refine sye_ok (mi := 247) (pc := 2) (fun i => [(32 * (k : Int)), 8].getD i 0) (zall_r kePu2_b h_k) (fun _ _ hc _ => nomatch hc) hd ⟨l0, l1, zIm l2 (by show (32 * (k : Int)) ≤ (32 * (k : Int)); omega) (by show (32 * (k : Int)) ≤ (32 * (k : Int)); omega), zIm l3 (by show 8 ≤ 8; omega) (by show 8 ≤ 8; omega), trivial⟩ rfl ⟨(fun _ hc => nomatch hc), (fun _ hc => nomatch hc), (fun _ hc => nomatch hc), Or.inl rfl⟩ trivial trivial (fun _ hc => nomatch hc) hi ?_ ?_
  · intro e he lo' st' h' hp hi' hm
    cases he
  · intro e he r' h' hp hi' hm
    rcases List.mem_cons.mp he with rfl | he
    · obtain ⟨p1, -, hz⟩ := hp
      obtain ⟨⟨z1, z2, z3, z4⟩, z5, z6⟩ := hz
      have p1 : r' = none := p1
      subst p1
      exact hR0 h' hi' hm
    cases he
def kePi0_L : List sT := [.inr (.inl 0), .inr (.inl 42), .inl (0, 0)]
def kePi0_A : sAs := ([], [], [], [])
def kePi0_P : List sP0 := []
def kePi0_G : List sP0 := []
def kePi0_B : List (Nat × Nat × Int) := []
def kePi0_m : sM := []
def kePi0_e0 : sXe := (2, [], [(0, .inr (.inl 0)), (1, .inr (.inl 42)), (2, .inl sf32), (3, .inl sf32)], sA0, [], ([], [], [(2, ([], 0)), (3, ([], 0))], []), [], [])
theorem kePi0_b : syfB swM sT0 kePi0_m 400 0 247 kePi0_L kePi0_A kePi0_P kePi0_G kePi0_B [kePi0_e0] [] = true := by decide +kernel
theorem kePi0 {l : Launch} {Γ : zG} {d : Nat} (hd : 0 ≤ d) {Kp : Option Value → zH → Prop} {h : zH} (hi : sInv swM h) {x_ix : Int32} (e_ix : x_ix.toInt = 0)
    (hE0 : ∀ (lo' : zL) (h' : zH), sInv swM h' → sMd kePi0_m h h' → zget lo' 0 = some (.ref 0) → zget lo' 1 = some (.ref 42) → zI lo' 2 0 → zI lo' 3 0 → zX l Γ false (d + 1) (zhd 247) (zMQ' Γ false (zhd 247) Kp) 0 0 2 lo' [] h') : zSem l Γ false (d + 1) (zhd 247) [.ref 0, .ref 42, .int x_ix] h Kp := by
  refine syf_ok (mi := 247) (fun i => [0].getD i 0) kePi0_b (fun _ _ hc _ => nomatch hc) hd ⟨_, _, rfl, rfl, ⟨_, _, rfl, rfl, ⟨_, _, rfl, ⟨x_ix, rfl, by show 0 ≤ x_ix.toInt; omega, by show x_ix.toInt ≤ 0; omega⟩, rfl⟩⟩⟩ ⟨rfl, rfl, ⟨x_ix, rfl, e_ix, by show 0 ≤ 0; omega, by show 0 ≤ 0; omega⟩, trivial⟩ ⟨(fun _ hc => nomatch hc), (fun _ hc => nomatch hc), (fun _ hc => nomatch hc), Or.inl rfl⟩ trivial trivial (fun _ hc => nomatch hc) hi ?_ ?_
  · intro e he lo' st' h' hp hi' hm
    rcases List.mem_cons.mp he with rfl | he
    · obtain ⟨p1, p2, -, hz⟩ := hp
      obtain ⟨⟨z1, z2, z3, z4⟩, z5, z6⟩ := hz
      have o0 : zget lo' 0 = some (.ref 0) := locR (p2 (0, .inr (.inl 0)) (List.mem_of_getElem? (i := 0) rfl))
      have o1 : zget lo' 1 = some (.ref 42) := locR (p2 (1, .inr (.inl 42)) (List.mem_of_getElem? (i := 1) rfl))
      have o2 : zI lo' 2 0 := zI_of (p2 (2, .inl sf32) (List.mem_of_getElem? (i := 2) rfl)) (z3 (2, ([], 0)) (List.mem_of_getElem? (i := 0) rfl)) (show 0 + 0 = 0 from by omega)
      have o3 : zI lo' 3 0 := zI_of (p2 (3, .inl sf32) (List.mem_of_getElem? (i := 3) rfl)) (z3 (3, ([], 0)) (List.mem_of_getElem? (i := 1) rfl)) (show 0 + 0 = 0 from by omega)
      have p1 : _ = [] := p1
      subst p1
      exact hE0 lo' h' hi' hm o0 o1 o2 o3
    cases he
  · intro e he r' h' hp hi' hm
    cases he
def kePi1_L (g : Nat) : List (Nat × sT) := [(0, .inr (.inl 0)), (1, .inr (.inl 42)), (2, .inl (0, 0)), (3, .inl ((g : Int), (g : Int)))]
def kePi1_S (g : Nat) : List sT := []
def kePi1_A (g : Nat) : sAs := ([], [], [], [])
def kePi1_P (g : Nat) : List sP0 := [(29, (none, ((g : Nat) : Int)), (0, 999)), (30, (none, ((g : Nat) : Int)), (0, 999)), (31, (none, ((g : Nat) : Int)), (0, 1)), (33, (none, ((g : Nat) : Int)), sf32)]
def kePi1_G (g : Nat) : List sP0 := []
def kePi1_B (g : Nat) : List (Nat × Nat × Int) := []
def kePi1_m (g : Nat) : sM := [(42, g, (g + 1)), (42, (g + 8), (g + 9)), (42, (g + 16), (g + 17)), (42, (g + 24), (g + 25))]
def kePi1_e0 (g : Nat) : sXe := (2, [], [(0, .inr (.inl 0)), (1, .inr (.inl 42)), (2, .inl sf32), (3, .inl sf32)], sA0, [], ([(42, (none, (((g + 24) : Nat) : Int)), ([(5, 1)], 0)), (42, (none, (((g + 16) : Nat) : Int)), ([], 0)), (42, (none, (((g + 8) : Nat) : Int)), ([(3, 1)], 0)), (42, (none, ((g : Nat) : Int)), ([(2, 1)], 0))], [], [(2, ([], 0)), (3, ([], ((g : Int) + 1)))], [([(4, 1)], 0), ([(4, (-1))], 0)]), [], [])
def kePi1_e1 (g : Nat) : sXe := (2, [], [(0, .inr (.inl 0)), (1, .inr (.inl 42)), (2, .inl sf32), (3, .inl sf32)], sA0, [], ([(42, (none, (((g + 24) : Nat) : Int)), ([(5, 1)], 0)), (42, (none, (((g + 16) : Nat) : Int)), ([], 1)), (42, (none, (((g + 8) : Nat) : Int)), ([(3, 1)], 0)), (42, (none, ((g : Nat) : Int)), ([(2, 1)], 0))], [], [(2, ([], 0)), (3, ([], ((g : Int) + 1)))], []), [(([(4, 1)], 0), ([], 0))], [])
theorem kePi1_b : ((List.range 8).all fun g => syeB swM sT0 (kePi1_m g) 400 0 247 (kePi1_L g) (kePi1_S g) (kePi1_A g) (kePi1_P g) (kePi1_G g) (kePi1_B g) 2 [kePi1_e0 g, kePi1_e1 g] []) = true := by decide +kernel
theorem kePi1 {l : Launch} {Γ : zG} {d : Nat} (hd : 0 ≤ d) {Kp : Option Value → zH → Prop} {lo : zL} {h : zH} {g : Nat} (h_g : g < 8) {a bw w pd : Int} (hi : sInv swM h) (b_a : 0 ≤ a ∧ a ≤ 999) (b_bw : 0 ≤ bw ∧ bw ≤ 999) (b_w : 0 ≤ w ∧ w ≤ 1) (b_pd : (-2147483648) ≤ pd ∧ pd ≤ 2147483647) (l0 : zget lo 0 = some (.ref 0)) (l1 : zget lo 1 = some (.ref 42)) (l2 : zI lo 2 0) (l3 : zI lo 3 (g : Int)) (p_a : pI h 29 g = a) (p_bw : pI h 30 g = bw) (p_w : pI h 31 g = w) (p_pd : pI h 33 g = pd)
    (hE0 : ∀ (lo' : zL) (h' : zH), sInv swM h' → sMd (kePi1_m g) h h' → w = 0 → pI h' 42 (g + 24) = pd → pI h' 42 (g + 16) = 0 → pI h' 42 (g + 8) = bw → pI h' 42 g = a → zget lo' 0 = some (.ref 0) → zget lo' 1 = some (.ref 42) → zI lo' 2 0 → zI lo' 3 ((g : Int) + 1) → zX l Γ false (d + 1) (zhd 247) (zMQ' Γ false (zhd 247) Kp) 0 0 2 lo' [] h')
    (hE1 : ∀ (lo' : zL) (h' : zH), sInv swM h' → sMd (kePi1_m g) h h' → w ≠ 0 → pI h' 42 (g + 24) = pd → pI h' 42 (g + 16) = 1 → pI h' 42 (g + 8) = bw → pI h' 42 g = a → zget lo' 0 = some (.ref 0) → zget lo' 1 = some (.ref 42) → zI lo' 2 0 → zI lo' 3 ((g : Int) + 1) → zX l Γ false (d + 1) (zhd 247) (zMQ' Γ false (zhd 247) Kp) 0 0 2 lo' [] h') : zX l Γ false (d + 1) (zhd 247) (zMQ' Γ false (zhd 247) Kp) 0 0 2 lo [] h := by
  refine sye_ok (mi := 247) (pc := 2) (fun i => [0, (g : Int), a, bw, w, pd].getD i 0) (zall_r kePi1_b h_g) (fun _ _ hc _ => nomatch hc) hd ⟨l0, l1, zIm l2 (by show 0 ≤ 0; omega) (by show 0 ≤ 0; omega), zIm l3 (by show (g : Int) ≤ (g : Int); omega) (by show (g : Int) ≤ (g : Int); omega), trivial⟩ rfl ⟨(fun _ hc => nomatch hc), (fun _ hc => nomatch hc), (fun _ hc => nomatch hc), Or.inl rfl⟩ ⟨⟨p_a, by show 0 ≤ a; omega, by show a ≤ 999; omega⟩, ⟨p_bw, by show 0 ≤ bw; omega, by show bw ≤ 999; omega⟩, ⟨p_w, by show 0 ≤ w; omega, by show w ≤ 1; omega⟩, ⟨p_pd, by show (-2147483648) ≤ pd; omega, by show pd ≤ 2147483647; omega⟩, trivial⟩ trivial (fun _ hc => nomatch hc) hi ?_ ?_
  · intro e he lo' st' h' hp hi' hm
    rcases List.mem_cons.mp he with rfl | he
    · obtain ⟨p1, p2, -, hz⟩ := hp
      obtain ⟨⟨z1, z2, z3, z4⟩, z5, z6⟩ := hz
      have c0 : w = 0 := by have q_ : (0 : Int) ≤ (1 * w + 0) + 0 := z4 ([(4, 1)], 0) (List.mem_of_getElem? (i := 0) rfl); have q2_ : (0 : Int) ≤ ((-1) * w + 0) + 0 := z4 ([(4, (-1))], 0) (List.mem_of_getElem? (i := 1) rfl); omega
      have k0 : pI h' 42 (g + 24) = pd := (show pI h' 42 (g + 24) = (1 * pd + 0) + 0 from z1 (42, (none, (((g + 24) : Nat) : Int)), ([(5, 1)], 0)) (List.mem_of_getElem? (i := 0) rfl)).trans (by omega)
      have k1 : pI h' 42 (g + 16) = 0 := (show pI h' 42 (g + 16) = 0 + 0 from z1 (42, (none, (((g + 16) : Nat) : Int)), ([], 0)) (List.mem_of_getElem? (i := 1) rfl)).trans (by omega)
      have k2 : pI h' 42 (g + 8) = bw := (show pI h' 42 (g + 8) = (1 * bw + 0) + 0 from z1 (42, (none, (((g + 8) : Nat) : Int)), ([(3, 1)], 0)) (List.mem_of_getElem? (i := 2) rfl)).trans (by omega)
      have k3 : pI h' 42 g = a := (show pI h' 42 g = (1 * a + 0) + 0 from z1 (42, (none, ((g : Nat) : Int)), ([(2, 1)], 0)) (List.mem_of_getElem? (i := 3) rfl)).trans (by omega)
      have o0 : zget lo' 0 = some (.ref 0) := locR (p2 (0, .inr (.inl 0)) (List.mem_of_getElem? (i := 0) rfl))
      have o1 : zget lo' 1 = some (.ref 42) := locR (p2 (1, .inr (.inl 42)) (List.mem_of_getElem? (i := 1) rfl))
      have o2 : zI lo' 2 0 := zI_of (p2 (2, .inl sf32) (List.mem_of_getElem? (i := 2) rfl)) (z3 (2, ([], 0)) (List.mem_of_getElem? (i := 0) rfl)) (show 0 + 0 = 0 from by omega)
      have o3 : zI lo' 3 ((g : Int) + 1) := zI_of (p2 (3, .inl sf32) (List.mem_of_getElem? (i := 3) rfl)) (z3 (3, ([], ((g : Int) + 1))) (List.mem_of_getElem? (i := 1) rfl)) (show 0 + ((g : Int) + 1) = ((g : Int) + 1) from by omega)
      have p1 : _ = [] := p1
      subst p1
      exact hE0 lo' h' hi' hm c0 k0 k1 k2 k3 o0 o1 o2 o3
    rcases List.mem_cons.mp he with rfl | he
    · obtain ⟨p1, p2, -, hz⟩ := hp
      obtain ⟨⟨z1, z2, z3, z4⟩, z5, z6⟩ := hz
      have n0 : w ≠ 0 := fun e_ => z5 (([(4, 1)], 0), ([], 0)) (List.mem_of_getElem? (i := 0) rfl) (by show (1 * w + 0) + 0 = 0 + 0; omega)
      have k0 : pI h' 42 (g + 24) = pd := (show pI h' 42 (g + 24) = (1 * pd + 0) + 0 from z1 (42, (none, (((g + 24) : Nat) : Int)), ([(5, 1)], 0)) (List.mem_of_getElem? (i := 0) rfl)).trans (by omega)
      have k1 : pI h' 42 (g + 16) = 1 := (show pI h' 42 (g + 16) = 0 + 1 from z1 (42, (none, (((g + 16) : Nat) : Int)), ([], 1)) (List.mem_of_getElem? (i := 1) rfl)).trans (by omega)
      have k2 : pI h' 42 (g + 8) = bw := (show pI h' 42 (g + 8) = (1 * bw + 0) + 0 from z1 (42, (none, (((g + 8) : Nat) : Int)), ([(3, 1)], 0)) (List.mem_of_getElem? (i := 2) rfl)).trans (by omega)
      have k3 : pI h' 42 g = a := (show pI h' 42 g = (1 * a + 0) + 0 from z1 (42, (none, ((g : Nat) : Int)), ([(2, 1)], 0)) (List.mem_of_getElem? (i := 3) rfl)).trans (by omega)
      have o0 : zget lo' 0 = some (.ref 0) := locR (p2 (0, .inr (.inl 0)) (List.mem_of_getElem? (i := 0) rfl))
      have o1 : zget lo' 1 = some (.ref 42) := locR (p2 (1, .inr (.inl 42)) (List.mem_of_getElem? (i := 1) rfl))
      have o2 : zI lo' 2 0 := zI_of (p2 (2, .inl sf32) (List.mem_of_getElem? (i := 2) rfl)) (z3 (2, ([], 0)) (List.mem_of_getElem? (i := 0) rfl)) (show 0 + 0 = 0 from by omega)
      have o3 : zI lo' 3 ((g : Int) + 1) := zI_of (p2 (3, .inl sf32) (List.mem_of_getElem? (i := 3) rfl)) (z3 (3, ([], ((g : Int) + 1))) (List.mem_of_getElem? (i := 1) rfl)) (show 0 + ((g : Int) + 1) = ((g : Int) + 1) from by omega)
      have p1 : _ = [] := p1
      subst p1
      exact hE1 lo' h' hi' hm n0 k0 k1 k2 k3 o0 o1 o2 o3
    cases he
  · intro e he r' h' hp hi' hm
    cases he
def kePi2_L : List (Nat × sT) := [(0, .inr (.inl 0)), (1, .inr (.inl 42)), (2, .inl (0, 0)), (3, .inl (8, 8))]
def kePi2_S : List sT := []
def kePi2_A : sAs := ([], [], [], [])
def kePi2_P : List sP0 := []
def kePi2_G : List sP0 := []
def kePi2_B : List (Nat × Nat × Int) := []
def kePi2_m : sM := []
def kePi2_r0 : sXr := (none, sA0, [], ([], [], [], []), [], [])
theorem kePi2_b : syeB swM sT0 kePi2_m 400 0 247 kePi2_L kePi2_S kePi2_A kePi2_P kePi2_G kePi2_B 2 [] [kePi2_r0] = true := by decide +kernel
theorem kePi2 {l : Launch} {Γ : zG} {d : Nat} (hd : 0 ≤ d) {Kp : Option Value → zH → Prop} {lo : zL} {h : zH} (hi : sInv swM h) (l0 : zget lo 0 = some (.ref 0)) (l1 : zget lo 1 = some (.ref 42)) (l2 : zI lo 2 0) (l3 : zI lo 3 8)
    (hR0 : ∀ (h' : zH), sInv swM h' → sMd kePi2_m h h' → Kp none h') : zX l Γ false (d + 1) (zhd 247) (zMQ' Γ false (zhd 247) Kp) 0 0 2 lo [] h := by
  refine sye_ok (mi := 247) (pc := 2) (fun i => [0, 8].getD i 0) kePi2_b (fun _ _ hc _ => nomatch hc) hd ⟨l0, l1, zIm l2 (by show 0 ≤ 0; omega) (by show 0 ≤ 0; omega), zIm l3 (by show 8 ≤ 8; omega) (by show 8 ≤ 8; omega), trivial⟩ rfl ⟨(fun _ hc => nomatch hc), (fun _ hc => nomatch hc), (fun _ hc => nomatch hc), Or.inl rfl⟩ trivial trivial (fun _ hc => nomatch hc) hi ?_ ?_
  · intro e he lo' st' h' hp hi' hm
    cases he
  · intro e he r' h' hp hi' hm
    rcases List.mem_cons.mp he with rfl | he
    · obtain ⟨p1, -, hz⟩ := hp
      obtain ⟨⟨z1, z2, z3, z4⟩, z5, z6⟩ := hz
      have p1 : r' = none := p1
      subst p1
      exact hR0 h' hi' hm
    cases he
def keTu0_L (k : Nat) : List sT := [.inr (.inl 0), .inr (.inl 41), .inl ((32 * (k : Int)), (32 * (k : Int)))]
def keTu0_A (k : Nat) : sAs := ([], [], [], [])
def keTu0_P (k : Nat) : List sP0 := []
def keTu0_G (k : Nat) : List sP0 := []
def keTu0_B (k : Nat) : List (Nat × Nat × Int) := []
def keTu0_m (k : Nat) : sM := []
def keTu0_e0 (k : Nat) : sXe := (2, [], [(0, .inr (.inl 0)), (1, .inr (.inl 41)), (2, .inl sf32), (3, .inl sf32)], sA0, [], ([], [], [(2, ([], (32 * (k : Int)))), (3, ([], 0))], []), [], [])
theorem keTu0_b : ((List.range 20).all fun k => syfB swM sT0 (keTu0_m k) 400 0 307 (keTu0_L k) (keTu0_A k) (keTu0_P k) (keTu0_G k) (keTu0_B k) [keTu0_e0 k] []) = true := by decide +kernel
theorem keTu0 {l : Launch} {Γ : zG} {d : Nat} (hd : 0 ≤ d) {Kp : Option Value → zH → Prop} {h : zH} {k : Nat} (h_k : k < 20) (hi : sInv swM h) {x_ix : Int32} (e_ix : x_ix.toInt = (32 * (k : Int)))
    (hE0 : ∀ (lo' : zL) (h' : zH), sInv swM h' → sMd (keTu0_m k) h h' → zget lo' 0 = some (.ref 0) → zget lo' 1 = some (.ref 41) → zI lo' 2 (32 * (k : Int)) → zI lo' 3 0 → zX l Γ false (d + 1) (zhd 307) (zMQ' Γ false (zhd 307) Kp) 0 0 2 lo' [] h') : zSem l Γ false (d + 1) (zhd 307) [.ref 0, .ref 41, .int x_ix] h Kp := by
  refine syf_ok (mi := 307) (fun i => [(32 * (k : Int))].getD i 0) (zall_r keTu0_b h_k) (fun _ _ hc _ => nomatch hc) hd ⟨_, _, rfl, rfl, ⟨_, _, rfl, rfl, ⟨_, _, rfl, ⟨x_ix, rfl, by show (32 * (k : Int)) ≤ x_ix.toInt; omega, by show x_ix.toInt ≤ (32 * (k : Int)); omega⟩, rfl⟩⟩⟩ ⟨rfl, rfl, ⟨x_ix, rfl, e_ix, by show (32 * (k : Int)) ≤ (32 * (k : Int)); omega, by show (32 * (k : Int)) ≤ (32 * (k : Int)); omega⟩, trivial⟩ ⟨(fun _ hc => nomatch hc), (fun _ hc => nomatch hc), (fun _ hc => nomatch hc), Or.inl rfl⟩ trivial trivial (fun _ hc => nomatch hc) hi ?_ ?_
  · intro e he lo' st' h' hp hi' hm
    rcases List.mem_cons.mp he with rfl | he
    · obtain ⟨p1, p2, -, hz⟩ := hp
      obtain ⟨⟨z1, z2, z3, z4⟩, z5, z6⟩ := hz
      have o0 : zget lo' 0 = some (.ref 0) := locR (p2 (0, .inr (.inl 0)) (List.mem_of_getElem? (i := 0) rfl))
      have o1 : zget lo' 1 = some (.ref 41) := locR (p2 (1, .inr (.inl 41)) (List.mem_of_getElem? (i := 1) rfl))
      have o2 : zI lo' 2 (32 * (k : Int)) := zI_of (p2 (2, .inl sf32) (List.mem_of_getElem? (i := 2) rfl)) (z3 (2, ([], (32 * (k : Int)))) (List.mem_of_getElem? (i := 0) rfl)) (show 0 + (32 * (k : Int)) = (32 * (k : Int)) from by omega)
      have o3 : zI lo' 3 0 := zI_of (p2 (3, .inl sf32) (List.mem_of_getElem? (i := 3) rfl)) (z3 (3, ([], 0)) (List.mem_of_getElem? (i := 1) rfl)) (show 0 + 0 = 0 from by omega)
      have p1 : _ = [] := p1
      subst p1
      exact hE0 lo' h' hi' hm o0 o1 o2 o3
    cases he
  · intro e he r' h' hp hi' hm
    cases he
def keTu1_L (g : Nat) (k : Nat) : List (Nat × sT) := [(0, .inr (.inl 0)), (1, .inr (.inl 41)), (2, .inl ((32 * (k : Int)), (32 * (k : Int)))), (3, .inl ((g : Int), (g : Int)))]
def keTu1_S (g : Nat) (k : Nat) : List sT := []
def keTu1_A (g : Nat) (k : Nat) : sAs := ([], [], [], [])
def keTu1_P (g : Nat) (k : Nat) : List sP0 := [(41, (none, (((g + 32 * k) : Nat) : Int)), (0, 999)), (41, (none, (((g + 32 * k + 8) : Nat) : Int)), (0, 999)), (41, (none, (((g + 32 * k + 16) : Nat) : Int)), (0, 1)), (41, (none, (((g + 32 * k + 24) : Nat) : Int)), sf32)]
def keTu1_G (g : Nat) (k : Nat) : List sP0 := []
def keTu1_B (g : Nat) (k : Nat) : List (Nat × Nat × Int) := []
def keTu1_m (g : Nat) (k : Nat) : sM := [(29, g, (g + 1)), (30, g, (g + 1)), (31, g, (g + 1)), (33, g, (g + 1))]
def keTu1_e0 (g : Nat) (k : Nat) : sXe := (2, [], [(0, .inr (.inl 0)), (1, .inr (.inl 41)), (2, .inl sf32), (3, .inl sf32)], sA0, [], ([(33, (none, ((g : Nat) : Int)), ([(5, 1)], 0)), (31, (none, ((g : Nat) : Int)), ([], 1)), (30, (none, ((g : Nat) : Int)), ([(3, 1)], 0)), (29, (none, ((g : Nat) : Int)), ([(2, 1)], 0))], [], [(2, ([], (32 * (k : Int)))), (3, ([], ((g : Int) + 1)))], [([(4, 1)], (-1)), ([(4, (-1))], 1)]), [], [])
def keTu1_e1 (g : Nat) (k : Nat) : sXe := (2, [], [(0, .inr (.inl 0)), (1, .inr (.inl 41)), (2, .inl sf32), (3, .inl sf32)], sA0, [], ([(33, (none, ((g : Nat) : Int)), ([(5, 1)], 0)), (31, (none, ((g : Nat) : Int)), ([], 0)), (30, (none, ((g : Nat) : Int)), ([(3, 1)], 0)), (29, (none, ((g : Nat) : Int)), ([(2, 1)], 0))], [], [(2, ([], (32 * (k : Int)))), (3, ([], ((g : Int) + 1)))], []), [(([(4, 1)], 0), ([], 1))], [])
theorem keTu1_b : ((List.range 8).all fun g => ((List.range 20).all fun k => syeB swM sT0 (keTu1_m g k) 400 0 307 (keTu1_L g k) (keTu1_S g k) (keTu1_A g k) (keTu1_P g k) (keTu1_G g k) (keTu1_B g k) 2 [keTu1_e0 g k, keTu1_e1 g k] [])) = true := by decide +kernel
theorem keTu1 {l : Launch} {Γ : zG} {d : Nat} (hd : 0 ≤ d) {Kp : Option Value → zH → Prop} {lo : zL} {h : zH} {g : Nat} (h_g : g < 8) {k : Nat} (h_k : k < 20) {a bw w pd : Int} (hi : sInv swM h) (b_a : 0 ≤ a ∧ a ≤ 999) (b_bw : 0 ≤ bw ∧ bw ≤ 999) (b_w : 0 ≤ w ∧ w ≤ 1) (b_pd : (-2147483648) ≤ pd ∧ pd ≤ 2147483647) (l0 : zget lo 0 = some (.ref 0)) (l1 : zget lo 1 = some (.ref 41)) (l2 : zI lo 2 (32 * (k : Int))) (l3 : zI lo 3 (g : Int)) (p_a : pI h 41 (g + 32 * k) = a) (p_bw : pI h 41 (g + 32 * k + 8) = bw) (p_w : pI h 41 (g + 32 * k + 16) = w) (p_pd : pI h 41 (g + 32 * k + 24) = pd)
    (hE0 : ∀ (lo' : zL) (h' : zH), sInv swM h' → sMd (keTu1_m g k) h h' → w = 1 → pI h' 33 g = pd → pI h' 31 g = 1 → pI h' 30 g = bw → pI h' 29 g = a → zget lo' 0 = some (.ref 0) → zget lo' 1 = some (.ref 41) → zI lo' 2 (32 * (k : Int)) → zI lo' 3 ((g : Int) + 1) → zX l Γ false (d + 1) (zhd 307) (zMQ' Γ false (zhd 307) Kp) 0 0 2 lo' [] h')
    (hE1 : ∀ (lo' : zL) (h' : zH), sInv swM h' → sMd (keTu1_m g k) h h' → w ≠ 1 → pI h' 33 g = pd → pI h' 31 g = 0 → pI h' 30 g = bw → pI h' 29 g = a → zget lo' 0 = some (.ref 0) → zget lo' 1 = some (.ref 41) → zI lo' 2 (32 * (k : Int)) → zI lo' 3 ((g : Int) + 1) → zX l Γ false (d + 1) (zhd 307) (zMQ' Γ false (zhd 307) Kp) 0 0 2 lo' [] h') : zX l Γ false (d + 1) (zhd 307) (zMQ' Γ false (zhd 307) Kp) 0 0 2 lo [] h := by
  refine sye_ok (mi := 307) (pc := 2) (fun i => [(32 * (k : Int)), (g : Int), a, bw, w, pd].getD i 0) (zall_r (zall_r keTu1_b h_g) h_k) (fun _ _ hc _ => nomatch hc) hd ⟨l0, l1, zIm l2 (by show (32 * (k : Int)) ≤ (32 * (k : Int)); omega) (by show (32 * (k : Int)) ≤ (32 * (k : Int)); omega), zIm l3 (by show (g : Int) ≤ (g : Int); omega) (by show (g : Int) ≤ (g : Int); omega), trivial⟩ rfl ⟨(fun _ hc => nomatch hc), (fun _ hc => nomatch hc), (fun _ hc => nomatch hc), Or.inl rfl⟩ ⟨⟨p_a, by show 0 ≤ a; omega, by show a ≤ 999; omega⟩, ⟨p_bw, by show 0 ≤ bw; omega, by show bw ≤ 999; omega⟩, ⟨p_w, by show 0 ≤ w; omega, by show w ≤ 1; omega⟩, ⟨p_pd, by show (-2147483648) ≤ pd; omega, by show pd ≤ 2147483647; omega⟩, trivial⟩ trivial (fun _ hc => nomatch hc) hi ?_ ?_
  · intro e he lo' st' h' hp hi' hm
    rcases List.mem_cons.mp he with rfl | he
    · obtain ⟨p1, p2, -, hz⟩ := hp
      obtain ⟨⟨z1, z2, z3, z4⟩, z5, z6⟩ := hz
      have c0 : w = 1 := by have q_ : (0 : Int) ≤ (1 * w + 0) + (-1) := z4 ([(4, 1)], (-1)) (List.mem_of_getElem? (i := 0) rfl); have q2_ : (0 : Int) ≤ ((-1) * w + 0) + 1 := z4 ([(4, (-1))], 1) (List.mem_of_getElem? (i := 1) rfl); omega
      have k0 : pI h' 33 g = pd := (show pI h' 33 g = (1 * pd + 0) + 0 from z1 (33, (none, ((g : Nat) : Int)), ([(5, 1)], 0)) (List.mem_of_getElem? (i := 0) rfl)).trans (by omega)
      have k1 : pI h' 31 g = 1 := (show pI h' 31 g = 0 + 1 from z1 (31, (none, ((g : Nat) : Int)), ([], 1)) (List.mem_of_getElem? (i := 1) rfl)).trans (by omega)
      have k2 : pI h' 30 g = bw := (show pI h' 30 g = (1 * bw + 0) + 0 from z1 (30, (none, ((g : Nat) : Int)), ([(3, 1)], 0)) (List.mem_of_getElem? (i := 2) rfl)).trans (by omega)
      have k3 : pI h' 29 g = a := (show pI h' 29 g = (1 * a + 0) + 0 from z1 (29, (none, ((g : Nat) : Int)), ([(2, 1)], 0)) (List.mem_of_getElem? (i := 3) rfl)).trans (by omega)
      have o0 : zget lo' 0 = some (.ref 0) := locR (p2 (0, .inr (.inl 0)) (List.mem_of_getElem? (i := 0) rfl))
      have o1 : zget lo' 1 = some (.ref 41) := locR (p2 (1, .inr (.inl 41)) (List.mem_of_getElem? (i := 1) rfl))
      have o2 : zI lo' 2 (32 * (k : Int)) := zI_of (p2 (2, .inl sf32) (List.mem_of_getElem? (i := 2) rfl)) (z3 (2, ([], (32 * (k : Int)))) (List.mem_of_getElem? (i := 0) rfl)) (show 0 + (32 * (k : Int)) = (32 * (k : Int)) from by omega)
      have o3 : zI lo' 3 ((g : Int) + 1) := zI_of (p2 (3, .inl sf32) (List.mem_of_getElem? (i := 3) rfl)) (z3 (3, ([], ((g : Int) + 1))) (List.mem_of_getElem? (i := 1) rfl)) (show 0 + ((g : Int) + 1) = ((g : Int) + 1) from by omega)
      have p1 : _ = [] := p1
      subst p1
      exact hE0 lo' h' hi' hm c0 k0 k1 k2 k3 o0 o1 o2 o3
    rcases List.mem_cons.mp he with rfl | he
    · obtain ⟨p1, p2, -, hz⟩ := hp
      obtain ⟨⟨z1, z2, z3, z4⟩, z5, z6⟩ := hz
      have n0 : w ≠ 1 := fun e_ => z5 (([(4, 1)], 0), ([], 1)) (List.mem_of_getElem? (i := 0) rfl) (by show (1 * w + 0) + 0 = 0 + 1; omega)
      have k0 : pI h' 33 g = pd := (show pI h' 33 g = (1 * pd + 0) + 0 from z1 (33, (none, ((g : Nat) : Int)), ([(5, 1)], 0)) (List.mem_of_getElem? (i := 0) rfl)).trans (by omega)
      have k1 : pI h' 31 g = 0 := (show pI h' 31 g = 0 + 0 from z1 (31, (none, ((g : Nat) : Int)), ([], 0)) (List.mem_of_getElem? (i := 1) rfl)).trans (by omega)
      have k2 : pI h' 30 g = bw := (show pI h' 30 g = (1 * bw + 0) + 0 from z1 (30, (none, ((g : Nat) : Int)), ([(3, 1)], 0)) (List.mem_of_getElem? (i := 2) rfl)).trans (by omega)
      have k3 : pI h' 29 g = a := (show pI h' 29 g = (1 * a + 0) + 0 from z1 (29, (none, ((g : Nat) : Int)), ([(2, 1)], 0)) (List.mem_of_getElem? (i := 3) rfl)).trans (by omega)
      have o0 : zget lo' 0 = some (.ref 0) := locR (p2 (0, .inr (.inl 0)) (List.mem_of_getElem? (i := 0) rfl))
      have o1 : zget lo' 1 = some (.ref 41) := locR (p2 (1, .inr (.inl 41)) (List.mem_of_getElem? (i := 1) rfl))
      have o2 : zI lo' 2 (32 * (k : Int)) := zI_of (p2 (2, .inl sf32) (List.mem_of_getElem? (i := 2) rfl)) (z3 (2, ([], (32 * (k : Int)))) (List.mem_of_getElem? (i := 0) rfl)) (show 0 + (32 * (k : Int)) = (32 * (k : Int)) from by omega)
      have o3 : zI lo' 3 ((g : Int) + 1) := zI_of (p2 (3, .inl sf32) (List.mem_of_getElem? (i := 3) rfl)) (z3 (3, ([], ((g : Int) + 1))) (List.mem_of_getElem? (i := 1) rfl)) (show 0 + ((g : Int) + 1) = ((g : Int) + 1) from by omega)
      have p1 : _ = [] := p1
      subst p1
      exact hE1 lo' h' hi' hm n0 k0 k1 k2 k3 o0 o1 o2 o3
    cases he
  · intro e he r' h' hp hi' hm
    cases he
def keTu2_L (k : Nat) : List (Nat × sT) := [(0, .inr (.inl 0)), (1, .inr (.inl 41)), (2, .inl ((32 * (k : Int)), (32 * (k : Int)))), (3, .inl (8, 8))]
def keTu2_S (k : Nat) : List sT := []
def keTu2_A (k : Nat) : sAs := ([], [], [], [])
def keTu2_P (k : Nat) : List sP0 := []
def keTu2_G (k : Nat) : List sP0 := []
def keTu2_B (k : Nat) : List (Nat × Nat × Int) := []
def keTu2_m (k : Nat) : sM := []
def keTu2_r0 (k : Nat) : sXr := (none, sA0, [], ([], [], [], []), [], [])
theorem keTu2_b : ((List.range 20).all fun k => syeB swM sT0 (keTu2_m k) 400 0 307 (keTu2_L k) (keTu2_S k) (keTu2_A k) (keTu2_P k) (keTu2_G k) (keTu2_B k) 2 [] [keTu2_r0 k]) = true := by decide +kernel
theorem keTu2 {l : Launch} {Γ : zG} {d : Nat} (hd : 0 ≤ d) {Kp : Option Value → zH → Prop} {lo : zL} {h : zH} {k : Nat} (h_k : k < 20) (hi : sInv swM h) (l0 : zget lo 0 = some (.ref 0)) (l1 : zget lo 1 = some (.ref 41)) (l2 : zI lo 2 (32 * (k : Int))) (l3 : zI lo 3 8)
    (hR0 : ∀ (h' : zH), sInv swM h' → sMd (keTu2_m k) h h' → Kp none h') : zX l Γ false (d + 1) (zhd 307) (zMQ' Γ false (zhd 307) Kp) 0 0 2 lo [] h := by
  refine sye_ok (mi := 307) (pc := 2) (fun i => [(32 * (k : Int)), 8].getD i 0) (zall_r keTu2_b h_k) (fun _ _ hc _ => nomatch hc) hd ⟨l0, l1, zIm l2 (by show (32 * (k : Int)) ≤ (32 * (k : Int)); omega) (by show (32 * (k : Int)) ≤ (32 * (k : Int)); omega), zIm l3 (by show 8 ≤ 8; omega) (by show 8 ≤ 8; omega), trivial⟩ rfl ⟨(fun _ hc => nomatch hc), (fun _ hc => nomatch hc), (fun _ hc => nomatch hc), Or.inl rfl⟩ trivial trivial (fun _ hc => nomatch hc) hi ?_ ?_
  · intro e he lo' st' h' hp hi' hm
    cases he
  · intro e he r' h' hp hi' hm
    rcases List.mem_cons.mp he with rfl | he
    · obtain ⟨p1, -, hz⟩ := hp
      obtain ⟨⟨z1, z2, z3, z4⟩, z5, z6⟩ := hz
      have p1 : r' = none := p1
      subst p1
      exact hR0 h' hi' hm
    cases he
def keTi0_L : List sT := [.inr (.inl 0), .inr (.inl 42), .inl (0, 0)]
def keTi0_A : sAs := ([], [], [], [])
def keTi0_P : List sP0 := []
def keTi0_G : List sP0 := []
def keTi0_B : List (Nat × Nat × Int) := []
def keTi0_m : sM := []
def keTi0_e0 : sXe := (2, [], [(0, .inr (.inl 0)), (1, .inr (.inl 42)), (2, .inl sf32), (3, .inl sf32)], sA0, [], ([], [], [(2, ([], 0)), (3, ([], 0))], []), [], [])
theorem keTi0_b : syfB swM sT0 keTi0_m 400 0 307 keTi0_L keTi0_A keTi0_P keTi0_G keTi0_B [keTi0_e0] [] = true := by decide +kernel
theorem keTi0 {l : Launch} {Γ : zG} {d : Nat} (hd : 0 ≤ d) {Kp : Option Value → zH → Prop} {h : zH} (hi : sInv swM h) {x_ix : Int32} (e_ix : x_ix.toInt = 0)
    (hE0 : ∀ (lo' : zL) (h' : zH), sInv swM h' → sMd keTi0_m h h' → zget lo' 0 = some (.ref 0) → zget lo' 1 = some (.ref 42) → zI lo' 2 0 → zI lo' 3 0 → zX l Γ false (d + 1) (zhd 307) (zMQ' Γ false (zhd 307) Kp) 0 0 2 lo' [] h') : zSem l Γ false (d + 1) (zhd 307) [.ref 0, .ref 42, .int x_ix] h Kp := by
  refine syf_ok (mi := 307) (fun i => [0].getD i 0) keTi0_b (fun _ _ hc _ => nomatch hc) hd ⟨_, _, rfl, rfl, ⟨_, _, rfl, rfl, ⟨_, _, rfl, ⟨x_ix, rfl, by show 0 ≤ x_ix.toInt; omega, by show x_ix.toInt ≤ 0; omega⟩, rfl⟩⟩⟩ ⟨rfl, rfl, ⟨x_ix, rfl, e_ix, by show 0 ≤ 0; omega, by show 0 ≤ 0; omega⟩, trivial⟩ ⟨(fun _ hc => nomatch hc), (fun _ hc => nomatch hc), (fun _ hc => nomatch hc), Or.inl rfl⟩ trivial trivial (fun _ hc => nomatch hc) hi ?_ ?_
  · intro e he lo' st' h' hp hi' hm
    rcases List.mem_cons.mp he with rfl | he
    · obtain ⟨p1, p2, -, hz⟩ := hp
      obtain ⟨⟨z1, z2, z3, z4⟩, z5, z6⟩ := hz
      have o0 : zget lo' 0 = some (.ref 0) := locR (p2 (0, .inr (.inl 0)) (List.mem_of_getElem? (i := 0) rfl))
      have o1 : zget lo' 1 = some (.ref 42) := locR (p2 (1, .inr (.inl 42)) (List.mem_of_getElem? (i := 1) rfl))
      have o2 : zI lo' 2 0 := zI_of (p2 (2, .inl sf32) (List.mem_of_getElem? (i := 2) rfl)) (z3 (2, ([], 0)) (List.mem_of_getElem? (i := 0) rfl)) (show 0 + 0 = 0 from by omega)
      have o3 : zI lo' 3 0 := zI_of (p2 (3, .inl sf32) (List.mem_of_getElem? (i := 3) rfl)) (z3 (3, ([], 0)) (List.mem_of_getElem? (i := 1) rfl)) (show 0 + 0 = 0 from by omega)
      have p1 : _ = [] := p1
      subst p1
      exact hE0 lo' h' hi' hm o0 o1 o2 o3
    cases he
  · intro e he r' h' hp hi' hm
    cases he
def keTi1_L (g : Nat) : List (Nat × sT) := [(0, .inr (.inl 0)), (1, .inr (.inl 42)), (2, .inl (0, 0)), (3, .inl ((g : Int), (g : Int)))]
def keTi1_S (g : Nat) : List sT := []
def keTi1_A (g : Nat) : sAs := ([], [], [], [])
def keTi1_P (g : Nat) : List sP0 := [(42, (none, ((g : Nat) : Int)), (0, 999)), (42, (none, (((g + 8) : Nat) : Int)), (0, 999)), (42, (none, (((g + 16) : Nat) : Int)), (0, 1)), (42, (none, (((g + 24) : Nat) : Int)), sf32)]
def keTi1_G (g : Nat) : List sP0 := []
def keTi1_B (g : Nat) : List (Nat × Nat × Int) := []
def keTi1_m (g : Nat) : sM := [(29, g, (g + 1)), (30, g, (g + 1)), (31, g, (g + 1)), (33, g, (g + 1))]
def keTi1_e0 (g : Nat) : sXe := (2, [], [(0, .inr (.inl 0)), (1, .inr (.inl 42)), (2, .inl sf32), (3, .inl sf32)], sA0, [], ([(33, (none, ((g : Nat) : Int)), ([(5, 1)], 0)), (31, (none, ((g : Nat) : Int)), ([], 1)), (30, (none, ((g : Nat) : Int)), ([(3, 1)], 0)), (29, (none, ((g : Nat) : Int)), ([(2, 1)], 0))], [], [(2, ([], 0)), (3, ([], ((g : Int) + 1)))], [([(4, 1)], (-1)), ([(4, (-1))], 1)]), [], [])
def keTi1_e1 (g : Nat) : sXe := (2, [], [(0, .inr (.inl 0)), (1, .inr (.inl 42)), (2, .inl sf32), (3, .inl sf32)], sA0, [], ([(33, (none, ((g : Nat) : Int)), ([(5, 1)], 0)), (31, (none, ((g : Nat) : Int)), ([], 0)), (30, (none, ((g : Nat) : Int)), ([(3, 1)], 0)), (29, (none, ((g : Nat) : Int)), ([(2, 1)], 0))], [], [(2, ([], 0)), (3, ([], ((g : Int) + 1)))], []), [(([(4, 1)], 0), ([], 1))], [])
theorem keTi1_b : ((List.range 8).all fun g => syeB swM sT0 (keTi1_m g) 400 0 307 (keTi1_L g) (keTi1_S g) (keTi1_A g) (keTi1_P g) (keTi1_G g) (keTi1_B g) 2 [keTi1_e0 g, keTi1_e1 g] []) = true := by decide +kernel
theorem keTi1 {l : Launch} {Γ : zG} {d : Nat} (hd : 0 ≤ d) {Kp : Option Value → zH → Prop} {lo : zL} {h : zH} {g : Nat} (h_g : g < 8) {a bw w pd : Int} (hi : sInv swM h) (b_a : 0 ≤ a ∧ a ≤ 999) (b_bw : 0 ≤ bw ∧ bw ≤ 999) (b_w : 0 ≤ w ∧ w ≤ 1) (b_pd : (-2147483648) ≤ pd ∧ pd ≤ 2147483647) (l0 : zget lo 0 = some (.ref 0)) (l1 : zget lo 1 = some (.ref 42)) (l2 : zI lo 2 0) (l3 : zI lo 3 (g : Int)) (p_a : pI h 42 g = a) (p_bw : pI h 42 (g + 8) = bw) (p_w : pI h 42 (g + 16) = w) (p_pd : pI h 42 (g + 24) = pd)
    (hE0 : ∀ (lo' : zL) (h' : zH), sInv swM h' → sMd (keTi1_m g) h h' → w = 1 → pI h' 33 g = pd → pI h' 31 g = 1 → pI h' 30 g = bw → pI h' 29 g = a → zget lo' 0 = some (.ref 0) → zget lo' 1 = some (.ref 42) → zI lo' 2 0 → zI lo' 3 ((g : Int) + 1) → zX l Γ false (d + 1) (zhd 307) (zMQ' Γ false (zhd 307) Kp) 0 0 2 lo' [] h')
    (hE1 : ∀ (lo' : zL) (h' : zH), sInv swM h' → sMd (keTi1_m g) h h' → w ≠ 1 → pI h' 33 g = pd → pI h' 31 g = 0 → pI h' 30 g = bw → pI h' 29 g = a → zget lo' 0 = some (.ref 0) → zget lo' 1 = some (.ref 42) → zI lo' 2 0 → zI lo' 3 ((g : Int) + 1) → zX l Γ false (d + 1) (zhd 307) (zMQ' Γ false (zhd 307) Kp) 0 0 2 lo' [] h') : zX l Γ false (d + 1) (zhd 307) (zMQ' Γ false (zhd 307) Kp) 0 0 2 lo [] h := by
  refine sye_ok (mi := 307) (pc := 2) (fun i => [0, (g : Int), a, bw, w, pd].getD i 0) (zall_r keTi1_b h_g) (fun _ _ hc _ => nomatch hc) hd ⟨l0, l1, zIm l2 (by show 0 ≤ 0; omega) (by show 0 ≤ 0; omega), zIm l3 (by show (g : Int) ≤ (g : Int); omega) (by show (g : Int) ≤ (g : Int); omega), trivial⟩ rfl ⟨(fun _ hc => nomatch hc), (fun _ hc => nomatch hc), (fun _ hc => nomatch hc), Or.inl rfl⟩ ⟨⟨p_a, by show 0 ≤ a; omega, by show a ≤ 999; omega⟩, ⟨p_bw, by show 0 ≤ bw; omega, by show bw ≤ 999; omega⟩, ⟨p_w, by show 0 ≤ w; omega, by show w ≤ 1; omega⟩, ⟨p_pd, by show (-2147483648) ≤ pd; omega, by show pd ≤ 2147483647; omega⟩, trivial⟩ trivial (fun _ hc => nomatch hc) hi ?_ ?_
  · intro e he lo' st' h' hp hi' hm
    rcases List.mem_cons.mp he with rfl | he
    · obtain ⟨p1, p2, -, hz⟩ := hp
      obtain ⟨⟨z1, z2, z3, z4⟩, z5, z6⟩ := hz
      have c0 : w = 1 := by have q_ : (0 : Int) ≤ (1 * w + 0) + (-1) := z4 ([(4, 1)], (-1)) (List.mem_of_getElem? (i := 0) rfl); have q2_ : (0 : Int) ≤ ((-1) * w + 0) + 1 := z4 ([(4, (-1))], 1) (List.mem_of_getElem? (i := 1) rfl); omega
      have k0 : pI h' 33 g = pd := (show pI h' 33 g = (1 * pd + 0) + 0 from z1 (33, (none, ((g : Nat) : Int)), ([(5, 1)], 0)) (List.mem_of_getElem? (i := 0) rfl)).trans (by omega)
      have k1 : pI h' 31 g = 1 := (show pI h' 31 g = 0 + 1 from z1 (31, (none, ((g : Nat) : Int)), ([], 1)) (List.mem_of_getElem? (i := 1) rfl)).trans (by omega)
      have k2 : pI h' 30 g = bw := (show pI h' 30 g = (1 * bw + 0) + 0 from z1 (30, (none, ((g : Nat) : Int)), ([(3, 1)], 0)) (List.mem_of_getElem? (i := 2) rfl)).trans (by omega)
      have k3 : pI h' 29 g = a := (show pI h' 29 g = (1 * a + 0) + 0 from z1 (29, (none, ((g : Nat) : Int)), ([(2, 1)], 0)) (List.mem_of_getElem? (i := 3) rfl)).trans (by omega)
      have o0 : zget lo' 0 = some (.ref 0) := locR (p2 (0, .inr (.inl 0)) (List.mem_of_getElem? (i := 0) rfl))
      have o1 : zget lo' 1 = some (.ref 42) := locR (p2 (1, .inr (.inl 42)) (List.mem_of_getElem? (i := 1) rfl))
      have o2 : zI lo' 2 0 := zI_of (p2 (2, .inl sf32) (List.mem_of_getElem? (i := 2) rfl)) (z3 (2, ([], 0)) (List.mem_of_getElem? (i := 0) rfl)) (show 0 + 0 = 0 from by omega)
      have o3 : zI lo' 3 ((g : Int) + 1) := zI_of (p2 (3, .inl sf32) (List.mem_of_getElem? (i := 3) rfl)) (z3 (3, ([], ((g : Int) + 1))) (List.mem_of_getElem? (i := 1) rfl)) (show 0 + ((g : Int) + 1) = ((g : Int) + 1) from by omega)
      have p1 : _ = [] := p1
      subst p1
      exact hE0 lo' h' hi' hm c0 k0 k1 k2 k3 o0 o1 o2 o3
    rcases List.mem_cons.mp he with rfl | he
    · obtain ⟨p1, p2, -, hz⟩ := hp
      obtain ⟨⟨z1, z2, z3, z4⟩, z5, z6⟩ := hz
      have n0 : w ≠ 1 := fun e_ => z5 (([(4, 1)], 0), ([], 1)) (List.mem_of_getElem? (i := 0) rfl) (by show (1 * w + 0) + 0 = 0 + 1; omega)
      have k0 : pI h' 33 g = pd := (show pI h' 33 g = (1 * pd + 0) + 0 from z1 (33, (none, ((g : Nat) : Int)), ([(5, 1)], 0)) (List.mem_of_getElem? (i := 0) rfl)).trans (by omega)
      have k1 : pI h' 31 g = 0 := (show pI h' 31 g = 0 + 0 from z1 (31, (none, ((g : Nat) : Int)), ([], 0)) (List.mem_of_getElem? (i := 1) rfl)).trans (by omega)
      have k2 : pI h' 30 g = bw := (show pI h' 30 g = (1 * bw + 0) + 0 from z1 (30, (none, ((g : Nat) : Int)), ([(3, 1)], 0)) (List.mem_of_getElem? (i := 2) rfl)).trans (by omega)
      have k3 : pI h' 29 g = a := (show pI h' 29 g = (1 * a + 0) + 0 from z1 (29, (none, ((g : Nat) : Int)), ([(2, 1)], 0)) (List.mem_of_getElem? (i := 3) rfl)).trans (by omega)
      have o0 : zget lo' 0 = some (.ref 0) := locR (p2 (0, .inr (.inl 0)) (List.mem_of_getElem? (i := 0) rfl))
      have o1 : zget lo' 1 = some (.ref 42) := locR (p2 (1, .inr (.inl 42)) (List.mem_of_getElem? (i := 1) rfl))
      have o2 : zI lo' 2 0 := zI_of (p2 (2, .inl sf32) (List.mem_of_getElem? (i := 2) rfl)) (z3 (2, ([], 0)) (List.mem_of_getElem? (i := 0) rfl)) (show 0 + 0 = 0 from by omega)
      have o3 : zI lo' 3 ((g : Int) + 1) := zI_of (p2 (3, .inl sf32) (List.mem_of_getElem? (i := 3) rfl)) (z3 (3, ([], ((g : Int) + 1))) (List.mem_of_getElem? (i := 1) rfl)) (show 0 + ((g : Int) + 1) = ((g : Int) + 1) from by omega)
      have p1 : _ = [] := p1
      subst p1
      exact hE1 lo' h' hi' hm n0 k0 k1 k2 k3 o0 o1 o2 o3
    cases he
  · intro e he r' h' hp hi' hm
    cases he
def keTi2_L : List (Nat × sT) := [(0, .inr (.inl 0)), (1, .inr (.inl 42)), (2, .inl (0, 0)), (3, .inl (8, 8))]
def keTi2_S : List sT := []
def keTi2_A : sAs := ([], [], [], [])
def keTi2_P : List sP0 := []
def keTi2_G : List sP0 := []
def keTi2_B : List (Nat × Nat × Int) := []
def keTi2_m : sM := []
def keTi2_r0 : sXr := (none, sA0, [], ([], [], [], []), [], [])
theorem keTi2_b : syeB swM sT0 keTi2_m 400 0 307 keTi2_L keTi2_S keTi2_A keTi2_P keTi2_G keTi2_B 2 [] [keTi2_r0] = true := by decide +kernel
theorem keTi2 {l : Launch} {Γ : zG} {d : Nat} (hd : 0 ≤ d) {Kp : Option Value → zH → Prop} {lo : zL} {h : zH} (hi : sInv swM h) (l0 : zget lo 0 = some (.ref 0)) (l1 : zget lo 1 = some (.ref 42)) (l2 : zI lo 2 0) (l3 : zI lo 3 8)
    (hR0 : ∀ (h' : zH), sInv swM h' → sMd keTi2_m h h' → Kp none h') : zX l Γ false (d + 1) (zhd 307) (zMQ' Γ false (zhd 307) Kp) 0 0 2 lo [] h := by
  refine sye_ok (mi := 307) (pc := 2) (fun i => [0, 8].getD i 0) keTi2_b (fun _ _ hc _ => nomatch hc) hd ⟨l0, l1, zIm l2 (by show 0 ≤ 0; omega) (by show 0 ≤ 0; omega), zIm l3 (by show 8 ≤ 8; omega) (by show 8 ≤ 8; omega), trivial⟩ rfl ⟨(fun _ hc => nomatch hc), (fun _ hc => nomatch hc), (fun _ hc => nomatch hc), Or.inl rfl⟩ trivial trivial (fun _ hc => nomatch hc) hi ?_ ?_
  · intro e he lo' st' h' hp hi' hm
    cases he
  · intro e he r' h' hp hi' hm
    rcases List.mem_cons.mp he with rfl | he
    · obtain ⟨p1, -, hz⟩ := hp
      obtain ⟨⟨z1, z2, z3, z4⟩, z5, z6⟩ := hz
      have p1 : r' = none := p1
      subst p1
      exact hR0 h' hi' hm
    cases he
def keR0_L (n : Nat) : List sT := [.inr (.inl 0)]
def keR0_A (n : Nat) : sAs := ([], [], [], [])
def keR0_P (n : Nat) : List sP0 := [(0, (none, 80), ((n : Int), (n : Int)))]
def keR0_G (n : Nat) : List sP0 := []
def keR0_B (n : Nat) : List (Nat × Nat × Int) := []
def keR0_m (n : Nat) : sM := []
def keR0_e0 (n : Nat) : sXe := (61, [.inl sf32, .inr (.inl 41), .inr (.inl 0)], [(0, .inr (.inl 0))], sA0, [], ([], [(0, ([], (32 * (n : Int))))], [], []), [], [])
theorem keR0_b : ((List.range 20).all fun n => syfB swM sT0 (keR0_m n) 400 0 246 (keR0_L n) (keR0_A n) (keR0_P n) (keR0_G n) (keR0_B n) [keR0_e0 n] []) = true := by decide +kernel
theorem keR0 {l : Launch} {Γ : zG} {d : Nat} (hd : 0 ≤ d) {Kp : Option Value → zH → Prop} {h : zH} {n : Nat} (h_n : n < 20) (hi : sInv swM h) (p_nn : pI h 0 80 = (n : Int))
    (hE0 : ∀ (lo' : zL) (h' : zH) (y0 : Int32), sInv swM h' → sMd (keR0_m n) h h' → zget lo' 0 = some (.ref 0) → y0.toInt = (32 * (n : Int)) → zX l Γ false (d + 1) (zhd 246) (zMQ' Γ false (zhd 246) Kp) 0 0 61 lo' [.int y0, .ref 41, .ref 0] h') : zSem l Γ false (d + 1) (zhd 246) [.ref 0] h Kp := by
  refine syf_ok (mi := 246) (fun i => [(n : Int)].getD i 0) (zall_r keR0_b h_n) (fun _ _ hc _ => nomatch hc) hd ⟨_, _, rfl, rfl, rfl⟩ ⟨rfl, trivial⟩ ⟨(fun _ hc => nomatch hc), (fun _ hc => nomatch hc), (fun _ hc => nomatch hc), Or.inl rfl⟩ ⟨⟨p_nn, by show (n : Int) ≤ (n : Int); omega, by show (n : Int) ≤ (n : Int); omega⟩, trivial⟩ trivial (fun _ hc => nomatch hc) hi ?_ ?_
  · intro e he lo' st' h' hp hi' hm
    rcases List.mem_cons.mp he with rfl | he
    · obtain ⟨p1, p2, -, hz⟩ := hp
      obtain ⟨⟨z1, z2, z3, z4⟩, z5, z6⟩ := hz
      have o0 : zget lo' 0 = some (.ref 0) := locR (p2 (0, .inr (.inl 0)) (List.mem_of_getElem? (i := 0) rfl))
      obtain ⟨_, _, rfl, ⟨y0, rfl, -⟩, p1⟩ := p1
      obtain ⟨_, _, rfl, hr, p1⟩ := p1
      have hr : _ = Value.ref 41 := hr
      subst hr
      obtain ⟨_, _, rfl, hr, p1⟩ := p1
      have hr : _ = Value.ref 0 := hr
      subst hr
      have p1 : _ = [] := p1
      subst p1
      obtain ⟨v_, ev, hv⟩ := z2 (0, ([], (32 * (n : Int)))) (List.mem_of_getElem? (i := 0) rfl)
      cases ev
      have s0 : y0.toInt = (32 * (n : Int)) := (show y0.toInt = 0 + (32 * (n : Int)) from hv).trans (by omega)
      exact hE0 lo' h' y0 hi' hm o0 s0
    cases he
  · intro e he r' h' hp hi' hm
    cases he
def keR1_L : List sT := [.inr (.inl 0)]
def keR1_A : sAs := ([], [], [], [])
def keR1_P : List sP0 := [(0, (none, 80), (20, 20))]
def keR1_G : List sP0 := []
def keR1_B : List (Nat × Nat × Int) := []
def keR1_m : sM := []
def keR1_e0 : sXe := (11, [], [(0, .inr (.inl 0)), (1, .inl sf32)], sA0, [], ([], [], [(1, ([], 0))], []), [], [])
theorem keR1_b : syfB swM sT0 keR1_m 400 0 246 keR1_L keR1_A keR1_P keR1_G keR1_B [keR1_e0] [] = true := by decide +kernel
theorem keR1 {l : Launch} {Γ : zG} {d : Nat} (hd : 0 ≤ d) {Kp : Option Value → zH → Prop} {h : zH} (hi : sInv swM h) (p_nn : pI h 0 80 = 20)
    (hE0 : ∀ (lo' : zL) (h' : zH), sInv swM h' → sMd keR1_m h h' → zget lo' 0 = some (.ref 0) → zI lo' 1 0 → zX l Γ false (d + 1) (zhd 246) (zMQ' Γ false (zhd 246) Kp) 0 0 11 lo' [] h') : zSem l Γ false (d + 1) (zhd 246) [.ref 0] h Kp := by
  refine syf_ok (mi := 246) (fun i => [20].getD i 0) keR1_b (fun _ _ hc _ => nomatch hc) hd ⟨_, _, rfl, rfl, rfl⟩ ⟨rfl, trivial⟩ ⟨(fun _ hc => nomatch hc), (fun _ hc => nomatch hc), (fun _ hc => nomatch hc), Or.inl rfl⟩ ⟨⟨p_nn, by show 20 ≤ 20; omega, by show 20 ≤ 20; omega⟩, trivial⟩ trivial (fun _ hc => nomatch hc) hi ?_ ?_
  · intro e he lo' st' h' hp hi' hm
    rcases List.mem_cons.mp he with rfl | he
    · obtain ⟨p1, p2, -, hz⟩ := hp
      obtain ⟨⟨z1, z2, z3, z4⟩, z5, z6⟩ := hz
      have o0 : zget lo' 0 = some (.ref 0) := locR (p2 (0, .inr (.inl 0)) (List.mem_of_getElem? (i := 0) rfl))
      have o1 : zI lo' 1 0 := zI_of (p2 (1, .inl sf32) (List.mem_of_getElem? (i := 1) rfl)) (z3 (1, ([], 0)) (List.mem_of_getElem? (i := 0) rfl)) (show 0 + 0 = 0 from by omega)
      have p1 : _ = [] := p1
      subst p1
      exact hE0 lo' h' hi' hm o0 o1
    cases he
  · intro e he r' h' hp hi' hm
    cases he
def keR2_L (k : Nat) : List (Nat × sT) := [(0, .inr (.inl 0)), (1, .inl ((k : Int), (k : Int)))]
def keR2_S (k : Nat) : List sT := []
def keR2_A (k : Nat) : sAs := ([], [], [], [])
def keR2_P (k : Nat) : List sP0 := [(41, (none, (((k + 32) : Nat) : Int)), sf32)]
def keR2_G (k : Nat) : List sP0 := []
def keR2_B (k : Nat) : List (Nat × Nat × Int) := []
def keR2_m (k : Nat) : sM := [(41, k, (k + 1))]
def keR2_e0 (k : Nat) : sXe := (11, [], [(0, .inr (.inl 0)), (1, .inl sf32)], sA0, [], ([(41, (none, ((k : Nat) : Int)), ([(1, 1)], 0))], [], [(1, ([], ((k : Int) + 1)))], []), [], [])
theorem keR2_b : ((List.range 608).all fun k => syeB swM sT0 (keR2_m k) 400 0 246 (keR2_L k) (keR2_S k) (keR2_A k) (keR2_P k) (keR2_G k) (keR2_B k) 11 [keR2_e0 k] []) = true := by decide +kernel
theorem keR2 {l : Launch} {Γ : zG} {d : Nat} (hd : 0 ≤ d) {Kp : Option Value → zH → Prop} {lo : zL} {h : zH} {k : Nat} (h_k : k < 608) {v : Int} (hi : sInv swM h) (b_v : (-2147483648) ≤ v ∧ v ≤ 2147483647) (l0 : zget lo 0 = some (.ref 0)) (l1 : zI lo 1 (k : Int)) (p_v : pI h 41 (k + 32) = v)
    (hE0 : ∀ (lo' : zL) (h' : zH), sInv swM h' → sMd (keR2_m k) h h' → pI h' 41 k = v → zget lo' 0 = some (.ref 0) → zI lo' 1 ((k : Int) + 1) → zX l Γ false (d + 1) (zhd 246) (zMQ' Γ false (zhd 246) Kp) 0 0 11 lo' [] h') : zX l Γ false (d + 1) (zhd 246) (zMQ' Γ false (zhd 246) Kp) 0 0 11 lo [] h := by
  refine sye_ok (mi := 246) (pc := 11) (fun i => [(k : Int), v].getD i 0) (zall_r keR2_b h_k) (fun _ _ hc _ => nomatch hc) hd ⟨l0, zIm l1 (by show (k : Int) ≤ (k : Int); omega) (by show (k : Int) ≤ (k : Int); omega), trivial⟩ rfl ⟨(fun _ hc => nomatch hc), (fun _ hc => nomatch hc), (fun _ hc => nomatch hc), Or.inl rfl⟩ ⟨⟨p_v, by show (-2147483648) ≤ v; omega, by show v ≤ 2147483647; omega⟩, trivial⟩ trivial (fun _ hc => nomatch hc) hi ?_ ?_
  · intro e he lo' st' h' hp hi' hm
    rcases List.mem_cons.mp he with rfl | he
    · obtain ⟨p1, p2, -, hz⟩ := hp
      obtain ⟨⟨z1, z2, z3, z4⟩, z5, z6⟩ := hz
      have k0 : pI h' 41 k = v := (show pI h' 41 k = (1 * v + 0) + 0 from z1 (41, (none, ((k : Nat) : Int)), ([(1, 1)], 0)) (List.mem_of_getElem? (i := 0) rfl)).trans (by omega)
      have o0 : zget lo' 0 = some (.ref 0) := locR (p2 (0, .inr (.inl 0)) (List.mem_of_getElem? (i := 0) rfl))
      have o1 : zI lo' 1 ((k : Int) + 1) := zI_of (p2 (1, .inl sf32) (List.mem_of_getElem? (i := 1) rfl)) (z3 (1, ([], ((k : Int) + 1))) (List.mem_of_getElem? (i := 0) rfl)) (show 0 + ((k : Int) + 1) = ((k : Int) + 1) from by omega)
      have p1 : _ = [] := p1
      subst p1
      exact hE0 lo' h' hi' hm k0 o0 o1
    cases he
  · intro e he r' h' hp hi' hm
    cases he
def keR3_L : List (Nat × sT) := [(0, .inr (.inl 0)), (1, .inl (608, 608))]
def keR3_S : List sT := []
def keR3_A : sAs := ([], [], [], [])
def keR3_P : List sP0 := [(0, (none, 80), (20, 20))]
def keR3_G : List sP0 := []
def keR3_B : List (Nat × Nat × Int) := []
def keR3_m : sM := [(0, 80, 81)]
def keR3_e0 : sXe := (61, [.inl sf32, .inr (.inl 41), .inr (.inl 0)], [(0, .inr (.inl 0))], sA0, [], ([(0, (none, 80), ([], 19))], [(0, ([], 608))], [], []), [], [])
theorem keR3_b : syeB swM sT0 keR3_m 400 0 246 keR3_L keR3_S keR3_A keR3_P keR3_G keR3_B 11 [keR3_e0] [] = true := by decide +kernel
theorem keR3 {l : Launch} {Γ : zG} {d : Nat} (hd : 0 ≤ d) {Kp : Option Value → zH → Prop} {lo : zL} {h : zH} (hi : sInv swM h) (l0 : zget lo 0 = some (.ref 0)) (l1 : zI lo 1 608) (p_nn : pI h 0 80 = 20)
    (hE0 : ∀ (lo' : zL) (h' : zH) (y0 : Int32), sInv swM h' → sMd keR3_m h h' → pI h' 0 80 = 19 → zget lo' 0 = some (.ref 0) → y0.toInt = 608 → zX l Γ false (d + 1) (zhd 246) (zMQ' Γ false (zhd 246) Kp) 0 0 61 lo' [.int y0, .ref 41, .ref 0] h') : zX l Γ false (d + 1) (zhd 246) (zMQ' Γ false (zhd 246) Kp) 0 0 11 lo [] h := by
  refine sye_ok (mi := 246) (pc := 11) (fun i => [608, 20].getD i 0) keR3_b (fun _ _ hc _ => nomatch hc) hd ⟨l0, zIm l1 (by show 608 ≤ 608; omega) (by show 608 ≤ 608; omega), trivial⟩ rfl ⟨(fun _ hc => nomatch hc), (fun _ hc => nomatch hc), (fun _ hc => nomatch hc), Or.inl rfl⟩ ⟨⟨p_nn, by show 20 ≤ 20; omega, by show 20 ≤ 20; omega⟩, trivial⟩ trivial (fun _ hc => nomatch hc) hi ?_ ?_
  · intro e he lo' st' h' hp hi' hm
    rcases List.mem_cons.mp he with rfl | he
    · obtain ⟨p1, p2, -, hz⟩ := hp
      obtain ⟨⟨z1, z2, z3, z4⟩, z5, z6⟩ := hz
      have k0 : pI h' 0 80 = 19 := (show pI h' 0 80 = 0 + 19 from z1 (0, (none, 80), ([], 19)) (List.mem_of_getElem? (i := 0) rfl)).trans (by omega)
      have o0 : zget lo' 0 = some (.ref 0) := locR (p2 (0, .inr (.inl 0)) (List.mem_of_getElem? (i := 0) rfl))
      obtain ⟨_, _, rfl, ⟨y0, rfl, -⟩, p1⟩ := p1
      obtain ⟨_, _, rfl, hr, p1⟩ := p1
      have hr : _ = Value.ref 41 := hr
      subst hr
      obtain ⟨_, _, rfl, hr, p1⟩ := p1
      have hr : _ = Value.ref 0 := hr
      subst hr
      have p1 : _ = [] := p1
      subst p1
      obtain ⟨v_, ev, hv⟩ := z2 (0, ([], 608)) (List.mem_of_getElem? (i := 0) rfl)
      cases ev
      have s0 : y0.toInt = 608 := (show y0.toInt = 0 + 608 from hv).trans (by omega)
      exact hE0 lo' h' y0 hi' hm k0 o0 s0
    cases he
  · intro e he r' h' hp hi' hm
    cases he
def keR4_L (n : Nat) : List (Nat × sT) := [(0, .inr (.inl 0))]
def keR4_S (n : Nat) : List sT := []
def keR4_A (n : Nat) : sAs := ([], [], [], [])
def keR4_P (n : Nat) : List sP0 := [(0, (none, 80), ((n : Int), (n : Int)))]
def keR4_G (n : Nat) : List sP0 := []
def keR4_B (n : Nat) : List (Nat × Nat × Int) := []
def keR4_m (n : Nat) : sM := [(0, 80, 81)]
def keR4_r0 (n : Nat) : sXr := (none, sA0, [], ([(0, (none, 80), ([], ((n : Int) + 1)))], [], [], []), [], [])
theorem keR4_b : ((List.range 20).all fun n => syeB swM sT0 (keR4_m n) 400 0 246 (keR4_L n) (keR4_S n) (keR4_A n) (keR4_P n) (keR4_G n) (keR4_B n) 64 [] [keR4_r0 n]) = true := by decide +kernel
theorem keR4 {l : Launch} {Γ : zG} {d : Nat} (hd : 0 ≤ d) {Kp : Option Value → zH → Prop} {lo : zL} {h : zH} {n : Nat} (h_n : n < 20) (hi : sInv swM h) (l0 : zget lo 0 = some (.ref 0)) (p_nn : pI h 0 80 = (n : Int))
    (hR0 : ∀ (h' : zH), sInv swM h' → sMd (keR4_m n) h h' → pI h' 0 80 = ((n : Int) + 1) → Kp none h') : zX l Γ false (d + 1) (zhd 246) (zMQ' Γ false (zhd 246) Kp) 0 0 64 lo [] h := by
  refine sye_ok (mi := 246) (pc := 64) (fun i => [(n : Int)].getD i 0) (zall_r keR4_b h_n) (fun _ _ hc _ => nomatch hc) hd ⟨l0, trivial⟩ rfl ⟨(fun _ hc => nomatch hc), (fun _ hc => nomatch hc), (fun _ hc => nomatch hc), Or.inl rfl⟩ ⟨⟨p_nn, by show (n : Int) ≤ (n : Int); omega, by show (n : Int) ≤ (n : Int); omega⟩, trivial⟩ trivial (fun _ hc => nomatch hc) hi ?_ ?_
  · intro e he lo' st' h' hp hi' hm
    cases he
  · intro e he r' h' hp hi' hm
    rcases List.mem_cons.mp he with rfl | he
    · obtain ⟨p1, -, hz⟩ := hp
      obtain ⟨⟨z1, z2, z3, z4⟩, z5, z6⟩ := hz
      have k0 : pI h' 0 80 = ((n : Int) + 1) := (show pI h' 0 80 = 0 + ((n : Int) + 1) from z1 (0, (none, 80), ([], ((n : Int) + 1))) (List.mem_of_getElem? (i := 0) rfl)).trans (by omega)
      have p1 : r' = none := p1
      subst p1
      exact hR0 h' hi' hm k0
    cases he
def keF0_L : List sT := [.inr (.inl 0), .inl sf32]
def keF0_A : sAs := ([], [], [], [])
def keF0_P : List sP0 := [(0, (none, 13), (0, 8))]
def keF0_G : List sP0 := []
def keF0_B : List (Nat × Nat × Int) := []
def keF0_m : sM := [(0, 2, 3)]
def keF0_e0 : sXe := (16, [.inr (.inl 0)], [(0, .inr (.inl 0)), (1, .inl sf32)], sA0, [], ([(0, (none, 2), ([], 0))], [], [(1, ([(0, 1)], 0))], [([(0, 1)], 0), ([(0, (-1)), (1, 1)], (-1))]), [], [])
def keF0_r0 : sXr := (some (.inl sf32), sA0, [], ([(0, (none, 2), ([], 0))], [(0, ([], (-1)))], [], [([(0, (-1))], (-1))]), [], [])
def keF0_r1 : sXr := (some (.inl sf32), sA0, [], ([(0, (none, 2), ([], 0))], [(0, ([], (-1)))], [], [([(0, 1)], 0), ([(0, 1), (1, (-1))], 0)]), [], [])
theorem keF0_b : syfB swM sT0 keF0_m 400 1 245 keF0_L keF0_A keF0_P keF0_G keF0_B [keF0_e0] [keF0_r0, keF0_r1] = true := by decide +kernel
theorem keF0 {l : Launch} {Γ : zG} {d : Nat} (hd : 1 ≤ d) {Kp : Option Value → zH → Prop} {h : zH} {x n : Int} (hi : sInv swM h) (b_x : (-2147483648) ≤ x ∧ x ≤ 2147483647) (b_n : 0 ≤ n ∧ n ≤ 8) {x_x : Int32} (e_x : x_x.toInt = x) (p_n : pI h 0 13 = n)
    (hE0 : ∀ (lo' : zL) (h' : zH), sInv swM h' → sMd keF0_m h h' → 0 ≤ x → 0 ≤ -x + n - 1 → pI h' 0 2 = 0 → zget lo' 0 = some (.ref 0) → zI lo' 1 x → zX l Γ false (d + 1) (zhd 245) (zMQ' Γ false (zhd 245) Kp) 0 0 16 lo' [.ref 0] h')
    (hR0 : ∀ (h' : zH) (r_ : Int32), sInv swM h' → sMd keF0_m h h' → 0 ≤ -x - 1 → pI h' 0 2 = 0 → r_.toInt = (-1) → Kp (some (.int r_)) h')
    (hR1 : ∀ (h' : zH) (r_ : Int32), sInv swM h' → sMd keF0_m h h' → 0 ≤ x → 0 ≤ x - n → pI h' 0 2 = 0 → r_.toInt = (-1) → Kp (some (.int r_)) h') : zSem l Γ false (d + 1) (zhd 245) [.ref 0, .int x_x] h Kp := by
  refine syf_ok (mi := 245) (fun i => [x, n].getD i 0) keF0_b (fun _ _ hc _ => nomatch hc) hd ⟨_, _, rfl, rfl, ⟨_, _, rfl, ⟨x_x, rfl, by show (-2147483648) ≤ x_x.toInt; omega, by show x_x.toInt ≤ 2147483647; omega⟩, rfl⟩⟩ ⟨rfl, ⟨x_x, rfl, e_x, by show (-2147483648) ≤ x; omega, by show x ≤ 2147483647; omega⟩, trivial⟩ ⟨(fun _ hc => nomatch hc), (fun _ hc => nomatch hc), (fun _ hc => nomatch hc), Or.inl rfl⟩ ⟨⟨p_n, by show 0 ≤ n; omega, by show n ≤ 8; omega⟩, trivial⟩ trivial (fun _ hc => nomatch hc) hi ?_ ?_
  · intro e he lo' st' h' hp hi' hm
    rcases List.mem_cons.mp he with rfl | he
    · obtain ⟨p1, p2, -, hz⟩ := hp
      obtain ⟨⟨z1, z2, z3, z4⟩, z5, z6⟩ := hz
      have c0 : 0 ≤ x := by have q_ : (0 : Int) ≤ (1 * x + 0) + 0 := z4 ([(0, 1)], 0) (List.mem_of_getElem? (i := 0) rfl); omega
      have c1 : 0 ≤ -x + n - 1 := by have q_ : (0 : Int) ≤ ((-1) * x + (1 * n + 0)) + (-1) := z4 ([(0, (-1)), (1, 1)], (-1)) (List.mem_of_getElem? (i := 1) rfl); omega
      have k0 : pI h' 0 2 = 0 := (show pI h' 0 2 = 0 + 0 from z1 (0, (none, 2), ([], 0)) (List.mem_of_getElem? (i := 0) rfl)).trans (by omega)
      have o0 : zget lo' 0 = some (.ref 0) := locR (p2 (0, .inr (.inl 0)) (List.mem_of_getElem? (i := 0) rfl))
      have o1 : zI lo' 1 x := zI_of (p2 (1, .inl sf32) (List.mem_of_getElem? (i := 1) rfl)) (z3 (1, ([(0, 1)], 0)) (List.mem_of_getElem? (i := 0) rfl)) (show (1 * x + 0) + 0 = x from by omega)
      obtain ⟨_, _, rfl, hr, p1⟩ := p1
      have hr : _ = Value.ref 0 := hr
      subst hr
      have p1 : _ = [] := p1
      subst p1
      exact hE0 lo' h' hi' hm c0 c1 k0 o0 o1
    cases he
  · intro e he r' h' hp hi' hm
    rcases List.mem_cons.mp he with rfl | he
    · obtain ⟨p1, -, hz⟩ := hp
      obtain ⟨⟨z1, z2, z3, z4⟩, z5, z6⟩ := hz
      have c0 : 0 ≤ -x - 1 := by have q_ : (0 : Int) ≤ ((-1) * x + 0) + (-1) := z4 ([(0, (-1))], (-1)) (List.mem_of_getElem? (i := 0) rfl); omega
      have k0 : pI h' 0 2 = 0 := (show pI h' 0 2 = 0 + 0 from z1 (0, (none, 2), ([], 0)) (List.mem_of_getElem? (i := 0) rfl)).trans (by omega)
      obtain ⟨r_, rfl, hv⟩ := ansI p1 (z2 (0, ([], (-1))) (List.mem_of_getElem? (i := 0) rfl))
      have s0 : r_.toInt = (-1) := (show r_.toInt = 0 + (-1) from hv).trans (by omega)
      exact hR0 h' r_ hi' hm c0 k0 s0
    rcases List.mem_cons.mp he with rfl | he
    · obtain ⟨p1, -, hz⟩ := hp
      obtain ⟨⟨z1, z2, z3, z4⟩, z5, z6⟩ := hz
      have c0 : 0 ≤ x := by have q_ : (0 : Int) ≤ (1 * x + 0) + 0 := z4 ([(0, 1)], 0) (List.mem_of_getElem? (i := 0) rfl); omega
      have c1 : 0 ≤ x - n := by have q_ : (0 : Int) ≤ (1 * x + ((-1) * n + 0)) + 0 := z4 ([(0, 1), (1, (-1))], 0) (List.mem_of_getElem? (i := 1) rfl); omega
      have k0 : pI h' 0 2 = 0 := (show pI h' 0 2 = 0 + 0 from z1 (0, (none, 2), ([], 0)) (List.mem_of_getElem? (i := 0) rfl)).trans (by omega)
      obtain ⟨r_, rfl, hv⟩ := ansI p1 (z2 (0, ([], (-1))) (List.mem_of_getElem? (i := 0) rfl))
      have s0 : r_.toInt = (-1) := (show r_.toInt = 0 + (-1) from hv).trans (by omega)
      exact hR1 h' r_ hi' hm c0 c1 k0 s0
    cases he
def keF1_L : List (Nat × sT) := [(0, .inr (.inl 0)), (1, .inl (0, 7))]
def keF1_S : List sT := []
def keF1_A : sAs := ([], [], [], [])
def keF1_P : List sP0 := []
def keF1_G : List sP0 := []
def keF1_B : List (Nat × Nat × Int) := []
def keF1_m : sM := []
def keF1_e0 : sXe := (21, [.inl sf32, .inr (.inl 0)], [(0, .inr (.inl 0)), (1, .inl sf32)], sA0, [], ([], [(0, ([(0, 1)], 0))], [(1, ([(0, 1)], 0))], []), [], [])
theorem keF1_b : syeB swM sT0 keF1_m 400 0 245 keF1_L keF1_S keF1_A keF1_P keF1_G keF1_B 19 [keF1_e0] [] = true := by decide +kernel
theorem keF1 {l : Launch} {Γ : zG} {d : Nat} (hd : 0 ≤ d) {Kp : Option Value → zH → Prop} {lo : zL} {h : zH} {x : Int} (hi : sInv swM h) (b_x : 0 ≤ x ∧ x ≤ 7) (l0 : zget lo 0 = some (.ref 0)) (l1 : zI lo 1 x)
    (hE0 : ∀ (lo' : zL) (h' : zH) (y0 : Int32), sInv swM h' → sMd keF1_m h h' → zget lo' 0 = some (.ref 0) → zI lo' 1 x → y0.toInt = x → zX l Γ false (d + 1) (zhd 245) (zMQ' Γ false (zhd 245) Kp) 0 0 21 lo' [.int y0, .ref 0] h') : zX l Γ false (d + 1) (zhd 245) (zMQ' Γ false (zhd 245) Kp) 0 0 19 lo [] h := by
  refine sye_ok (mi := 245) (pc := 19) (fun i => [x].getD i 0) keF1_b (fun _ _ hc _ => nomatch hc) hd ⟨l0, zIm l1 (by show 0 ≤ x; omega) (by show x ≤ 7; omega), trivial⟩ rfl ⟨(fun _ hc => nomatch hc), (fun _ hc => nomatch hc), (fun _ hc => nomatch hc), Or.inl rfl⟩ trivial trivial (fun _ hc => nomatch hc) hi ?_ ?_
  · intro e he lo' st' h' hp hi' hm
    rcases List.mem_cons.mp he with rfl | he
    · obtain ⟨p1, p2, -, hz⟩ := hp
      obtain ⟨⟨z1, z2, z3, z4⟩, z5, z6⟩ := hz
      have o0 : zget lo' 0 = some (.ref 0) := locR (p2 (0, .inr (.inl 0)) (List.mem_of_getElem? (i := 0) rfl))
      have o1 : zI lo' 1 x := zI_of (p2 (1, .inl sf32) (List.mem_of_getElem? (i := 1) rfl)) (z3 (1, ([(0, 1)], 0)) (List.mem_of_getElem? (i := 0) rfl)) (show (1 * x + 0) + 0 = x from by omega)
      obtain ⟨_, _, rfl, ⟨y0, rfl, -⟩, p1⟩ := p1
      obtain ⟨_, _, rfl, hr, p1⟩ := p1
      have hr : _ = Value.ref 0 := hr
      subst hr
      have p1 : _ = [] := p1
      subst p1
      obtain ⟨v_, ev, hv⟩ := z2 (0, ([(0, 1)], 0)) (List.mem_of_getElem? (i := 0) rfl)
      cases ev
      have s0 : y0.toInt = x := (show y0.toInt = (1 * x + 0) + 0 from hv).trans (by omega)
      exact hE0 lo' h' y0 hi' hm o0 o1 s0
    cases he
  · intro e he r' h' hp hi' hm
    cases he
def keF2_L (g : Nat) : List (Nat × sT) := [(0, .inr (.inl 0)), (1, .inl ((g : Int), (g : Int)))]
def keF2_S (g : Nat) : List sT := []
def keF2_A (g : Nat) : sAs := ([], [], [], [])
def keF2_P (g : Nat) : List sP0 := [(29, (none, ((g : Nat) : Int)), (0, 999))]
def keF2_G (g : Nat) : List sP0 := []
def keF2_B (g : Nat) : List (Nat × Nat × Int) := []
def keF2_m (g : Nat) : sM := []
def keF2_r0 (g : Nat) : sXr := (some (.inl sf32), sA0, [], ([], [(0, ([(1, 1)], 0))], [], []), [], [])
theorem keF2_b : ((List.range 8).all fun g => syeB swM sT0 (keF2_m g) 400 0 245 (keF2_L g) (keF2_S g) (keF2_A g) (keF2_P g) (keF2_G g) (keF2_B g) 24 [] [keF2_r0 g]) = true := by decide +kernel
theorem keF2 {l : Launch} {Γ : zG} {d : Nat} (hd : 0 ≤ d) {Kp : Option Value → zH → Prop} {lo : zL} {h : zH} {g : Nat} (h_g : g < 8) {a : Int} (hi : sInv swM h) (b_a : 0 ≤ a ∧ a ≤ 999) (l0 : zget lo 0 = some (.ref 0)) (l1 : zI lo 1 (g : Int)) (p_a : pI h 29 g = a)
    (hR0 : ∀ (h' : zH) (r_ : Int32), sInv swM h' → sMd (keF2_m g) h h' → r_.toInt = a → Kp (some (.int r_)) h') : zX l Γ false (d + 1) (zhd 245) (zMQ' Γ false (zhd 245) Kp) 0 0 24 lo [] h := by
  refine sye_ok (mi := 245) (pc := 24) (fun i => [(g : Int), a].getD i 0) (zall_r keF2_b h_g) (fun _ _ hc _ => nomatch hc) hd ⟨l0, zIm l1 (by show (g : Int) ≤ (g : Int); omega) (by show (g : Int) ≤ (g : Int); omega), trivial⟩ rfl ⟨(fun _ hc => nomatch hc), (fun _ hc => nomatch hc), (fun _ hc => nomatch hc), Or.inl rfl⟩ ⟨⟨p_a, by show 0 ≤ a; omega, by show a ≤ 999; omega⟩, trivial⟩ trivial (fun _ hc => nomatch hc) hi ?_ ?_
  · intro e he lo' st' h' hp hi' hm
    cases he
  · intro e he r' h' hp hi' hm
    rcases List.mem_cons.mp he with rfl | he
    · obtain ⟨p1, -, hz⟩ := hp
      obtain ⟨⟨z1, z2, z3, z4⟩, z5, z6⟩ := hz
      obtain ⟨r_, rfl, hv⟩ := ansI p1 (z2 (0, ([(1, 1)], 0)) (List.mem_of_getElem? (i := 0) rfl))
      have s0 : r_.toInt = a := (show r_.toInt = (1 * a + 0) + 0 from hv).trans (by omega)
      exact hR0 h' r_ hi' hm s0
    cases he
def keY0_L : List sT := [.inr (.inl 0), .inl sf32]
def keY0_A : sAs := ([], [], [], [])
def keY0_P : List sP0 := [(0, (none, 13), (0, 8))]
def keY0_G : List sP0 := []
def keY0_B : List (Nat × Nat × Int) := []
def keY0_m : sM := [(0, 2, 3)]
def keY0_e0 : sXe := (13, [], [(0, .inr (.inl 0)), (1, .inl sf32)], sA0, [], ([(0, (none, 2), ([], 0))], [], [(1, ([(0, 1)], 0))], [([(0, 1)], 0), ([(0, (-1)), (1, 1)], (-1))]), [], [])
def keY0_r0 : sXr := (some (.inl sf32), sA0, [], ([(0, (none, 2), ([], 0))], [(0, ([], 0))], [], [([(0, (-1))], (-1))]), [], [])
def keY0_r1 : sXr := (some (.inl sf32), sA0, [], ([(0, (none, 2), ([], 0))], [(0, ([], 0))], [], [([(0, 1)], 0), ([(0, 1), (1, (-1))], 0)]), [], [])
theorem keY0_b : syfB swM sT0 keY0_m 400 1 251 keY0_L keY0_A keY0_P keY0_G keY0_B [keY0_e0] [keY0_r0, keY0_r1] = true := by decide +kernel
theorem keY0 {l : Launch} {Γ : zG} {d : Nat} (hd : 1 ≤ d) {Kp : Option Value → zH → Prop} {h : zH} {x n : Int} (hi : sInv swM h) (b_x : (-2147483648) ≤ x ∧ x ≤ 2147483647) (b_n : 0 ≤ n ∧ n ≤ 8) {x_x : Int32} (e_x : x_x.toInt = x) (p_n : pI h 0 13 = n)
    (hE0 : ∀ (lo' : zL) (h' : zH), sInv swM h' → sMd keY0_m h h' → 0 ≤ x → 0 ≤ -x + n - 1 → pI h' 0 2 = 0 → zget lo' 0 = some (.ref 0) → zI lo' 1 x → zX l Γ false (d + 1) (zhd 251) (zMQ' Γ false (zhd 251) Kp) 0 0 13 lo' [] h')
    (hR0 : ∀ (h' : zH) (r_ : Int32), sInv swM h' → sMd keY0_m h h' → 0 ≤ -x - 1 → pI h' 0 2 = 0 → r_.toInt = 0 → Kp (some (.int r_)) h')
    (hR1 : ∀ (h' : zH) (r_ : Int32), sInv swM h' → sMd keY0_m h h' → 0 ≤ x → 0 ≤ x - n → pI h' 0 2 = 0 → r_.toInt = 0 → Kp (some (.int r_)) h') : zSem l Γ false (d + 1) (zhd 251) [.ref 0, .int x_x] h Kp := by
  refine syf_ok (mi := 251) (fun i => [x, n].getD i 0) keY0_b (fun _ _ hc _ => nomatch hc) hd ⟨_, _, rfl, rfl, ⟨_, _, rfl, ⟨x_x, rfl, by show (-2147483648) ≤ x_x.toInt; omega, by show x_x.toInt ≤ 2147483647; omega⟩, rfl⟩⟩ ⟨rfl, ⟨x_x, rfl, e_x, by show (-2147483648) ≤ x; omega, by show x ≤ 2147483647; omega⟩, trivial⟩ ⟨(fun _ hc => nomatch hc), (fun _ hc => nomatch hc), (fun _ hc => nomatch hc), Or.inl rfl⟩ ⟨⟨p_n, by show 0 ≤ n; omega, by show n ≤ 8; omega⟩, trivial⟩ trivial (fun _ hc => nomatch hc) hi ?_ ?_
  · intro e he lo' st' h' hp hi' hm
    rcases List.mem_cons.mp he with rfl | he
    · obtain ⟨p1, p2, -, hz⟩ := hp
      obtain ⟨⟨z1, z2, z3, z4⟩, z5, z6⟩ := hz
      have c0 : 0 ≤ x := by have q_ : (0 : Int) ≤ (1 * x + 0) + 0 := z4 ([(0, 1)], 0) (List.mem_of_getElem? (i := 0) rfl); omega
      have c1 : 0 ≤ -x + n - 1 := by have q_ : (0 : Int) ≤ ((-1) * x + (1 * n + 0)) + (-1) := z4 ([(0, (-1)), (1, 1)], (-1)) (List.mem_of_getElem? (i := 1) rfl); omega
      have k0 : pI h' 0 2 = 0 := (show pI h' 0 2 = 0 + 0 from z1 (0, (none, 2), ([], 0)) (List.mem_of_getElem? (i := 0) rfl)).trans (by omega)
      have o0 : zget lo' 0 = some (.ref 0) := locR (p2 (0, .inr (.inl 0)) (List.mem_of_getElem? (i := 0) rfl))
      have o1 : zI lo' 1 x := zI_of (p2 (1, .inl sf32) (List.mem_of_getElem? (i := 1) rfl)) (z3 (1, ([(0, 1)], 0)) (List.mem_of_getElem? (i := 0) rfl)) (show (1 * x + 0) + 0 = x from by omega)
      have p1 : _ = [] := p1
      subst p1
      exact hE0 lo' h' hi' hm c0 c1 k0 o0 o1
    cases he
  · intro e he r' h' hp hi' hm
    rcases List.mem_cons.mp he with rfl | he
    · obtain ⟨p1, -, hz⟩ := hp
      obtain ⟨⟨z1, z2, z3, z4⟩, z5, z6⟩ := hz
      have c0 : 0 ≤ -x - 1 := by have q_ : (0 : Int) ≤ ((-1) * x + 0) + (-1) := z4 ([(0, (-1))], (-1)) (List.mem_of_getElem? (i := 0) rfl); omega
      have k0 : pI h' 0 2 = 0 := (show pI h' 0 2 = 0 + 0 from z1 (0, (none, 2), ([], 0)) (List.mem_of_getElem? (i := 0) rfl)).trans (by omega)
      obtain ⟨r_, rfl, hv⟩ := ansI p1 (z2 (0, ([], 0)) (List.mem_of_getElem? (i := 0) rfl))
      have s0 : r_.toInt = 0 := (show r_.toInt = 0 + 0 from hv).trans (by omega)
      exact hR0 h' r_ hi' hm c0 k0 s0
    rcases List.mem_cons.mp he with rfl | he
    · obtain ⟨p1, -, hz⟩ := hp
      obtain ⟨⟨z1, z2, z3, z4⟩, z5, z6⟩ := hz
      have c0 : 0 ≤ x := by have q_ : (0 : Int) ≤ (1 * x + 0) + 0 := z4 ([(0, 1)], 0) (List.mem_of_getElem? (i := 0) rfl); omega
      have c1 : 0 ≤ x - n := by have q_ : (0 : Int) ≤ (1 * x + ((-1) * n + 0)) + 0 := z4 ([(0, 1), (1, (-1))], 0) (List.mem_of_getElem? (i := 1) rfl); omega
      have k0 : pI h' 0 2 = 0 := (show pI h' 0 2 = 0 + 0 from z1 (0, (none, 2), ([], 0)) (List.mem_of_getElem? (i := 0) rfl)).trans (by omega)
      obtain ⟨r_, rfl, hv⟩ := ansI p1 (z2 (0, ([], 0)) (List.mem_of_getElem? (i := 0) rfl))
      have s0 : r_.toInt = 0 := (show r_.toInt = 0 + 0 from hv).trans (by omega)
      exact hR1 h' r_ hi' hm c0 c1 k0 s0
    cases he
def keY1_L (g : Nat) : List (Nat × sT) := [(0, .inr (.inl 0)), (1, .inl ((g : Int), (g : Int)))]
def keY1_S (g : Nat) : List sT := []
def keY1_A (g : Nat) : sAs := ([], [], [], [])
def keY1_P (g : Nat) : List sP0 := [(31, (none, ((g : Nat) : Int)), (0, 1))]
def keY1_G (g : Nat) : List sP0 := []
def keY1_B (g : Nat) : List (Nat × Nat × Int) := []
def keY1_m (g : Nat) : sM := []
def keY1_e0 (g : Nat) : sXe := (25, [.inr (.inl 0)], [(0, .inr (.inl 0)), (1, .inl sf32)], sA0, [], ([], [], [(1, ([], (g : Int)))], []), [(([(1, 1)], 0), ([], 0))], [])
def keY1_r0 (g : Nat) : sXr := (some (.inl sf32), sA0, [], ([], [(0, ([], 0))], [], [([(1, 1)], 0), ([(1, (-1))], 0)]), [], [])
theorem keY1_b : ((List.range 8).all fun g => syeB swM sT0 (keY1_m g) 400 0 251 (keY1_L g) (keY1_S g) (keY1_A g) (keY1_P g) (keY1_G g) (keY1_B g) 13 [keY1_e0 g] [keY1_r0 g]) = true := by decide +kernel
theorem keY1 {l : Launch} {Γ : zG} {d : Nat} (hd : 0 ≤ d) {Kp : Option Value → zH → Prop} {lo : zL} {h : zH} {g : Nat} (h_g : g < 8) {w : Int} (hi : sInv swM h) (b_w : 0 ≤ w ∧ w ≤ 1) (l0 : zget lo 0 = some (.ref 0)) (l1 : zI lo 1 (g : Int)) (p_w : pI h 31 g = w)
    (hE0 : ∀ (lo' : zL) (h' : zH), sInv swM h' → sMd (keY1_m g) h h' → w ≠ 0 → zget lo' 0 = some (.ref 0) → zI lo' 1 (g : Int) → zX l Γ false (d + 1) (zhd 251) (zMQ' Γ false (zhd 251) Kp) 0 0 25 lo' [.ref 0] h')
    (hR0 : ∀ (h' : zH) (r_ : Int32), sInv swM h' → sMd (keY1_m g) h h' → w = 0 → r_.toInt = 0 → Kp (some (.int r_)) h') : zX l Γ false (d + 1) (zhd 251) (zMQ' Γ false (zhd 251) Kp) 0 0 13 lo [] h := by
  refine sye_ok (mi := 251) (pc := 13) (fun i => [(g : Int), w].getD i 0) (zall_r keY1_b h_g) (fun _ _ hc _ => nomatch hc) hd ⟨l0, zIm l1 (by show (g : Int) ≤ (g : Int); omega) (by show (g : Int) ≤ (g : Int); omega), trivial⟩ rfl ⟨(fun _ hc => nomatch hc), (fun _ hc => nomatch hc), (fun _ hc => nomatch hc), Or.inl rfl⟩ ⟨⟨p_w, by show 0 ≤ w; omega, by show w ≤ 1; omega⟩, trivial⟩ trivial (fun _ hc => nomatch hc) hi ?_ ?_
  · intro e he lo' st' h' hp hi' hm
    rcases List.mem_cons.mp he with rfl | he
    · obtain ⟨p1, p2, -, hz⟩ := hp
      obtain ⟨⟨z1, z2, z3, z4⟩, z5, z6⟩ := hz
      have n0 : w ≠ 0 := fun e_ => z5 (([(1, 1)], 0), ([], 0)) (List.mem_of_getElem? (i := 0) rfl) (by show (1 * w + 0) + 0 = 0 + 0; omega)
      have o0 : zget lo' 0 = some (.ref 0) := locR (p2 (0, .inr (.inl 0)) (List.mem_of_getElem? (i := 0) rfl))
      have o1 : zI lo' 1 (g : Int) := zI_of (p2 (1, .inl sf32) (List.mem_of_getElem? (i := 1) rfl)) (z3 (1, ([], (g : Int))) (List.mem_of_getElem? (i := 0) rfl)) (show 0 + (g : Int) = (g : Int) from by omega)
      obtain ⟨_, _, rfl, hr, p1⟩ := p1
      have hr : _ = Value.ref 0 := hr
      subst hr
      have p1 : _ = [] := p1
      subst p1
      exact hE0 lo' h' hi' hm n0 o0 o1
    cases he
  · intro e he r' h' hp hi' hm
    rcases List.mem_cons.mp he with rfl | he
    · obtain ⟨p1, -, hz⟩ := hp
      obtain ⟨⟨z1, z2, z3, z4⟩, z5, z6⟩ := hz
      have c0 : w = 0 := by have q_ : (0 : Int) ≤ (1 * w + 0) + 0 := z4 ([(1, 1)], 0) (List.mem_of_getElem? (i := 0) rfl); have q2_ : (0 : Int) ≤ ((-1) * w + 0) + 0 := z4 ([(1, (-1))], 0) (List.mem_of_getElem? (i := 1) rfl); omega
      obtain ⟨r_, rfl, hv⟩ := ansI p1 (z2 (0, ([], 0)) (List.mem_of_getElem? (i := 0) rfl))
      have s0 : r_.toInt = 0 := (show r_.toInt = 0 + 0 from hv).trans (by omega)
      exact hR0 h' r_ hi' hm c0 s0
    cases he
def keY2_L (g : Nat) : List (Nat × sT) := [(0, .inr (.inl 0)), (1, .inl ((g : Int), (g : Int)))]
def keY2_S (g : Nat) : List sT := []
def keY2_A (g : Nat) : sAs := ([], [], [], [])
def keY2_P (g : Nat) : List sP0 := []
def keY2_G (g : Nat) : List sP0 := []
def keY2_B (g : Nat) : List (Nat × Nat × Int) := []
def keY2_m (g : Nat) : sM := [(31, g, (g + 1))]
def keY2_r0 (g : Nat) : sXr := (some (.inl sf32), sA0, [], ([(31, (none, ((g : Nat) : Int)), ([], 0))], [(0, ([], 1))], [], []), [], [])
theorem keY2_b : ((List.range 8).all fun g => syeB swM sT0 (keY2_m g) 400 0 251 (keY2_L g) (keY2_S g) (keY2_A g) (keY2_P g) (keY2_G g) (keY2_B g) 28 [] [keY2_r0 g]) = true := by decide +kernel
theorem keY2 {l : Launch} {Γ : zG} {d : Nat} (hd : 0 ≤ d) {Kp : Option Value → zH → Prop} {lo : zL} {h : zH} {g : Nat} (h_g : g < 8) (hi : sInv swM h) (l0 : zget lo 0 = some (.ref 0)) (l1 : zI lo 1 (g : Int))
    (hR0 : ∀ (h' : zH) (r_ : Int32), sInv swM h' → sMd (keY2_m g) h h' → pI h' 31 g = 0 → r_.toInt = 1 → Kp (some (.int r_)) h') : zX l Γ false (d + 1) (zhd 251) (zMQ' Γ false (zhd 251) Kp) 0 0 28 lo [] h := by
  refine sye_ok (mi := 251) (pc := 28) (fun i => [(g : Int)].getD i 0) (zall_r keY2_b h_g) (fun _ _ hc _ => nomatch hc) hd ⟨l0, zIm l1 (by show (g : Int) ≤ (g : Int); omega) (by show (g : Int) ≤ (g : Int); omega), trivial⟩ rfl ⟨(fun _ hc => nomatch hc), (fun _ hc => nomatch hc), (fun _ hc => nomatch hc), Or.inl rfl⟩ trivial trivial (fun _ hc => nomatch hc) hi ?_ ?_
  · intro e he lo' st' h' hp hi' hm
    cases he
  · intro e he r' h' hp hi' hm
    rcases List.mem_cons.mp he with rfl | he
    · obtain ⟨p1, -, hz⟩ := hp
      obtain ⟨⟨z1, z2, z3, z4⟩, z5, z6⟩ := hz
      have k0 : pI h' 31 g = 0 := (show pI h' 31 g = 0 + 0 from z1 (31, (none, ((g : Nat) : Int)), ([], 0)) (List.mem_of_getElem? (i := 0) rfl)).trans (by omega)
      obtain ⟨r_, rfl, hv⟩ := ansI p1 (z2 (0, ([], 1)) (List.mem_of_getElem? (i := 0) rfl))
      have s0 : r_.toInt = 1 := (show r_.toInt = 0 + 1 from hv).trans (by omega)
      exact hR0 h' r_ hi' hm k0 s0
    cases he
def keP0_L : List sT := [.inr (.inl 0), .inl sf32, .inl sf32, .inl sf32]
def keP0_A : sAs := ([], [], [], [])
def keP0_P : List sP0 := [(0, (none, 13), (0, 8))]
def keP0_G : List sP0 := []
def keP0_B : List (Nat × Nat × Int) := []
def keP0_m : sM := [(0, 2, 3)]
def keP0_e0 : sXe := (25, [], [(0, .inr (.inl 0)), (1, .inl sf32), (2, .inl sf32), (3, .inl sf32)], sA0, [], ([(0, (none, 2), ([], 0))], [], [(1, ([(0, 1)], 0)), (2, ([(1, 1)], 0)), (3, ([(2, 1)], 0))], [([(0, 1)], 0), ([(0, (-1)), (3, 1)], (-1)), ([(1, 1)], 0), ([(1, (-1)), (3, 1)], (-1)), ([(2, 1)], (-1)), ([(2, (-1))], 999)]), [(([(0, 1)], 0), ([(1, 1)], 0))], [])
def keP0_r0 : sXr := (some (.inl sf32), sA0, [], ([(0, (none, 2), ([], 0))], [(0, ([], (-1)))], [], [([(0, (-1))], (-1))]), [], [])
def keP0_r1 : sXr := (some (.inl sf32), sA0, [], ([(0, (none, 2), ([], 0))], [(0, ([], (-1)))], [], [([(0, 1)], 0), ([(0, 1), (3, (-1))], 0)]), [], [])
def keP0_r2 : sXr := (some (.inl sf32), sA0, [], ([(0, (none, 2), ([], 0))], [(0, ([], (-1)))], [], [([(0, 1)], 0), ([(0, (-1)), (3, 1)], (-1)), ([(1, (-1))], (-1))]), [], [])
def keP0_r3 : sXr := (some (.inl sf32), sA0, [], ([(0, (none, 2), ([], 0))], [(0, ([], (-1)))], [], [([(0, 1)], 0), ([(0, (-1)), (3, 1)], (-1)), ([(1, 1)], 0), ([(1, 1), (3, (-1))], 0)]), [], [])
def keP0_r4 : sXr := (some (.inl sf32), sA0, [], ([(0, (none, 2), ([], 0))], [(0, ([], (-1)))], [], [([(0, 1)], 0), ([(0, (-1)), (3, 1)], (-1)), ([(1, 1)], 0), ([(1, (-1)), (3, 1)], (-1)), ([(0, 1), (1, (-1))], 0), ([(0, (-1)), (1, 1)], 0)]), [], [])
def keP0_r5 : sXr := (some (.inl sf32), sA0, [], ([(0, (none, 2), ([], 0))], [(0, ([], (-1)))], [], [([(0, 1)], 0), ([(0, (-1)), (3, 1)], (-1)), ([(1, 1)], 0), ([(1, (-1)), (3, 1)], (-1)), ([(2, (-1))], 0)]), [(([(0, 1)], 0), ([(1, 1)], 0))], [])
def keP0_r6 : sXr := (some (.inl sf32), sA0, [], ([(0, (none, 2), ([], 0))], [(0, ([], (-1)))], [], [([(0, 1)], 0), ([(0, (-1)), (3, 1)], (-1)), ([(1, 1)], 0), ([(1, (-1)), (3, 1)], (-1)), ([(2, 1)], (-1)), ([(2, 1)], (-1000))]), [(([(0, 1)], 0), ([(1, 1)], 0))], [])
theorem keP0_b : syfB swM sT0 keP0_m 400 2 249 keP0_L keP0_A keP0_P keP0_G keP0_B [keP0_e0] [keP0_r0, keP0_r1, keP0_r2, keP0_r3, keP0_r4, keP0_r5, keP0_r6] = true := by decide +kernel
theorem keP0 {l : Launch} {Γ : zG} {d : Nat} (hd : 2 ≤ d) {Kp : Option Value → zH → Prop} {h : zH} {x y z n : Int} (hi : sInv swM h) (b_x : (-2147483648) ≤ x ∧ x ≤ 2147483647) (b_y : (-2147483648) ≤ y ∧ y ≤ 2147483647) (b_z : (-2147483648) ≤ z ∧ z ≤ 2147483647) (b_n : 0 ≤ n ∧ n ≤ 8) {x_x : Int32} (e_x : x_x.toInt = x) {x_y : Int32} (e_y : x_y.toInt = y) {x_z : Int32} (e_z : x_z.toInt = z) (p_n : pI h 0 13 = n)
    (hE0 : ∀ (lo' : zL) (h' : zH), sInv swM h' → sMd keP0_m h h' → 0 ≤ x → 0 ≤ -x + n - 1 → 0 ≤ y → 0 ≤ -y + n - 1 → 0 ≤ z - 1 → 0 ≤ -z + 999 → x ≠ y → pI h' 0 2 = 0 → zget lo' 0 = some (.ref 0) → zI lo' 1 x → zI lo' 2 y → zI lo' 3 z → zX l Γ false (d + 1) (zhd 249) (zMQ' Γ false (zhd 249) Kp) 0 0 25 lo' [] h')
    (hR0 : ∀ (h' : zH) (r_ : Int32), sInv swM h' → sMd keP0_m h h' → 0 ≤ -x - 1 → pI h' 0 2 = 0 → r_.toInt = (-1) → Kp (some (.int r_)) h')
    (hR1 : ∀ (h' : zH) (r_ : Int32), sInv swM h' → sMd keP0_m h h' → 0 ≤ x → 0 ≤ x - n → pI h' 0 2 = 0 → r_.toInt = (-1) → Kp (some (.int r_)) h')
    (hR2 : ∀ (h' : zH) (r_ : Int32), sInv swM h' → sMd keP0_m h h' → 0 ≤ x → 0 ≤ -x + n - 1 → 0 ≤ -y - 1 → pI h' 0 2 = 0 → r_.toInt = (-1) → Kp (some (.int r_)) h')
    (hR3 : ∀ (h' : zH) (r_ : Int32), sInv swM h' → sMd keP0_m h h' → 0 ≤ x → 0 ≤ -x + n - 1 → 0 ≤ y → 0 ≤ y - n → pI h' 0 2 = 0 → r_.toInt = (-1) → Kp (some (.int r_)) h')
    (hR4 : ∀ (h' : zH) (r_ : Int32), sInv swM h' → sMd keP0_m h h' → 0 ≤ x → 0 ≤ -x + n - 1 → 0 ≤ y → 0 ≤ -y + n - 1 → x = y → pI h' 0 2 = 0 → r_.toInt = (-1) → Kp (some (.int r_)) h')
    (hR5 : ∀ (h' : zH) (r_ : Int32), sInv swM h' → sMd keP0_m h h' → 0 ≤ x → 0 ≤ -x + n - 1 → 0 ≤ y → 0 ≤ -y + n - 1 → 0 ≤ -z → x ≠ y → pI h' 0 2 = 0 → r_.toInt = (-1) → Kp (some (.int r_)) h')
    (hR6 : ∀ (h' : zH) (r_ : Int32), sInv swM h' → sMd keP0_m h h' → 0 ≤ x → 0 ≤ -x + n - 1 → 0 ≤ y → 0 ≤ -y + n - 1 → 0 ≤ z - 1 → 0 ≤ z - 1000 → x ≠ y → pI h' 0 2 = 0 → r_.toInt = (-1) → Kp (some (.int r_)) h') : zSem l Γ false (d + 1) (zhd 249) [.ref 0, .int x_x, .int x_y, .int x_z] h Kp := by
  refine syf_ok (mi := 249) (fun i => [x, y, z, n].getD i 0) keP0_b (fun _ _ hc _ => nomatch hc) hd ⟨_, _, rfl, rfl, ⟨_, _, rfl, ⟨x_x, rfl, by show (-2147483648) ≤ x_x.toInt; omega, by show x_x.toInt ≤ 2147483647; omega⟩, ⟨_, _, rfl, ⟨x_y, rfl, by show (-2147483648) ≤ x_y.toInt; omega, by show x_y.toInt ≤ 2147483647; omega⟩, ⟨_, _, rfl, ⟨x_z, rfl, by show (-2147483648) ≤ x_z.toInt; omega, by show x_z.toInt ≤ 2147483647; omega⟩, rfl⟩⟩⟩⟩ ⟨rfl, ⟨x_x, rfl, e_x, by show (-2147483648) ≤ x; omega, by show x ≤ 2147483647; omega⟩, ⟨x_y, rfl, e_y, by show (-2147483648) ≤ y; omega, by show y ≤ 2147483647; omega⟩, ⟨x_z, rfl, e_z, by show (-2147483648) ≤ z; omega, by show z ≤ 2147483647; omega⟩, trivial⟩ ⟨(fun _ hc => nomatch hc), (fun _ hc => nomatch hc), (fun _ hc => nomatch hc), Or.inl rfl⟩ ⟨⟨p_n, by show 0 ≤ n; omega, by show n ≤ 8; omega⟩, trivial⟩ trivial (fun _ hc => nomatch hc) hi ?_ ?_
  · intro e he lo' st' h' hp hi' hm
    rcases List.mem_cons.mp he with rfl | he
    · obtain ⟨p1, p2, -, hz⟩ := hp
      obtain ⟨⟨z1, z2, z3, z4⟩, z5, z6⟩ := hz
      have c0 : 0 ≤ x := by have q_ : (0 : Int) ≤ (1 * x + 0) + 0 := z4 ([(0, 1)], 0) (List.mem_of_getElem? (i := 0) rfl); omega
      have c1 : 0 ≤ -x + n - 1 := by have q_ : (0 : Int) ≤ ((-1) * x + (1 * n + 0)) + (-1) := z4 ([(0, (-1)), (3, 1)], (-1)) (List.mem_of_getElem? (i := 1) rfl); omega
      have c2 : 0 ≤ y := by have q_ : (0 : Int) ≤ (1 * y + 0) + 0 := z4 ([(1, 1)], 0) (List.mem_of_getElem? (i := 2) rfl); omega
      have c3 : 0 ≤ -y + n - 1 := by have q_ : (0 : Int) ≤ ((-1) * y + (1 * n + 0)) + (-1) := z4 ([(1, (-1)), (3, 1)], (-1)) (List.mem_of_getElem? (i := 3) rfl); omega
      have c4 : 0 ≤ z - 1 := by have q_ : (0 : Int) ≤ (1 * z + 0) + (-1) := z4 ([(2, 1)], (-1)) (List.mem_of_getElem? (i := 4) rfl); omega
      have c5 : 0 ≤ -z + 999 := by have q_ : (0 : Int) ≤ ((-1) * z + 0) + 999 := z4 ([(2, (-1))], 999) (List.mem_of_getElem? (i := 5) rfl); omega
      have n0 : x ≠ y := fun e_ => z5 (([(0, 1)], 0), ([(1, 1)], 0)) (List.mem_of_getElem? (i := 0) rfl) (by show (1 * x + 0) + 0 = (1 * y + 0) + 0; omega)
      have k0 : pI h' 0 2 = 0 := (show pI h' 0 2 = 0 + 0 from z1 (0, (none, 2), ([], 0)) (List.mem_of_getElem? (i := 0) rfl)).trans (by omega)
      have o0 : zget lo' 0 = some (.ref 0) := locR (p2 (0, .inr (.inl 0)) (List.mem_of_getElem? (i := 0) rfl))
      have o1 : zI lo' 1 x := zI_of (p2 (1, .inl sf32) (List.mem_of_getElem? (i := 1) rfl)) (z3 (1, ([(0, 1)], 0)) (List.mem_of_getElem? (i := 0) rfl)) (show (1 * x + 0) + 0 = x from by omega)
      have o2 : zI lo' 2 y := zI_of (p2 (2, .inl sf32) (List.mem_of_getElem? (i := 2) rfl)) (z3 (2, ([(1, 1)], 0)) (List.mem_of_getElem? (i := 1) rfl)) (show (1 * y + 0) + 0 = y from by omega)
      have o3 : zI lo' 3 z := zI_of (p2 (3, .inl sf32) (List.mem_of_getElem? (i := 3) rfl)) (z3 (3, ([(2, 1)], 0)) (List.mem_of_getElem? (i := 2) rfl)) (show (1 * z + 0) + 0 = z from by omega)
      have p1 : _ = [] := p1
      subst p1
      exact hE0 lo' h' hi' hm c0 c1 c2 c3 c4 c5 n0 k0 o0 o1 o2 o3
    cases he
  · intro e he r' h' hp hi' hm
    rcases List.mem_cons.mp he with rfl | he
    · obtain ⟨p1, -, hz⟩ := hp
      obtain ⟨⟨z1, z2, z3, z4⟩, z5, z6⟩ := hz
      have c0 : 0 ≤ -x - 1 := by have q_ : (0 : Int) ≤ ((-1) * x + 0) + (-1) := z4 ([(0, (-1))], (-1)) (List.mem_of_getElem? (i := 0) rfl); omega
      have k0 : pI h' 0 2 = 0 := (show pI h' 0 2 = 0 + 0 from z1 (0, (none, 2), ([], 0)) (List.mem_of_getElem? (i := 0) rfl)).trans (by omega)
      obtain ⟨r_, rfl, hv⟩ := ansI p1 (z2 (0, ([], (-1))) (List.mem_of_getElem? (i := 0) rfl))
      have s0 : r_.toInt = (-1) := (show r_.toInt = 0 + (-1) from hv).trans (by omega)
      exact hR0 h' r_ hi' hm c0 k0 s0
    rcases List.mem_cons.mp he with rfl | he
    · obtain ⟨p1, -, hz⟩ := hp
      obtain ⟨⟨z1, z2, z3, z4⟩, z5, z6⟩ := hz
      have c0 : 0 ≤ x := by have q_ : (0 : Int) ≤ (1 * x + 0) + 0 := z4 ([(0, 1)], 0) (List.mem_of_getElem? (i := 0) rfl); omega
      have c1 : 0 ≤ x - n := by have q_ : (0 : Int) ≤ (1 * x + ((-1) * n + 0)) + 0 := z4 ([(0, 1), (3, (-1))], 0) (List.mem_of_getElem? (i := 1) rfl); omega
      have k0 : pI h' 0 2 = 0 := (show pI h' 0 2 = 0 + 0 from z1 (0, (none, 2), ([], 0)) (List.mem_of_getElem? (i := 0) rfl)).trans (by omega)
      obtain ⟨r_, rfl, hv⟩ := ansI p1 (z2 (0, ([], (-1))) (List.mem_of_getElem? (i := 0) rfl))
      have s0 : r_.toInt = (-1) := (show r_.toInt = 0 + (-1) from hv).trans (by omega)
      exact hR1 h' r_ hi' hm c0 c1 k0 s0
    rcases List.mem_cons.mp he with rfl | he
    · obtain ⟨p1, -, hz⟩ := hp
      obtain ⟨⟨z1, z2, z3, z4⟩, z5, z6⟩ := hz
      have c0 : 0 ≤ x := by have q_ : (0 : Int) ≤ (1 * x + 0) + 0 := z4 ([(0, 1)], 0) (List.mem_of_getElem? (i := 0) rfl); omega
      have c1 : 0 ≤ -x + n - 1 := by have q_ : (0 : Int) ≤ ((-1) * x + (1 * n + 0)) + (-1) := z4 ([(0, (-1)), (3, 1)], (-1)) (List.mem_of_getElem? (i := 1) rfl); omega
      have c2 : 0 ≤ -y - 1 := by have q_ : (0 : Int) ≤ ((-1) * y + 0) + (-1) := z4 ([(1, (-1))], (-1)) (List.mem_of_getElem? (i := 2) rfl); omega
      have k0 : pI h' 0 2 = 0 := (show pI h' 0 2 = 0 + 0 from z1 (0, (none, 2), ([], 0)) (List.mem_of_getElem? (i := 0) rfl)).trans (by omega)
      obtain ⟨r_, rfl, hv⟩ := ansI p1 (z2 (0, ([], (-1))) (List.mem_of_getElem? (i := 0) rfl))
      have s0 : r_.toInt = (-1) := (show r_.toInt = 0 + (-1) from hv).trans (by omega)
      exact hR2 h' r_ hi' hm c0 c1 c2 k0 s0
    rcases List.mem_cons.mp he with rfl | he
    · obtain ⟨p1, -, hz⟩ := hp
      obtain ⟨⟨z1, z2, z3, z4⟩, z5, z6⟩ := hz
      have c0 : 0 ≤ x := by have q_ : (0 : Int) ≤ (1 * x + 0) + 0 := z4 ([(0, 1)], 0) (List.mem_of_getElem? (i := 0) rfl); omega
      have c1 : 0 ≤ -x + n - 1 := by have q_ : (0 : Int) ≤ ((-1) * x + (1 * n + 0)) + (-1) := z4 ([(0, (-1)), (3, 1)], (-1)) (List.mem_of_getElem? (i := 1) rfl); omega
      have c2 : 0 ≤ y := by have q_ : (0 : Int) ≤ (1 * y + 0) + 0 := z4 ([(1, 1)], 0) (List.mem_of_getElem? (i := 2) rfl); omega
      have c3 : 0 ≤ y - n := by have q_ : (0 : Int) ≤ (1 * y + ((-1) * n + 0)) + 0 := z4 ([(1, 1), (3, (-1))], 0) (List.mem_of_getElem? (i := 3) rfl); omega
      have k0 : pI h' 0 2 = 0 := (show pI h' 0 2 = 0 + 0 from z1 (0, (none, 2), ([], 0)) (List.mem_of_getElem? (i := 0) rfl)).trans (by omega)
      obtain ⟨r_, rfl, hv⟩ := ansI p1 (z2 (0, ([], (-1))) (List.mem_of_getElem? (i := 0) rfl))
      have s0 : r_.toInt = (-1) := (show r_.toInt = 0 + (-1) from hv).trans (by omega)
      exact hR3 h' r_ hi' hm c0 c1 c2 c3 k0 s0
    rcases List.mem_cons.mp he with rfl | he
    · obtain ⟨p1, -, hz⟩ := hp
      obtain ⟨⟨z1, z2, z3, z4⟩, z5, z6⟩ := hz
      have c0 : 0 ≤ x := by have q_ : (0 : Int) ≤ (1 * x + 0) + 0 := z4 ([(0, 1)], 0) (List.mem_of_getElem? (i := 0) rfl); omega
      have c1 : 0 ≤ -x + n - 1 := by have q_ : (0 : Int) ≤ ((-1) * x + (1 * n + 0)) + (-1) := z4 ([(0, (-1)), (3, 1)], (-1)) (List.mem_of_getElem? (i := 1) rfl); omega
      have c2 : 0 ≤ y := by have q_ : (0 : Int) ≤ (1 * y + 0) + 0 := z4 ([(1, 1)], 0) (List.mem_of_getElem? (i := 2) rfl); omega
      have c3 : 0 ≤ -y + n - 1 := by have q_ : (0 : Int) ≤ ((-1) * y + (1 * n + 0)) + (-1) := z4 ([(1, (-1)), (3, 1)], (-1)) (List.mem_of_getElem? (i := 3) rfl); omega
      have c4 : x = y := by have q_ : (0 : Int) ≤ (1 * x + ((-1) * y + 0)) + 0 := z4 ([(0, 1), (1, (-1))], 0) (List.mem_of_getElem? (i := 4) rfl); have q2_ : (0 : Int) ≤ ((-1) * x + (1 * y + 0)) + 0 := z4 ([(0, (-1)), (1, 1)], 0) (List.mem_of_getElem? (i := 5) rfl); omega
      have k0 : pI h' 0 2 = 0 := (show pI h' 0 2 = 0 + 0 from z1 (0, (none, 2), ([], 0)) (List.mem_of_getElem? (i := 0) rfl)).trans (by omega)
      obtain ⟨r_, rfl, hv⟩ := ansI p1 (z2 (0, ([], (-1))) (List.mem_of_getElem? (i := 0) rfl))
      have s0 : r_.toInt = (-1) := (show r_.toInt = 0 + (-1) from hv).trans (by omega)
      exact hR4 h' r_ hi' hm c0 c1 c2 c3 c4 k0 s0
    rcases List.mem_cons.mp he with rfl | he
    · obtain ⟨p1, -, hz⟩ := hp
      obtain ⟨⟨z1, z2, z3, z4⟩, z5, z6⟩ := hz
      have c0 : 0 ≤ x := by have q_ : (0 : Int) ≤ (1 * x + 0) + 0 := z4 ([(0, 1)], 0) (List.mem_of_getElem? (i := 0) rfl); omega
      have c1 : 0 ≤ -x + n - 1 := by have q_ : (0 : Int) ≤ ((-1) * x + (1 * n + 0)) + (-1) := z4 ([(0, (-1)), (3, 1)], (-1)) (List.mem_of_getElem? (i := 1) rfl); omega
      have c2 : 0 ≤ y := by have q_ : (0 : Int) ≤ (1 * y + 0) + 0 := z4 ([(1, 1)], 0) (List.mem_of_getElem? (i := 2) rfl); omega
      have c3 : 0 ≤ -y + n - 1 := by have q_ : (0 : Int) ≤ ((-1) * y + (1 * n + 0)) + (-1) := z4 ([(1, (-1)), (3, 1)], (-1)) (List.mem_of_getElem? (i := 3) rfl); omega
      have c4 : 0 ≤ -z := by have q_ : (0 : Int) ≤ ((-1) * z + 0) + 0 := z4 ([(2, (-1))], 0) (List.mem_of_getElem? (i := 4) rfl); omega
      have n0 : x ≠ y := fun e_ => z5 (([(0, 1)], 0), ([(1, 1)], 0)) (List.mem_of_getElem? (i := 0) rfl) (by show (1 * x + 0) + 0 = (1 * y + 0) + 0; omega)
      have k0 : pI h' 0 2 = 0 := (show pI h' 0 2 = 0 + 0 from z1 (0, (none, 2), ([], 0)) (List.mem_of_getElem? (i := 0) rfl)).trans (by omega)
      obtain ⟨r_, rfl, hv⟩ := ansI p1 (z2 (0, ([], (-1))) (List.mem_of_getElem? (i := 0) rfl))
      have s0 : r_.toInt = (-1) := (show r_.toInt = 0 + (-1) from hv).trans (by omega)
      exact hR5 h' r_ hi' hm c0 c1 c2 c3 c4 n0 k0 s0
    rcases List.mem_cons.mp he with rfl | he
    · obtain ⟨p1, -, hz⟩ := hp
      obtain ⟨⟨z1, z2, z3, z4⟩, z5, z6⟩ := hz
      have c0 : 0 ≤ x := by have q_ : (0 : Int) ≤ (1 * x + 0) + 0 := z4 ([(0, 1)], 0) (List.mem_of_getElem? (i := 0) rfl); omega
      have c1 : 0 ≤ -x + n - 1 := by have q_ : (0 : Int) ≤ ((-1) * x + (1 * n + 0)) + (-1) := z4 ([(0, (-1)), (3, 1)], (-1)) (List.mem_of_getElem? (i := 1) rfl); omega
      have c2 : 0 ≤ y := by have q_ : (0 : Int) ≤ (1 * y + 0) + 0 := z4 ([(1, 1)], 0) (List.mem_of_getElem? (i := 2) rfl); omega
      have c3 : 0 ≤ -y + n - 1 := by have q_ : (0 : Int) ≤ ((-1) * y + (1 * n + 0)) + (-1) := z4 ([(1, (-1)), (3, 1)], (-1)) (List.mem_of_getElem? (i := 3) rfl); omega
      have c4 : 0 ≤ z - 1 := by have q_ : (0 : Int) ≤ (1 * z + 0) + (-1) := z4 ([(2, 1)], (-1)) (List.mem_of_getElem? (i := 4) rfl); omega
      have c5 : 0 ≤ z - 1000 := by have q_ : (0 : Int) ≤ (1 * z + 0) + (-1000) := z4 ([(2, 1)], (-1000)) (List.mem_of_getElem? (i := 5) rfl); omega
      have n0 : x ≠ y := fun e_ => z5 (([(0, 1)], 0), ([(1, 1)], 0)) (List.mem_of_getElem? (i := 0) rfl) (by show (1 * x + 0) + 0 = (1 * y + 0) + 0; omega)
      have k0 : pI h' 0 2 = 0 := (show pI h' 0 2 = 0 + 0 from z1 (0, (none, 2), ([], 0)) (List.mem_of_getElem? (i := 0) rfl)).trans (by omega)
      obtain ⟨r_, rfl, hv⟩ := ansI p1 (z2 (0, ([], (-1))) (List.mem_of_getElem? (i := 0) rfl))
      have s0 : r_.toInt = (-1) := (show r_.toInt = 0 + (-1) from hv).trans (by omega)
      exact hR6 h' r_ hi' hm c0 c1 c2 c3 c4 c5 n0 k0 s0
    cases he
def keP1_L : List (Nat × sT) := [(0, .inr (.inl 0)), (1, .inl (0, 7)), (2, .inl (0, 7)), (3, .inl (1, 999))]
def keP1_S : List sT := []
def keP1_A : sAs := ([], [], [], [])
def keP1_P : List sP0 := [(30, (some 0, 0), (0, 999)), (29, (some 1, 0), (0, 999))]
def keP1_G : List sP0 := []
def keP1_B : List (Nat × Nat × Int) := []
def keP1_m : sM := []
def keP1_e0 : sXe := (55, [.inr (.inl 0)], [(0, .inr (.inl 0)), (1, .inl sf32), (2, .inl sf32), (3, .inl sf32)], sA0, [], ([], [], [(1, ([(0, 1)], 0)), (2, ([(1, 1)], 0)), (3, ([(2, 1)], 0))], [([(2, (-1)), (4, (-1))], 999), ([(2, (-1)), (3, 1)], 0)]), [], [])
def keP1_r0 : sXr := (some (.inl sf32), sA0, [], ([], [(0, ([], (-2)))], [], [([(2, (-1)), (4, (-1))], 999), ([(2, 1), (3, (-1))], (-1))]), [], [])
def keP1_r1 : sXr := (some (.inl sf32), sA0, [], ([], [(0, ([], (-1)))], [], [([(2, 1), (4, 1)], (-1000))]), [], [])
theorem keP1_b : syeB swM sT0 keP1_m 400 0 249 keP1_L keP1_S keP1_A keP1_P keP1_G keP1_B 25 [keP1_e0] [keP1_r0, keP1_r1] = true := by decide +kernel
theorem keP1 {l : Launch} {Γ : zG} {d : Nat} (hd : 0 ≤ d) {Kp : Option Value → zH → Prop} {lo : zL} {h : zH} {x y z bl ab : Int} (hi : sInv swM h) (b_x : 0 ≤ x ∧ x ≤ 7) (b_y : 0 ≤ y ∧ y ≤ 7) (b_z : 1 ≤ z ∧ z ≤ 999) (b_bl : 0 ≤ bl ∧ bl ≤ 999) (b_ab : 0 ≤ ab ∧ ab ≤ 999) (l0 : zget lo 0 = some (.ref 0)) (l1 : zI lo 1 x) (l2 : zI lo 2 y) (l3 : zI lo 3 z) (p_bl : pI h 30 (x + 0).toNat = bl) (p_ab : pI h 29 (y + 0).toNat = ab)
    (hE0 : ∀ (lo' : zL) (h' : zH), sInv swM h' → sMd keP1_m h h' → 0 ≤ -z - ab + 999 → 0 ≤ -z + bl → zget lo' 0 = some (.ref 0) → zI lo' 1 x → zI lo' 2 y → zI lo' 3 z → zX l Γ false (d + 1) (zhd 249) (zMQ' Γ false (zhd 249) Kp) 0 0 55 lo' [.ref 0] h')
    (hR0 : ∀ (h' : zH) (r_ : Int32), sInv swM h' → sMd keP1_m h h' → 0 ≤ -z - ab + 999 → 0 ≤ z - bl - 1 → r_.toInt = (-2) → Kp (some (.int r_)) h')
    (hR1 : ∀ (h' : zH) (r_ : Int32), sInv swM h' → sMd keP1_m h h' → 0 ≤ z + ab - 1000 → r_.toInt = (-1) → Kp (some (.int r_)) h') : zX l Γ false (d + 1) (zhd 249) (zMQ' Γ false (zhd 249) Kp) 0 0 25 lo [] h := by
  refine sye_ok (mi := 249) (pc := 25) (fun i => [x, y, z, bl, ab].getD i 0) keP1_b (fun _ _ hc _ => nomatch hc) hd ⟨l0, zIm l1 (by show 0 ≤ x; omega) (by show x ≤ 7; omega), zIm l2 (by show 0 ≤ y; omega) (by show y ≤ 7; omega), zIm l3 (by show 1 ≤ z; omega) (by show z ≤ 999; omega), trivial⟩ rfl ⟨(fun _ hc => nomatch hc), (fun _ hc => nomatch hc), (fun _ hc => nomatch hc), Or.inl rfl⟩ ⟨⟨p_bl, by show 0 ≤ bl; omega, by show bl ≤ 999; omega⟩, ⟨p_ab, by show 0 ≤ ab; omega, by show ab ≤ 999; omega⟩, trivial⟩ trivial (fun _ hc => nomatch hc) hi ?_ ?_
  · intro e he lo' st' h' hp hi' hm
    rcases List.mem_cons.mp he with rfl | he
    · obtain ⟨p1, p2, -, hz⟩ := hp
      obtain ⟨⟨z1, z2, z3, z4⟩, z5, z6⟩ := hz
      have c0 : 0 ≤ -z - ab + 999 := by have q_ : (0 : Int) ≤ ((-1) * z + ((-1) * ab + 0)) + 999 := z4 ([(2, (-1)), (4, (-1))], 999) (List.mem_of_getElem? (i := 0) rfl); omega
      have c1 : 0 ≤ -z + bl := by have q_ : (0 : Int) ≤ ((-1) * z + (1 * bl + 0)) + 0 := z4 ([(2, (-1)), (3, 1)], 0) (List.mem_of_getElem? (i := 1) rfl); omega
      have o0 : zget lo' 0 = some (.ref 0) := locR (p2 (0, .inr (.inl 0)) (List.mem_of_getElem? (i := 0) rfl))
      have o1 : zI lo' 1 x := zI_of (p2 (1, .inl sf32) (List.mem_of_getElem? (i := 1) rfl)) (z3 (1, ([(0, 1)], 0)) (List.mem_of_getElem? (i := 0) rfl)) (show (1 * x + 0) + 0 = x from by omega)
      have o2 : zI lo' 2 y := zI_of (p2 (2, .inl sf32) (List.mem_of_getElem? (i := 2) rfl)) (z3 (2, ([(1, 1)], 0)) (List.mem_of_getElem? (i := 1) rfl)) (show (1 * y + 0) + 0 = y from by omega)
      have o3 : zI lo' 3 z := zI_of (p2 (3, .inl sf32) (List.mem_of_getElem? (i := 3) rfl)) (z3 (3, ([(2, 1)], 0)) (List.mem_of_getElem? (i := 2) rfl)) (show (1 * z + 0) + 0 = z from by omega)
      obtain ⟨_, _, rfl, hr, p1⟩ := p1
      have hr : _ = Value.ref 0 := hr
      subst hr
      have p1 : _ = [] := p1
      subst p1
      exact hE0 lo' h' hi' hm c0 c1 o0 o1 o2 o3
    cases he
  · intro e he r' h' hp hi' hm
    rcases List.mem_cons.mp he with rfl | he
    · obtain ⟨p1, -, hz⟩ := hp
      obtain ⟨⟨z1, z2, z3, z4⟩, z5, z6⟩ := hz
      have c0 : 0 ≤ -z - ab + 999 := by have q_ : (0 : Int) ≤ ((-1) * z + ((-1) * ab + 0)) + 999 := z4 ([(2, (-1)), (4, (-1))], 999) (List.mem_of_getElem? (i := 0) rfl); omega
      have c1 : 0 ≤ z - bl - 1 := by have q_ : (0 : Int) ≤ (1 * z + ((-1) * bl + 0)) + (-1) := z4 ([(2, 1), (3, (-1))], (-1)) (List.mem_of_getElem? (i := 1) rfl); omega
      obtain ⟨r_, rfl, hv⟩ := ansI p1 (z2 (0, ([], (-2))) (List.mem_of_getElem? (i := 0) rfl))
      have s0 : r_.toInt = (-2) := (show r_.toInt = 0 + (-2) from hv).trans (by omega)
      exact hR0 h' r_ hi' hm c0 c1 s0
    rcases List.mem_cons.mp he with rfl | he
    · obtain ⟨p1, -, hz⟩ := hp
      obtain ⟨⟨z1, z2, z3, z4⟩, z5, z6⟩ := hz
      have c0 : 0 ≤ z + ab - 1000 := by have q_ : (0 : Int) ≤ (1 * z + (1 * ab + 0)) + (-1000) := z4 ([(2, 1), (4, 1)], (-1000)) (List.mem_of_getElem? (i := 0) rfl); omega
      obtain ⟨r_, rfl, hv⟩ := ansI p1 (z2 (0, ([], (-1))) (List.mem_of_getElem? (i := 0) rfl))
      have s0 : r_.toInt = (-1) := (show r_.toInt = 0 + (-1) from hv).trans (by omega)
      exact hR1 h' r_ hi' hm c0 s0
    cases he
def keP2_L (f : Nat) (q : Nat) : List (Nat × sT) := [(0, .inr (.inl 0)), (1, .inl ((f : Int), (f : Int))), (2, .inl ((q : Int), (q : Int))), (3, .inl (1, 999))]
def keP2_S (f : Nat) (q : Nat) : List sT := []
def keP2_A (f : Nat) (q : Nat) : sAs := ([], [], [], [])
def keP2_P (f : Nat) (q : Nat) : List sP0 := [(30, (none, ((f : Nat) : Int)), (0, 999)), (29, (none, ((q : Nat) : Int)), (0, 999))]
def keP2_G (f : Nat) (q : Nat) : List sP0 := []
def keP2_B (f : Nat) (q : Nat) : List (Nat × Nat × Int) := [(3, 2, 0)]
def keP2_m (f : Nat) (q : Nat) : sM := [(30, f, (f + 1))]
def keP2_e0 (f : Nat) (q : Nat) : sXe := (77, [.inl sf32, .inl sf32, .inr (.inl 29)], [(0, .inr (.inl 0)), (1, .inl sf32), (2, .inl sf32), (3, .inl sf32)], sA0, [], ([(30, (none, ((f : Nat) : Int)), ([(2, (-1)), (3, 1)], 0))], [(0, ([(2, 1), (4, 1)], 0)), (1, ([], (q : Int)))], [(1, ([], (f : Int))), (2, ([], (q : Int))), (3, ([(2, 1)], 0))], []), [], [])
theorem keP2_b : ((List.range 8).all fun f => ((List.range 8).all fun q => syeB swM sT0 (keP2_m f q) 400 0 249 (keP2_L f q) (keP2_S f q) (keP2_A f q) (keP2_P f q) (keP2_G f q) (keP2_B f q) 58 [keP2_e0 f q] [])) = true := by decide +kernel
theorem keP2 {l : Launch} {Γ : zG} {d : Nat} (hd : 0 ≤ d) {Kp : Option Value → zH → Prop} {lo : zL} {h : zH} {f : Nat} (h_f : f < 8) {q : Nat} (h_q : q < 8) {z bl ab : Int} (hi : sInv swM h) (b_z : 1 ≤ z ∧ z ≤ 999) (b_bl : 0 ≤ bl ∧ bl ≤ 999) (b_ab : 0 ≤ ab ∧ ab ≤ 999) (l0 : zget lo 0 = some (.ref 0)) (l1 : zI lo 1 (f : Int)) (l2 : zI lo 2 (q : Int)) (l3 : zI lo 3 z) (p_bl : pI h 30 f = bl) (p_ab : pI h 29 q = ab) (d0 : 0 ≤ bl - z)
    (hE0 : ∀ (lo' : zL) (h' : zH) (y0 : Int32) (y1 : Int32), sInv swM h' → sMd (keP2_m f q) h h' → pI h' 30 f = -z + bl → zget lo' 0 = some (.ref 0) → zI lo' 1 (f : Int) → zI lo' 2 (q : Int) → zI lo' 3 z → y0.toInt = z + ab → y1.toInt = (q : Int) → zX l Γ false (d + 1) (zhd 249) (zMQ' Γ false (zhd 249) Kp) 0 0 77 lo' [.int y0, .int y1, .ref 29] h') : zX l Γ false (d + 1) (zhd 249) (zMQ' Γ false (zhd 249) Kp) 0 0 58 lo [] h := by
  refine sye_ok (mi := 249) (pc := 58) (fun i => [(f : Int), (q : Int), z, bl, ab].getD i 0) (zall_r (zall_r keP2_b h_f) h_q) (fun _ _ hc _ => nomatch hc) hd ⟨l0, zIm l1 (by show (f : Int) ≤ (f : Int); omega) (by show (f : Int) ≤ (f : Int); omega), zIm l2 (by show (q : Int) ≤ (q : Int); omega) (by show (q : Int) ≤ (q : Int); omega), zIm l3 (by show 1 ≤ z; omega) (by show z ≤ 999; omega), trivial⟩ rfl ⟨(fun _ hc => nomatch hc), (fun _ hc => nomatch hc), (fun _ hc => nomatch hc), Or.inl rfl⟩ ⟨⟨p_bl, by show 0 ≤ bl; omega, by show bl ≤ 999; omega⟩, ⟨p_ab, by show 0 ≤ ab; omega, by show ab ≤ 999; omega⟩, trivial⟩ trivial (sfm d0 (fun _ hc => nomatch hc)) hi ?_ ?_
  · intro e he lo' st' h' hp hi' hm
    rcases List.mem_cons.mp he with rfl | he
    · obtain ⟨p1, p2, -, hz⟩ := hp
      obtain ⟨⟨z1, z2, z3, z4⟩, z5, z6⟩ := hz
      have k0 : pI h' 30 f = -z + bl := (show pI h' 30 f = ((-1) * z + (1 * bl + 0)) + 0 from z1 (30, (none, ((f : Nat) : Int)), ([(2, (-1)), (3, 1)], 0)) (List.mem_of_getElem? (i := 0) rfl)).trans (by omega)
      have o0 : zget lo' 0 = some (.ref 0) := locR (p2 (0, .inr (.inl 0)) (List.mem_of_getElem? (i := 0) rfl))
      have o1 : zI lo' 1 (f : Int) := zI_of (p2 (1, .inl sf32) (List.mem_of_getElem? (i := 1) rfl)) (z3 (1, ([], (f : Int))) (List.mem_of_getElem? (i := 0) rfl)) (show 0 + (f : Int) = (f : Int) from by omega)
      have o2 : zI lo' 2 (q : Int) := zI_of (p2 (2, .inl sf32) (List.mem_of_getElem? (i := 2) rfl)) (z3 (2, ([], (q : Int))) (List.mem_of_getElem? (i := 1) rfl)) (show 0 + (q : Int) = (q : Int) from by omega)
      have o3 : zI lo' 3 z := zI_of (p2 (3, .inl sf32) (List.mem_of_getElem? (i := 3) rfl)) (z3 (3, ([(2, 1)], 0)) (List.mem_of_getElem? (i := 2) rfl)) (show (1 * z + 0) + 0 = z from by omega)
      obtain ⟨_, _, rfl, ⟨y0, rfl, -⟩, p1⟩ := p1
      obtain ⟨_, _, rfl, ⟨y1, rfl, -⟩, p1⟩ := p1
      obtain ⟨_, _, rfl, hr, p1⟩ := p1
      have hr : _ = Value.ref 29 := hr
      subst hr
      have p1 : _ = [] := p1
      subst p1
      obtain ⟨v_, ev, hv⟩ := z2 (0, ([(2, 1), (4, 1)], 0)) (List.mem_of_getElem? (i := 0) rfl)
      cases ev
      have s0 : y0.toInt = z + ab := (show y0.toInt = (1 * z + (1 * ab + 0)) + 0 from hv).trans (by omega)
      obtain ⟨v_, ev, hv⟩ := z2 (1, ([], (q : Int))) (List.mem_of_getElem? (i := 1) rfl)
      cases ev
      have s1 : y1.toInt = (q : Int) := (show y1.toInt = 0 + (q : Int) from hv).trans (by omega)
      exact hE0 lo' h' y0 y1 hi' hm k0 o0 o1 o2 o3 s0 s1
    cases he
  · intro e he r' h' hp hi' hm
    cases he
def keP3_L (f : Nat) : List (Nat × sT) := [(0, .inr (.inl 0)), (1, .inl ((f : Int), (f : Int))), (3, .inl (1, 999))]
def keP3_S (f : Nat) : List sT := []
def keP3_A (f : Nat) : sAs := ([], [], [], [])
def keP3_P (f : Nat) : List sP0 := [(30, (none, ((f : Nat) : Int)), (0, 999)), (33, (none, ((f : Nat) : Int)), (0, 2000000000))]
def keP3_G (f : Nat) : List sP0 := []
def keP3_B (f : Nat) : List (Nat × Nat × Int) := []
def keP3_m (f : Nat) : sM := [(33, f, (f + 1))]
def keP3_r0 (f : Nat) : sXr := (some (.inl sf32), sA0, [], ([(33, (none, ((f : Nat) : Int)), ([(1, 1), (3, 1)], 0))], [(0, ([(2, 1)], 0))], [], []), [], [])
theorem keP3_b : ((List.range 8).all fun f => syeB swM sT0 (keP3_m f) 400 0 249 (keP3_L f) (keP3_S f) (keP3_A f) (keP3_P f) (keP3_G f) (keP3_B f) 78 [] [keP3_r0 f]) = true := by decide +kernel
theorem keP3 {l : Launch} {Γ : zG} {d : Nat} (hd : 0 ≤ d) {Kp : Option Value → zH → Prop} {lo : zL} {h : zH} {f : Nat} (h_f : f < 8) {z bl pd : Int} (hi : sInv swM h) (b_z : 1 ≤ z ∧ z ≤ 999) (b_bl : 0 ≤ bl ∧ bl ≤ 999) (b_pd : 0 ≤ pd ∧ pd ≤ 2000000000) (l0 : zget lo 0 = some (.ref 0)) (l1 : zI lo 1 (f : Int)) (l3 : zI lo 3 z) (p_bl : pI h 30 f = bl) (p_pd : pI h 33 f = pd)
    (hR0 : ∀ (h' : zH) (r_ : Int32), sInv swM h' → sMd (keP3_m f) h h' → pI h' 33 f = z + pd → r_.toInt = bl → Kp (some (.int r_)) h') : zX l Γ false (d + 1) (zhd 249) (zMQ' Γ false (zhd 249) Kp) 0 0 78 lo [] h := by
  refine sye_ok (mi := 249) (pc := 78) (fun i => [(f : Int), z, bl, pd].getD i 0) (zall_r keP3_b h_f) (fun _ _ hc _ => nomatch hc) hd ⟨l0, zIm l1 (by show (f : Int) ≤ (f : Int); omega) (by show (f : Int) ≤ (f : Int); omega), zIm l3 (by show 1 ≤ z; omega) (by show z ≤ 999; omega), trivial⟩ rfl ⟨(fun _ hc => nomatch hc), (fun _ hc => nomatch hc), (fun _ hc => nomatch hc), Or.inl rfl⟩ ⟨⟨p_bl, by show 0 ≤ bl; omega, by show bl ≤ 999; omega⟩, ⟨p_pd, by show 0 ≤ pd; omega, by show pd ≤ 2000000000; omega⟩, trivial⟩ trivial (fun _ hc => nomatch hc) hi ?_ ?_
  · intro e he lo' st' h' hp hi' hm
    cases he
  · intro e he r' h' hp hi' hm
    rcases List.mem_cons.mp he with rfl | he
    · obtain ⟨p1, -, hz⟩ := hp
      obtain ⟨⟨z1, z2, z3, z4⟩, z5, z6⟩ := hz
      have k0 : pI h' 33 f = z + pd := (show pI h' 33 f = (1 * z + (1 * pd + 0)) + 0 from z1 (33, (none, ((f : Nat) : Int)), ([(1, 1), (3, 1)], 0)) (List.mem_of_getElem? (i := 0) rfl)).trans (by omega)
      obtain ⟨r_, rfl, hv⟩ := ansI p1 (z2 (0, ([(2, 1)], 0)) (List.mem_of_getElem? (i := 0) rfl))
      have s0 : r_.toInt = bl := (show r_.toInt = (1 * bl + 0) + 0 from hv).trans (by omega)
      exact hR0 h' r_ hi' hm k0 s0
    cases he
def keG0_L : List sT := [.inr (.inl 0), .inl sf32]
def keG0_A : sAs := ([], [], [], [])
def keG0_P : List sP0 := [(36, (none, 0), (0, 2000000000))]
def keG0_G : List sP0 := []
def keG0_B : List (Nat × Nat × Int) := []
def keG0_m : sM := [(0, 2, 3), (0, 66, 67), (0, 67, 68), (0, 68, 69), (0, 69, 70), (0, 70, 71), (0, 71, 72), (0, 72, 73), (0, 73, 74)]
def keG0_e0 : sXe := (43, [], [(0, .inr (.inl 0)), (1, .inl sf32), (2, .inl sf32)], sA0, [], ([(0, (none, 66), ([], 1)), (0, (none, 73), ([], 0)), (0, (none, 72), ([], (-1))), (0, (none, 71), ([], (-1))), (0, (none, 70), ([], 0)), (0, (none, 69), ([], 0)), (0, (none, 68), ([], 0)), (0, (none, 67), ([], 0)), (0, (none, 2), ([], 0))], [], [(1, ([(0, 1)], 0)), (2, ([], 0))], [([(0, 1)], 0), ([(0, (-1))], 200), ([(0, (-1)), (1, (-1))], 9000)]), [], [])
def keG0_r0 : sXr := (some (.inl sf32), sA0, [], ([(0, (none, 2), ([], 0))], [(0, ([], (-1)))], [], [([(0, (-1))], (-1))]), [], [])
def keG0_r1 : sXr := (some (.inl sf32), sA0, [], ([(0, (none, 2), ([], 0))], [(0, ([], (-1)))], [], [([(0, 1)], 0), ([(0, 1)], (-201))]), [], [])
def keG0_r2 : sXr := (some (.inl sf32), sA0, [], ([(0, (none, 2), ([], 0))], [(0, ([], (-1)))], [], [([(0, 1)], 0), ([(0, (-1))], 200), ([(0, 1), (1, 1)], (-9001))]), [], [])
theorem keG0_b : syfB swM sT0 keG0_m 400 1 252 keG0_L keG0_A keG0_P keG0_G keG0_B [keG0_e0] [keG0_r0, keG0_r1, keG0_r2] = true := by decide +kernel
theorem keG0 {l : Launch} {Γ : zG} {d : Nat} (hd : 1 ≤ d) {Kp : Option Value → zH → Prop} {h : zH} {x m : Int} (hi : sInv swM h) (b_x : (-2147483648) ≤ x ∧ x ≤ 2147483647) (b_m : 0 ≤ m ∧ m ≤ 2000000000) {x_x : Int32} (e_x : x_x.toInt = x) (p_m : pI h 36 0 = m)
    (hE0 : ∀ (lo' : zL) (h' : zH), sInv swM h' → sMd keG0_m h h' → 0 ≤ x → 0 ≤ -x + 200 → 0 ≤ -x - m + 9000 → pI h' 0 66 = 1 → pI h' 0 73 = 0 → pI h' 0 72 = (-1) → pI h' 0 71 = (-1) → pI h' 0 70 = 0 → pI h' 0 69 = 0 → pI h' 0 68 = 0 → pI h' 0 67 = 0 → pI h' 0 2 = 0 → zget lo' 0 = some (.ref 0) → zI lo' 1 x → zI lo' 2 0 → zX l Γ false (d + 1) (zhd 252) (zMQ' Γ false (zhd 252) Kp) 0 0 43 lo' [] h')
    (hR0 : ∀ (h' : zH) (r_ : Int32), sInv swM h' → sMd keG0_m h h' → 0 ≤ -x - 1 → pI h' 0 2 = 0 → r_.toInt = (-1) → Kp (some (.int r_)) h')
    (hR1 : ∀ (h' : zH) (r_ : Int32), sInv swM h' → sMd keG0_m h h' → 0 ≤ x → 0 ≤ x - 201 → pI h' 0 2 = 0 → r_.toInt = (-1) → Kp (some (.int r_)) h')
    (hR2 : ∀ (h' : zH) (r_ : Int32), sInv swM h' → sMd keG0_m h h' → 0 ≤ x → 0 ≤ -x + 200 → 0 ≤ x + m - 9001 → pI h' 0 2 = 0 → r_.toInt = (-1) → Kp (some (.int r_)) h') : zSem l Γ false (d + 1) (zhd 252) [.ref 0, .int x_x] h Kp := by
  refine syf_ok (mi := 252) (fun i => [x, m].getD i 0) keG0_b (fun _ _ hc _ => nomatch hc) hd ⟨_, _, rfl, rfl, ⟨_, _, rfl, ⟨x_x, rfl, by show (-2147483648) ≤ x_x.toInt; omega, by show x_x.toInt ≤ 2147483647; omega⟩, rfl⟩⟩ ⟨rfl, ⟨x_x, rfl, e_x, by show (-2147483648) ≤ x; omega, by show x ≤ 2147483647; omega⟩, trivial⟩ ⟨(fun _ hc => nomatch hc), (fun _ hc => nomatch hc), (fun _ hc => nomatch hc), Or.inl rfl⟩ ⟨⟨p_m, by show 0 ≤ m; omega, by show m ≤ 2000000000; omega⟩, trivial⟩ trivial (fun _ hc => nomatch hc) hi ?_ ?_
  · intro e he lo' st' h' hp hi' hm
    rcases List.mem_cons.mp he with rfl | he
    · obtain ⟨p1, p2, -, hz⟩ := hp
      obtain ⟨⟨z1, z2, z3, z4⟩, z5, z6⟩ := hz
      have c0 : 0 ≤ x := by have q_ : (0 : Int) ≤ (1 * x + 0) + 0 := z4 ([(0, 1)], 0) (List.mem_of_getElem? (i := 0) rfl); omega
      have c1 : 0 ≤ -x + 200 := by have q_ : (0 : Int) ≤ ((-1) * x + 0) + 200 := z4 ([(0, (-1))], 200) (List.mem_of_getElem? (i := 1) rfl); omega
      have c2 : 0 ≤ -x - m + 9000 := by have q_ : (0 : Int) ≤ ((-1) * x + ((-1) * m + 0)) + 9000 := z4 ([(0, (-1)), (1, (-1))], 9000) (List.mem_of_getElem? (i := 2) rfl); omega
      have k0 : pI h' 0 66 = 1 := (show pI h' 0 66 = 0 + 1 from z1 (0, (none, 66), ([], 1)) (List.mem_of_getElem? (i := 0) rfl)).trans (by omega)
      have k1 : pI h' 0 73 = 0 := (show pI h' 0 73 = 0 + 0 from z1 (0, (none, 73), ([], 0)) (List.mem_of_getElem? (i := 1) rfl)).trans (by omega)
      have k2 : pI h' 0 72 = (-1) := (show pI h' 0 72 = 0 + (-1) from z1 (0, (none, 72), ([], (-1))) (List.mem_of_getElem? (i := 2) rfl)).trans (by omega)
      have k3 : pI h' 0 71 = (-1) := (show pI h' 0 71 = 0 + (-1) from z1 (0, (none, 71), ([], (-1))) (List.mem_of_getElem? (i := 3) rfl)).trans (by omega)
      have k4 : pI h' 0 70 = 0 := (show pI h' 0 70 = 0 + 0 from z1 (0, (none, 70), ([], 0)) (List.mem_of_getElem? (i := 4) rfl)).trans (by omega)
      have k5 : pI h' 0 69 = 0 := (show pI h' 0 69 = 0 + 0 from z1 (0, (none, 69), ([], 0)) (List.mem_of_getElem? (i := 5) rfl)).trans (by omega)
      have k6 : pI h' 0 68 = 0 := (show pI h' 0 68 = 0 + 0 from z1 (0, (none, 68), ([], 0)) (List.mem_of_getElem? (i := 6) rfl)).trans (by omega)
      have k7 : pI h' 0 67 = 0 := (show pI h' 0 67 = 0 + 0 from z1 (0, (none, 67), ([], 0)) (List.mem_of_getElem? (i := 7) rfl)).trans (by omega)
      have k8 : pI h' 0 2 = 0 := (show pI h' 0 2 = 0 + 0 from z1 (0, (none, 2), ([], 0)) (List.mem_of_getElem? (i := 8) rfl)).trans (by omega)
      have o0 : zget lo' 0 = some (.ref 0) := locR (p2 (0, .inr (.inl 0)) (List.mem_of_getElem? (i := 0) rfl))
      have o1 : zI lo' 1 x := zI_of (p2 (1, .inl sf32) (List.mem_of_getElem? (i := 1) rfl)) (z3 (1, ([(0, 1)], 0)) (List.mem_of_getElem? (i := 0) rfl)) (show (1 * x + 0) + 0 = x from by omega)
      have o2 : zI lo' 2 0 := zI_of (p2 (2, .inl sf32) (List.mem_of_getElem? (i := 2) rfl)) (z3 (2, ([], 0)) (List.mem_of_getElem? (i := 1) rfl)) (show 0 + 0 = 0 from by omega)
      have p1 : _ = [] := p1
      subst p1
      exact hE0 lo' h' hi' hm c0 c1 c2 k0 k1 k2 k3 k4 k5 k6 k7 k8 o0 o1 o2
    cases he
  · intro e he r' h' hp hi' hm
    rcases List.mem_cons.mp he with rfl | he
    · obtain ⟨p1, -, hz⟩ := hp
      obtain ⟨⟨z1, z2, z3, z4⟩, z5, z6⟩ := hz
      have c0 : 0 ≤ -x - 1 := by have q_ : (0 : Int) ≤ ((-1) * x + 0) + (-1) := z4 ([(0, (-1))], (-1)) (List.mem_of_getElem? (i := 0) rfl); omega
      have k0 : pI h' 0 2 = 0 := (show pI h' 0 2 = 0 + 0 from z1 (0, (none, 2), ([], 0)) (List.mem_of_getElem? (i := 0) rfl)).trans (by omega)
      obtain ⟨r_, rfl, hv⟩ := ansI p1 (z2 (0, ([], (-1))) (List.mem_of_getElem? (i := 0) rfl))
      have s0 : r_.toInt = (-1) := (show r_.toInt = 0 + (-1) from hv).trans (by omega)
      exact hR0 h' r_ hi' hm c0 k0 s0
    rcases List.mem_cons.mp he with rfl | he
    · obtain ⟨p1, -, hz⟩ := hp
      obtain ⟨⟨z1, z2, z3, z4⟩, z5, z6⟩ := hz
      have c0 : 0 ≤ x := by have q_ : (0 : Int) ≤ (1 * x + 0) + 0 := z4 ([(0, 1)], 0) (List.mem_of_getElem? (i := 0) rfl); omega
      have c1 : 0 ≤ x - 201 := by have q_ : (0 : Int) ≤ (1 * x + 0) + (-201) := z4 ([(0, 1)], (-201)) (List.mem_of_getElem? (i := 1) rfl); omega
      have k0 : pI h' 0 2 = 0 := (show pI h' 0 2 = 0 + 0 from z1 (0, (none, 2), ([], 0)) (List.mem_of_getElem? (i := 0) rfl)).trans (by omega)
      obtain ⟨r_, rfl, hv⟩ := ansI p1 (z2 (0, ([], (-1))) (List.mem_of_getElem? (i := 0) rfl))
      have s0 : r_.toInt = (-1) := (show r_.toInt = 0 + (-1) from hv).trans (by omega)
      exact hR1 h' r_ hi' hm c0 c1 k0 s0
    rcases List.mem_cons.mp he with rfl | he
    · obtain ⟨p1, -, hz⟩ := hp
      obtain ⟨⟨z1, z2, z3, z4⟩, z5, z6⟩ := hz
      have c0 : 0 ≤ x := by have q_ : (0 : Int) ≤ (1 * x + 0) + 0 := z4 ([(0, 1)], 0) (List.mem_of_getElem? (i := 0) rfl); omega
      have c1 : 0 ≤ -x + 200 := by have q_ : (0 : Int) ≤ ((-1) * x + 0) + 200 := z4 ([(0, (-1))], 200) (List.mem_of_getElem? (i := 1) rfl); omega
      have c2 : 0 ≤ x + m - 9001 := by have q_ : (0 : Int) ≤ (1 * x + (1 * m + 0)) + (-9001) := z4 ([(0, 1), (1, 1)], (-9001)) (List.mem_of_getElem? (i := 2) rfl); omega
      have k0 : pI h' 0 2 = 0 := (show pI h' 0 2 = 0 + 0 from z1 (0, (none, 2), ([], 0)) (List.mem_of_getElem? (i := 0) rfl)).trans (by omega)
      obtain ⟨r_, rfl, hv⟩ := ansI p1 (z2 (0, ([], (-1))) (List.mem_of_getElem? (i := 0) rfl))
      have s0 : r_.toInt = (-1) := (show r_.toInt = 0 + (-1) from hv).trans (by omega)
      exact hR2 h' r_ hi' hm c0 c1 c2 k0 s0
    cases he
def keG1_L : List (Nat × sT) := [(0, .inr (.inl 0)), (1, .inl (0, 200)), (2, .inl (0, 200))]
def keG1_S : List sT := []
def keG1_A : sAs := ([], [], [], [])
def keG1_P : List sP0 := []
def keG1_G : List sP0 := []
def keG1_B : List (Nat × Nat × Int) := []
def keG1_m : sM := []
def keG1_e0 : sXe := (59, [], [(0, .inr (.inl 0)), (1, .inl sf32)], sA0, [], ([], [], [(1, ([(0, 1)], 0))], [([(0, (-1)), (1, 1)], 0)]), [], [])
def keG1_e1 : sXe := (50, [.inl sf32, .inr (.inl 0)], [(0, .inr (.inl 0)), (1, .inl sf32), (2, .inl sf32)], sA0, [], ([], [(0, ([], 0))], [(1, ([(0, 1)], 0)), (2, ([(1, 1)], 0))], [([(0, 1), (1, (-1))], (-1))]), [], [])
theorem keG1_b : syeB swM sT0 keG1_m 400 0 252 keG1_L keG1_S keG1_A keG1_P keG1_G keG1_B 43 [keG1_e0, keG1_e1] [] = true := by decide +kernel
theorem keG1 {l : Launch} {Γ : zG} {d : Nat} (hd : 0 ≤ d) {Kp : Option Value → zH → Prop} {lo : zL} {h : zH} {x k : Int} (hi : sInv swM h) (b_x : 0 ≤ x ∧ x ≤ 200) (b_k : 0 ≤ k ∧ k ≤ 200) (l0 : zget lo 0 = some (.ref 0)) (l1 : zI lo 1 x) (l2 : zI lo 2 k)
    (hE0 : ∀ (lo' : zL) (h' : zH), sInv swM h' → sMd keG1_m h h' → 0 ≤ -x + k → zget lo' 0 = some (.ref 0) → zI lo' 1 x → zX l Γ false (d + 1) (zhd 252) (zMQ' Γ false (zhd 252) Kp) 0 0 59 lo' [] h')
    (hE1 : ∀ (lo' : zL) (h' : zH) (y0 : Int32), sInv swM h' → sMd keG1_m h h' → 0 ≤ x - k - 1 → zget lo' 0 = some (.ref 0) → zI lo' 1 x → zI lo' 2 k → y0.toInt = 0 → zX l Γ false (d + 1) (zhd 252) (zMQ' Γ false (zhd 252) Kp) 0 0 50 lo' [.int y0, .ref 0] h') : zX l Γ false (d + 1) (zhd 252) (zMQ' Γ false (zhd 252) Kp) 0 0 43 lo [] h := by
  refine sye_ok (mi := 252) (pc := 43) (fun i => [x, k].getD i 0) keG1_b (fun _ _ hc _ => nomatch hc) hd ⟨l0, zIm l1 (by show 0 ≤ x; omega) (by show x ≤ 200; omega), zIm l2 (by show 0 ≤ k; omega) (by show k ≤ 200; omega), trivial⟩ rfl ⟨(fun _ hc => nomatch hc), (fun _ hc => nomatch hc), (fun _ hc => nomatch hc), Or.inl rfl⟩ trivial trivial (fun _ hc => nomatch hc) hi ?_ ?_
  · intro e he lo' st' h' hp hi' hm
    rcases List.mem_cons.mp he with rfl | he
    · obtain ⟨p1, p2, -, hz⟩ := hp
      obtain ⟨⟨z1, z2, z3, z4⟩, z5, z6⟩ := hz
      have c0 : 0 ≤ -x + k := by have q_ : (0 : Int) ≤ ((-1) * x + (1 * k + 0)) + 0 := z4 ([(0, (-1)), (1, 1)], 0) (List.mem_of_getElem? (i := 0) rfl); omega
      have o0 : zget lo' 0 = some (.ref 0) := locR (p2 (0, .inr (.inl 0)) (List.mem_of_getElem? (i := 0) rfl))
      have o1 : zI lo' 1 x := zI_of (p2 (1, .inl sf32) (List.mem_of_getElem? (i := 1) rfl)) (z3 (1, ([(0, 1)], 0)) (List.mem_of_getElem? (i := 0) rfl)) (show (1 * x + 0) + 0 = x from by omega)
      have p1 : _ = [] := p1
      subst p1
      exact hE0 lo' h' hi' hm c0 o0 o1
    rcases List.mem_cons.mp he with rfl | he
    · obtain ⟨p1, p2, -, hz⟩ := hp
      obtain ⟨⟨z1, z2, z3, z4⟩, z5, z6⟩ := hz
      have c0 : 0 ≤ x - k - 1 := by have q_ : (0 : Int) ≤ (1 * x + ((-1) * k + 0)) + (-1) := z4 ([(0, 1), (1, (-1))], (-1)) (List.mem_of_getElem? (i := 0) rfl); omega
      have o0 : zget lo' 0 = some (.ref 0) := locR (p2 (0, .inr (.inl 0)) (List.mem_of_getElem? (i := 0) rfl))
      have o1 : zI lo' 1 x := zI_of (p2 (1, .inl sf32) (List.mem_of_getElem? (i := 1) rfl)) (z3 (1, ([(0, 1)], 0)) (List.mem_of_getElem? (i := 0) rfl)) (show (1 * x + 0) + 0 = x from by omega)
      have o2 : zI lo' 2 k := zI_of (p2 (2, .inl sf32) (List.mem_of_getElem? (i := 2) rfl)) (z3 (2, ([(1, 1)], 0)) (List.mem_of_getElem? (i := 1) rfl)) (show (1 * k + 0) + 0 = k from by omega)
      obtain ⟨_, _, rfl, ⟨y0, rfl, -⟩, p1⟩ := p1
      obtain ⟨_, _, rfl, hr, p1⟩ := p1
      have hr : _ = Value.ref 0 := hr
      subst hr
      have p1 : _ = [] := p1
      subst p1
      obtain ⟨v_, ev, hv⟩ := z2 (0, ([], 0)) (List.mem_of_getElem? (i := 0) rfl)
      cases ev
      have s0 : y0.toInt = 0 := (show y0.toInt = 0 + 0 from hv).trans (by omega)
      exact hE1 lo' h' y0 hi' hm c0 o0 o1 o2 s0
    cases he
  · intro e he r' h' hp hi' hm
    cases he
def keG2_L : List (Nat × sT) := [(0, .inr (.inl 0)), (1, .inl (0, 200)), (2, .inl (0, 199))]
def keG2_S : List sT := []
def keG2_A : sAs := ([], [], [], [])
def keG2_P : List sP0 := []
def keG2_G : List sP0 := []
def keG2_B : List (Nat × Nat × Int) := []
def keG2_m : sM := []
def keG2_e0 : sXe := (43, [], [(0, .inr (.inl 0)), (1, .inl sf32), (2, .inl sf32)], sA0, [], ([], [], [(1, ([(0, 1)], 0)), (2, ([(1, 1)], 1))], []), [], [])
theorem keG2_b : syeB swM sT0 keG2_m 400 0 252 keG2_L keG2_S keG2_A keG2_P keG2_G keG2_B 53 [keG2_e0] [] = true := by decide +kernel
theorem keG2 {l : Launch} {Γ : zG} {d : Nat} (hd : 0 ≤ d) {Kp : Option Value → zH → Prop} {lo : zL} {h : zH} {x k : Int} (hi : sInv swM h) (b_x : 0 ≤ x ∧ x ≤ 200) (b_k : 0 ≤ k ∧ k ≤ 199) (l0 : zget lo 0 = some (.ref 0)) (l1 : zI lo 1 x) (l2 : zI lo 2 k)
    (hE0 : ∀ (lo' : zL) (h' : zH), sInv swM h' → sMd keG2_m h h' → zget lo' 0 = some (.ref 0) → zI lo' 1 x → zI lo' 2 (k + 1) → zX l Γ false (d + 1) (zhd 252) (zMQ' Γ false (zhd 252) Kp) 0 0 43 lo' [] h') : zX l Γ false (d + 1) (zhd 252) (zMQ' Γ false (zhd 252) Kp) 0 0 53 lo [] h := by
  refine sye_ok (mi := 252) (pc := 53) (fun i => [x, k].getD i 0) keG2_b (fun _ _ hc _ => nomatch hc) hd ⟨l0, zIm l1 (by show 0 ≤ x; omega) (by show x ≤ 200; omega), zIm l2 (by show 0 ≤ k; omega) (by show k ≤ 199; omega), trivial⟩ rfl ⟨(fun _ hc => nomatch hc), (fun _ hc => nomatch hc), (fun _ hc => nomatch hc), Or.inl rfl⟩ trivial trivial (fun _ hc => nomatch hc) hi ?_ ?_
  · intro e he lo' st' h' hp hi' hm
    rcases List.mem_cons.mp he with rfl | he
    · obtain ⟨p1, p2, -, hz⟩ := hp
      obtain ⟨⟨z1, z2, z3, z4⟩, z5, z6⟩ := hz
      have o0 : zget lo' 0 = some (.ref 0) := locR (p2 (0, .inr (.inl 0)) (List.mem_of_getElem? (i := 0) rfl))
      have o1 : zI lo' 1 x := zI_of (p2 (1, .inl sf32) (List.mem_of_getElem? (i := 1) rfl)) (z3 (1, ([(0, 1)], 0)) (List.mem_of_getElem? (i := 0) rfl)) (show (1 * x + 0) + 0 = x from by omega)
      have o2 : zI lo' 2 (k + 1) := zI_of (p2 (2, .inl sf32) (List.mem_of_getElem? (i := 2) rfl)) (z3 (2, ([(1, 1)], 1)) (List.mem_of_getElem? (i := 1) rfl)) (show (1 * k + 0) + 1 = k + 1 from by omega)
      have p1 : _ = [] := p1
      subst p1
      exact hE0 lo' h' hi' hm o0 o1 o2
    cases he
  · intro e he r' h' hp hi' hm
    cases he
def keG3_L (n : Nat) : List (Nat × sT) := [(0, .inr (.inl 0)), (1, .inl (0, 200))]
def keG3_S (n : Nat) : List sT := []
def keG3_A (n : Nat) : sAs := ([], [], [], [])
def keG3_P (n : Nat) : List sP0 := [(36, (none, 0), sf32), (0, (none, 80), ((n : Int), (n : Int)))]
def keG3_G (n : Nat) : List sP0 := []
def keG3_B (n : Nat) : List (Nat × Nat × Int) := []
def keG3_m (n : Nat) : sM := [(0, 66, 67), (0, 80, 81)]
def keG3_r0 (n : Nat) : sXr := (some (.inl sf32), sA0, [], ([(0, (none, 80), ([], (n : Int))), (0, (none, 66), ([], 0))], [(0, ([(1, 1)], 0))], [], [([(0, (-1))], 0)]), [], [])
def keG3_r1 (n : Nat) : sXr := (some (.inl sf32), sA0, [], ([(0, (none, 80), ([], 0)), (0, (none, 66), ([], 0))], [(0, ([(1, 1)], 0))], [], [([(0, 1)], (-1))]), [], [])
theorem keG3_b : ((List.range 21).all fun n => syeB swM sT0 (keG3_m n) 400 0 252 (keG3_L n) (keG3_S n) (keG3_A n) (keG3_P n) (keG3_G n) (keG3_B n) 59 [] [keG3_r0 n, keG3_r1 n]) = true := by decide +kernel
theorem keG3 {l : Launch} {Γ : zG} {d : Nat} (hd : 0 ≤ d) {Kp : Option Value → zH → Prop} {lo : zL} {h : zH} {n : Nat} (h_n : n < 21) {x m : Int} (hi : sInv swM h) (b_x : 0 ≤ x ∧ x ≤ 200) (b_m : (-2147483648) ≤ m ∧ m ≤ 2147483647) (l0 : zget lo 0 = some (.ref 0)) (l1 : zI lo 1 x) (p_m : pI h 36 0 = m) (p_nn : pI h 0 80 = (n : Int))
    (hR0 : ∀ (h' : zH) (r_ : Int32), sInv swM h' → sMd (keG3_m n) h h' → 0 ≤ -x → pI h' 0 80 = (n : Int) → pI h' 0 66 = 0 → r_.toInt = m → Kp (some (.int r_)) h')
    (hR1 : ∀ (h' : zH) (r_ : Int32), sInv swM h' → sMd (keG3_m n) h h' → 0 ≤ x - 1 → pI h' 0 80 = 0 → pI h' 0 66 = 0 → r_.toInt = m → Kp (some (.int r_)) h') : zX l Γ false (d + 1) (zhd 252) (zMQ' Γ false (zhd 252) Kp) 0 0 59 lo [] h := by
  refine sye_ok (mi := 252) (pc := 59) (fun i => [x, m, (n : Int)].getD i 0) (zall_r keG3_b h_n) (fun _ _ hc _ => nomatch hc) hd ⟨l0, zIm l1 (by show 0 ≤ x; omega) (by show x ≤ 200; omega), trivial⟩ rfl ⟨(fun _ hc => nomatch hc), (fun _ hc => nomatch hc), (fun _ hc => nomatch hc), Or.inl rfl⟩ ⟨⟨p_m, by show (-2147483648) ≤ m; omega, by show m ≤ 2147483647; omega⟩, ⟨p_nn, by show (n : Int) ≤ (n : Int); omega, by show (n : Int) ≤ (n : Int); omega⟩, trivial⟩ trivial (fun _ hc => nomatch hc) hi ?_ ?_
  · intro e he lo' st' h' hp hi' hm
    cases he
  · intro e he r' h' hp hi' hm
    rcases List.mem_cons.mp he with rfl | he
    · obtain ⟨p1, -, hz⟩ := hp
      obtain ⟨⟨z1, z2, z3, z4⟩, z5, z6⟩ := hz
      have c0 : 0 ≤ -x := by have q_ : (0 : Int) ≤ ((-1) * x + 0) + 0 := z4 ([(0, (-1))], 0) (List.mem_of_getElem? (i := 0) rfl); omega
      have k0 : pI h' 0 80 = (n : Int) := (show pI h' 0 80 = 0 + (n : Int) from z1 (0, (none, 80), ([], (n : Int))) (List.mem_of_getElem? (i := 0) rfl)).trans (by omega)
      have k1 : pI h' 0 66 = 0 := (show pI h' 0 66 = 0 + 0 from z1 (0, (none, 66), ([], 0)) (List.mem_of_getElem? (i := 1) rfl)).trans (by omega)
      obtain ⟨r_, rfl, hv⟩ := ansI p1 (z2 (0, ([(1, 1)], 0)) (List.mem_of_getElem? (i := 0) rfl))
      have s0 : r_.toInt = m := (show r_.toInt = (1 * m + 0) + 0 from hv).trans (by omega)
      exact hR0 h' r_ hi' hm c0 k0 k1 s0
    rcases List.mem_cons.mp he with rfl | he
    · obtain ⟨p1, -, hz⟩ := hp
      obtain ⟨⟨z1, z2, z3, z4⟩, z5, z6⟩ := hz
      have c0 : 0 ≤ x - 1 := by have q_ : (0 : Int) ≤ (1 * x + 0) + (-1) := z4 ([(0, 1)], (-1)) (List.mem_of_getElem? (i := 0) rfl); omega
      have k0 : pI h' 0 80 = 0 := (show pI h' 0 80 = 0 + 0 from z1 (0, (none, 80), ([], 0)) (List.mem_of_getElem? (i := 0) rfl)).trans (by omega)
      have k1 : pI h' 0 66 = 0 := (show pI h' 0 66 = 0 + 0 from z1 (0, (none, 66), ([], 0)) (List.mem_of_getElem? (i := 1) rfl)).trans (by omega)
      obtain ⟨r_, rfl, hv⟩ := ansI p1 (z2 (0, ([(1, 1)], 0)) (List.mem_of_getElem? (i := 0) rfl))
      have s0 : r_.toInt = m := (show r_.toInt = (1 * m + 0) + 0 from hv).trans (by omega)
      exact hR1 h' r_ hi' hm c0 k0 k1 s0
    cases he
def keV0_L (n : Nat) : List sT := [.inr (.inl 0)]
def keV0_A (n : Nat) : sAs := ([], [], [], [])
def keV0_P (n : Nat) : List sP0 := [(0, (none, 80), (((n : Int) + 1), ((n : Int) + 1)))]
def keV0_G (n : Nat) : List sP0 := []
def keV0_B (n : Nat) : List (Nat × Nat × Int) := []
def keV0_m (n : Nat) : sM := [(0, 2, 3), (0, 80, 81)]
def keV0_e0 (n : Nat) : sXe := (36, [.inl sf32, .inr (.inl 41), .inr (.inl 0)], [(0, .inr (.inl 0))], sA0, [], ([(0, (none, 80), ([], (n : Int))), (0, (none, 2), ([], 0))], [(0, ([], (32 * (n : Int))))], [], []), [], [])
theorem keV0_b : ((List.range 20).all fun n => syfB swM sT0 (keV0_m n) 400 0 306 (keV0_L n) (keV0_A n) (keV0_P n) (keV0_G n) (keV0_B n) [keV0_e0 n] []) = true := by decide +kernel
theorem keV0 {l : Launch} {Γ : zG} {d : Nat} (hd : 0 ≤ d) {Kp : Option Value → zH → Prop} {h : zH} {n : Nat} (h_n : n < 20) (hi : sInv swM h) (p_nn : pI h 0 80 = ((n : Int) + 1))
    (hE0 : ∀ (lo' : zL) (h' : zH) (y0 : Int32), sInv swM h' → sMd (keV0_m n) h h' → pI h' 0 80 = (n : Int) → pI h' 0 2 = 0 → zget lo' 0 = some (.ref 0) → y0.toInt = (32 * (n : Int)) → zX l Γ false (d + 1) (zhd 306) (zMQ' Γ false (zhd 306) Kp) 0 0 36 lo' [.int y0, .ref 41, .ref 0] h') : zSem l Γ false (d + 1) (zhd 306) [.ref 0] h Kp := by
  refine syf_ok (mi := 306) (fun i => [((n : Int) + 1)].getD i 0) (zall_r keV0_b h_n) (fun _ _ hc _ => nomatch hc) hd ⟨_, _, rfl, rfl, rfl⟩ ⟨rfl, trivial⟩ ⟨(fun _ hc => nomatch hc), (fun _ hc => nomatch hc), (fun _ hc => nomatch hc), Or.inl rfl⟩ ⟨⟨p_nn, by show ((n : Int) + 1) ≤ ((n : Int) + 1); omega, by show ((n : Int) + 1) ≤ ((n : Int) + 1); omega⟩, trivial⟩ trivial (fun _ hc => nomatch hc) hi ?_ ?_
  · intro e he lo' st' h' hp hi' hm
    rcases List.mem_cons.mp he with rfl | he
    · obtain ⟨p1, p2, -, hz⟩ := hp
      obtain ⟨⟨z1, z2, z3, z4⟩, z5, z6⟩ := hz
      have k0 : pI h' 0 80 = (n : Int) := (show pI h' 0 80 = 0 + (n : Int) from z1 (0, (none, 80), ([], (n : Int))) (List.mem_of_getElem? (i := 0) rfl)).trans (by omega)
      have k1 : pI h' 0 2 = 0 := (show pI h' 0 2 = 0 + 0 from z1 (0, (none, 2), ([], 0)) (List.mem_of_getElem? (i := 1) rfl)).trans (by omega)
      have o0 : zget lo' 0 = some (.ref 0) := locR (p2 (0, .inr (.inl 0)) (List.mem_of_getElem? (i := 0) rfl))
      obtain ⟨_, _, rfl, ⟨y0, rfl, -⟩, p1⟩ := p1
      obtain ⟨_, _, rfl, hr, p1⟩ := p1
      have hr : _ = Value.ref 41 := hr
      subst hr
      obtain ⟨_, _, rfl, hr, p1⟩ := p1
      have hr : _ = Value.ref 0 := hr
      subst hr
      have p1 : _ = [] := p1
      subst p1
      obtain ⟨v_, ev, hv⟩ := z2 (0, ([], (32 * (n : Int)))) (List.mem_of_getElem? (i := 0) rfl)
      cases ev
      have s0 : y0.toInt = (32 * (n : Int)) := (show y0.toInt = 0 + (32 * (n : Int)) from hv).trans (by omega)
      exact hE0 lo' h' y0 hi' hm k0 k1 o0 s0
    cases he
  · intro e he r' h' hp hi' hm
    cases he
def keV2_L : List sT := [.inr (.inl 0)]
def keV2_A : sAs := ([], [], [], [])
def keV2_P : List sP0 := [(0, (none, 80), (0, 0))]
def keV2_G : List sP0 := []
def keV2_B : List (Nat × Nat × Int) := []
def keV2_m : sM := [(0, 2, 3)]
def keV2_r0 : sXr := (some (.inl sf32), sA0, [], ([(0, (none, 2), ([], 0))], [(0, ([], (-1)))], [], []), [], [])
theorem keV2_b : syfB swM sT0 keV2_m 400 0 306 keV2_L keV2_A keV2_P keV2_G keV2_B [] [keV2_r0] = true := by decide +kernel
theorem keV2 {l : Launch} {Γ : zG} {d : Nat} (hd : 0 ≤ d) {Kp : Option Value → zH → Prop} {h : zH} (hi : sInv swM h) (p_nn : pI h 0 80 = 0)
    (hR0 : ∀ (h' : zH) (r_ : Int32), sInv swM h' → sMd keV2_m h h' → pI h' 0 2 = 0 → r_.toInt = (-1) → Kp (some (.int r_)) h') : zSem l Γ false (d + 1) (zhd 306) [.ref 0] h Kp := by
  refine syf_ok (mi := 306) (fun i => [0].getD i 0) keV2_b (fun _ _ hc _ => nomatch hc) hd ⟨_, _, rfl, rfl, rfl⟩ ⟨rfl, trivial⟩ ⟨(fun _ hc => nomatch hc), (fun _ hc => nomatch hc), (fun _ hc => nomatch hc), Or.inl rfl⟩ ⟨⟨p_nn, by show 0 ≤ 0; omega, by show 0 ≤ 0; omega⟩, trivial⟩ trivial (fun _ hc => nomatch hc) hi ?_ ?_
  · intro e he lo' st' h' hp hi' hm
    cases he
  · intro e he r' h' hp hi' hm
    rcases List.mem_cons.mp he with rfl | he
    · obtain ⟨p1, -, hz⟩ := hp
      obtain ⟨⟨z1, z2, z3, z4⟩, z5, z6⟩ := hz
      have k0 : pI h' 0 2 = 0 := (show pI h' 0 2 = 0 + 0 from z1 (0, (none, 2), ([], 0)) (List.mem_of_getElem? (i := 0) rfl)).trans (by omega)
      obtain ⟨r_, rfl, hv⟩ := ansI p1 (z2 (0, ([], (-1))) (List.mem_of_getElem? (i := 0) rfl))
      have s0 : r_.toInt = (-1) := (show r_.toInt = 0 + (-1) from hv).trans (by omega)
      exact hR0 h' r_ hi' hm k0 s0
    cases he
def keV1_L (n : Nat) : List (Nat × sT) := [(0, .inr (.inl 0))]
def keV1_S (n : Nat) : List sT := []
def keV1_A (n : Nat) : sAs := ([], [], [], [])
def keV1_P (n : Nat) : List sP0 := [(0, (none, 80), ((n : Int), (n : Int)))]
def keV1_G (n : Nat) : List sP0 := []
def keV1_B (n : Nat) : List (Nat × Nat × Int) := []
def keV1_m (n : Nat) : sM := []
def keV1_r0 (n : Nat) : sXr := (some (.inl sf32), sA0, [], ([], [(0, ([], (n : Int)))], [], []), [], [])
theorem keV1_b : ((List.range 21).all fun n => syeB swM sT0 (keV1_m n) 400 0 306 (keV1_L n) (keV1_S n) (keV1_A n) (keV1_P n) (keV1_G n) (keV1_B n) 39 [] [keV1_r0 n]) = true := by decide +kernel
theorem keV1 {l : Launch} {Γ : zG} {d : Nat} (hd : 0 ≤ d) {Kp : Option Value → zH → Prop} {lo : zL} {h : zH} {n : Nat} (h_n : n < 21) (hi : sInv swM h) (l0 : zget lo 0 = some (.ref 0)) (p_nn : pI h 0 80 = (n : Int))
    (hR0 : ∀ (h' : zH) (r_ : Int32), sInv swM h' → sMd (keV1_m n) h h' → r_.toInt = (n : Int) → Kp (some (.int r_)) h') : zX l Γ false (d + 1) (zhd 306) (zMQ' Γ false (zhd 306) Kp) 0 0 39 lo [] h := by
  refine sye_ok (mi := 306) (pc := 39) (fun i => [(n : Int)].getD i 0) (zall_r keV1_b h_n) (fun _ _ hc _ => nomatch hc) hd ⟨l0, trivial⟩ rfl ⟨(fun _ hc => nomatch hc), (fun _ hc => nomatch hc), (fun _ hc => nomatch hc), Or.inl rfl⟩ ⟨⟨p_nn, by show (n : Int) ≤ (n : Int); omega, by show (n : Int) ≤ (n : Int); omega⟩, trivial⟩ trivial (fun _ hc => nomatch hc) hi ?_ ?_
  · intro e he lo' st' h' hp hi' hm
    cases he
  · intro e he r' h' hp hi' hm
    rcases List.mem_cons.mp he with rfl | he
    · obtain ⟨p1, -, hz⟩ := hp
      obtain ⟨⟨z1, z2, z3, z4⟩, z5, z6⟩ := hz
      obtain ⟨r_, rfl, hv⟩ := ansI p1 (z2 (0, ([], (n : Int))) (List.mem_of_getElem? (i := 0) rfl))
      have s0 : r_.toInt = (n : Int) := (show r_.toInt = 0 + (n : Int) from hv).trans (by omega)
      exact hR0 h' r_ hi' hm s0
    cases he
def keE0_L : List sT := [.inr (.inl 0)]
def keE0_A : sAs := ([], [], [], [])
def keE0_P : List sP0 := []
def keE0_G : List sP0 := []
def keE0_B : List (Nat × Nat × Int) := []
def keE0_m : sM := [(0, 2, 3), (0, 82, 83)]
def keE0_e0 : sXe := (16, [.inl sf32, .inr (.inl 42), .inr (.inl 0)], [(0, .inr (.inl 0))], sA0, [], ([(0, (none, 82), ([], 1)), (0, (none, 2), ([], 0))], [(0, ([], 0))], [], []), [], [])
theorem keE0_b : syfB swM sT0 keE0_m 400 0 308 keE0_L keE0_A keE0_P keE0_G keE0_B [keE0_e0] [] = true := by decide +kernel
theorem keE0 {l : Launch} {Γ : zG} {d : Nat} (hd : 0 ≤ d) {Kp : Option Value → zH → Prop} {h : zH} (hi : sInv swM h) 
    (hE0 : ∀ (lo' : zL) (h' : zH) (y0 : Int32), sInv swM h' → sMd keE0_m h h' → pI h' 0 82 = 1 → pI h' 0 2 = 0 → zget lo' 0 = some (.ref 0) → y0.toInt = 0 → zX l Γ false (d + 1) (zhd 308) (zMQ' Γ false (zhd 308) Kp) 0 0 16 lo' [.int y0, .ref 42, .ref 0] h') : zSem l Γ false (d + 1) (zhd 308) [.ref 0] h Kp := by
  refine syf_ok (mi := 308) (fun i => [].getD i 0) keE0_b (fun _ _ hc _ => nomatch hc) hd ⟨_, _, rfl, rfl, rfl⟩ ⟨rfl, trivial⟩ ⟨(fun _ hc => nomatch hc), (fun _ hc => nomatch hc), (fun _ hc => nomatch hc), Or.inl rfl⟩ trivial trivial (fun _ hc => nomatch hc) hi ?_ ?_
  · intro e he lo' st' h' hp hi' hm
    rcases List.mem_cons.mp he with rfl | he
    · obtain ⟨p1, p2, -, hz⟩ := hp
      obtain ⟨⟨z1, z2, z3, z4⟩, z5, z6⟩ := hz
      have k0 : pI h' 0 82 = 1 := (show pI h' 0 82 = 0 + 1 from z1 (0, (none, 82), ([], 1)) (List.mem_of_getElem? (i := 0) rfl)).trans (by omega)
      have k1 : pI h' 0 2 = 0 := (show pI h' 0 2 = 0 + 0 from z1 (0, (none, 2), ([], 0)) (List.mem_of_getElem? (i := 1) rfl)).trans (by omega)
      have o0 : zget lo' 0 = some (.ref 0) := locR (p2 (0, .inr (.inl 0)) (List.mem_of_getElem? (i := 0) rfl))
      obtain ⟨_, _, rfl, ⟨y0, rfl, -⟩, p1⟩ := p1
      obtain ⟨_, _, rfl, hr, p1⟩ := p1
      have hr : _ = Value.ref 42 := hr
      subst hr
      obtain ⟨_, _, rfl, hr, p1⟩ := p1
      have hr : _ = Value.ref 0 := hr
      subst hr
      have p1 : _ = [] := p1
      subst p1
      obtain ⟨v_, ev, hv⟩ := z2 (0, ([], 0)) (List.mem_of_getElem? (i := 0) rfl)
      cases ev
      have s0 : y0.toInt = 0 := (show y0.toInt = 0 + 0 from hv).trans (by omega)
      exact hE0 lo' h' y0 hi' hm k0 k1 o0 s0
    cases he
  · intro e he r' h' hp hi' hm
    cases he
def keE1_L : List (Nat × sT) := [(0, .inr (.inl 0))]
def keE1_S : List sT := []
def keE1_A : sAs := ([], [], [], [])
def keE1_P : List sP0 := []
def keE1_G : List sP0 := []
def keE1_B : List (Nat × Nat × Int) := []
def keE1_m : sM := []
def keE1_e0 : sXe := (21, [], [(0, .inr (.inl 0)), (1, .inl sf32)], sA0, [], ([], [], [(1, ([], 0))], []), [], [])
theorem keE1_b : syeB swM sT0 keE1_m 400 0 308 keE1_L keE1_S keE1_A keE1_P keE1_G keE1_B 19 [keE1_e0] [] = true := by decide +kernel
theorem keE1 {l : Launch} {Γ : zG} {d : Nat} (hd : 0 ≤ d) {Kp : Option Value → zH → Prop} {lo : zL} {h : zH} (hi : sInv swM h) (l0 : zget lo 0 = some (.ref 0))
    (hE0 : ∀ (lo' : zL) (h' : zH), sInv swM h' → sMd keE1_m h h' → zget lo' 0 = some (.ref 0) → zI lo' 1 0 → zX l Γ false (d + 1) (zhd 308) (zMQ' Γ false (zhd 308) Kp) 0 0 21 lo' [] h') : zX l Γ false (d + 1) (zhd 308) (zMQ' Γ false (zhd 308) Kp) 0 0 19 lo [] h := by
  refine sye_ok (mi := 308) (pc := 19) (fun i => [].getD i 0) keE1_b (fun _ _ hc _ => nomatch hc) hd ⟨l0, trivial⟩ rfl ⟨(fun _ hc => nomatch hc), (fun _ hc => nomatch hc), (fun _ hc => nomatch hc), Or.inl rfl⟩ trivial trivial (fun _ hc => nomatch hc) hi ?_ ?_
  · intro e he lo' st' h' hp hi' hm
    rcases List.mem_cons.mp he with rfl | he
    · obtain ⟨p1, p2, -, hz⟩ := hp
      obtain ⟨⟨z1, z2, z3, z4⟩, z5, z6⟩ := hz
      have o0 : zget lo' 0 = some (.ref 0) := locR (p2 (0, .inr (.inl 0)) (List.mem_of_getElem? (i := 0) rfl))
      have o1 : zI lo' 1 0 := zI_of (p2 (1, .inl sf32) (List.mem_of_getElem? (i := 1) rfl)) (z3 (1, ([], 0)) (List.mem_of_getElem? (i := 0) rfl)) (show 0 + 0 = 0 from by omega)
      have p1 : _ = [] := p1
      subst p1
      exact hE0 lo' h' hi' hm o0 o1
    cases he
  · intro e he r' h' hp hi' hm
    cases he
def keE2_L (g : Nat) : List (Nat × sT) := [(0, .inr (.inl 0)), (1, .inl ((g : Int), (g : Int)))]
def keE2_S (g : Nat) : List sT := []
def keE2_A (g : Nat) : sAs := ([], [], [], [])
def keE2_P (g : Nat) : List sP0 := [(32, (none, ((g : Nat) : Int)), sf32)]
def keE2_G (g : Nat) : List sP0 := []
def keE2_B (g : Nat) : List (Nat × Nat × Int) := []
def keE2_m (g : Nat) : sM := [(43, g, (g + 1))]
def keE2_e0 (g : Nat) : sXe := (21, [], [(0, .inr (.inl 0)), (1, .inl sf32)], sA0, [], ([(43, (none, ((g : Nat) : Int)), ([(1, 1)], 0))], [], [(1, ([], ((g : Int) + 1)))], []), [], [])
theorem keE2_b : ((List.range 8).all fun g => syeB swM sT0 (keE2_m g) 400 0 308 (keE2_L g) (keE2_S g) (keE2_A g) (keE2_P g) (keE2_G g) (keE2_B g) 21 [keE2_e0 g] []) = true := by decide +kernel
theorem keE2 {l : Launch} {Γ : zG} {d : Nat} (hd : 0 ≤ d) {Kp : Option Value → zH → Prop} {lo : zL} {h : zH} {g : Nat} (h_g : g < 8) {em : Int} (hi : sInv swM h) (b_em : (-2147483648) ≤ em ∧ em ≤ 2147483647) (l0 : zget lo 0 = some (.ref 0)) (l1 : zI lo 1 (g : Int)) (p_em : pI h 32 g = em)
    (hE0 : ∀ (lo' : zL) (h' : zH), sInv swM h' → sMd (keE2_m g) h h' → pI h' 43 g = em → zget lo' 0 = some (.ref 0) → zI lo' 1 ((g : Int) + 1) → zX l Γ false (d + 1) (zhd 308) (zMQ' Γ false (zhd 308) Kp) 0 0 21 lo' [] h') : zX l Γ false (d + 1) (zhd 308) (zMQ' Γ false (zhd 308) Kp) 0 0 21 lo [] h := by
  refine sye_ok (mi := 308) (pc := 21) (fun i => [(g : Int), em].getD i 0) (zall_r keE2_b h_g) (fun _ _ hc _ => nomatch hc) hd ⟨l0, zIm l1 (by show (g : Int) ≤ (g : Int); omega) (by show (g : Int) ≤ (g : Int); omega), trivial⟩ rfl ⟨(fun _ hc => nomatch hc), (fun _ hc => nomatch hc), (fun _ hc => nomatch hc), Or.inl rfl⟩ ⟨⟨p_em, by show (-2147483648) ≤ em; omega, by show em ≤ 2147483647; omega⟩, trivial⟩ trivial (fun _ hc => nomatch hc) hi ?_ ?_
  · intro e he lo' st' h' hp hi' hm
    rcases List.mem_cons.mp he with rfl | he
    · obtain ⟨p1, p2, -, hz⟩ := hp
      obtain ⟨⟨z1, z2, z3, z4⟩, z5, z6⟩ := hz
      have k0 : pI h' 43 g = em := (show pI h' 43 g = (1 * em + 0) + 0 from z1 (43, (none, ((g : Nat) : Int)), ([(1, 1)], 0)) (List.mem_of_getElem? (i := 0) rfl)).trans (by omega)
      have o0 : zget lo' 0 = some (.ref 0) := locR (p2 (0, .inr (.inl 0)) (List.mem_of_getElem? (i := 0) rfl))
      have o1 : zI lo' 1 ((g : Int) + 1) := zI_of (p2 (1, .inl sf32) (List.mem_of_getElem? (i := 1) rfl)) (z3 (1, ([], ((g : Int) + 1))) (List.mem_of_getElem? (i := 0) rfl)) (show 0 + ((g : Int) + 1) = ((g : Int) + 1) from by omega)
      have p1 : _ = [] := p1
      subst p1
      exact hE0 lo' h' hi' hm k0 o0 o1
    cases he
  · intro e he r' h' hp hi' hm
    cases he
def keE3_L : List (Nat × sT) := [(0, .inr (.inl 0)), (1, .inl (8, 8))]
def keE3_S : List sT := []
def keE3_A : sAs := ([], [], [], [])
def keE3_P : List sP0 := []
def keE3_G : List sP0 := []
def keE3_B : List (Nat × Nat × Int) := []
def keE3_m : sM := []
def keE3_e0 : sXe := (47, [], [(0, .inr (.inl 0)), (1, .inl sf32)], sA0, [], ([], [], [(1, ([], 0))], []), [], [])
theorem keE3_b : syeB swM sT0 keE3_m 400 0 308 keE3_L keE3_S keE3_A keE3_P keE3_G keE3_B 21 [keE3_e0] [] = true := by decide +kernel
theorem keE3 {l : Launch} {Γ : zG} {d : Nat} (hd : 0 ≤ d) {Kp : Option Value → zH → Prop} {lo : zL} {h : zH} (hi : sInv swM h) (l0 : zget lo 0 = some (.ref 0)) (l1 : zI lo 1 8)
    (hE0 : ∀ (lo' : zL) (h' : zH), sInv swM h' → sMd keE3_m h h' → zget lo' 0 = some (.ref 0) → zI lo' 1 0 → zX l Γ false (d + 1) (zhd 308) (zMQ' Γ false (zhd 308) Kp) 0 0 47 lo' [] h') : zX l Γ false (d + 1) (zhd 308) (zMQ' Γ false (zhd 308) Kp) 0 0 21 lo [] h := by
  refine sye_ok (mi := 308) (pc := 21) (fun i => [8].getD i 0) keE3_b (fun _ _ hc _ => nomatch hc) hd ⟨l0, zIm l1 (by show 8 ≤ 8; omega) (by show 8 ≤ 8; omega), trivial⟩ rfl ⟨(fun _ hc => nomatch hc), (fun _ hc => nomatch hc), (fun _ hc => nomatch hc), Or.inl rfl⟩ trivial trivial (fun _ hc => nomatch hc) hi ?_ ?_
  · intro e he lo' st' h' hp hi' hm
    rcases List.mem_cons.mp he with rfl | he
    · obtain ⟨p1, p2, -, hz⟩ := hp
      obtain ⟨⟨z1, z2, z3, z4⟩, z5, z6⟩ := hz
      have o0 : zget lo' 0 = some (.ref 0) := locR (p2 (0, .inr (.inl 0)) (List.mem_of_getElem? (i := 0) rfl))
      have o1 : zI lo' 1 0 := zI_of (p2 (1, .inl sf32) (List.mem_of_getElem? (i := 1) rfl)) (z3 (1, ([], 0)) (List.mem_of_getElem? (i := 0) rfl)) (show 0 + 0 = 0 from by omega)
      have p1 : _ = [] := p1
      subst p1
      exact hE0 lo' h' hi' hm o0 o1
    cases he
  · intro e he r' h' hp hi' hm
    cases he
def keE4_L (p : Nat) : List (Nat × sT) := [(0, .inr (.inl 0)), (1, .inl ((p : Int), (p : Int)))]
def keE4_S (p : Nat) : List sT := []
def keE4_A (p : Nat) : sAs := ([], [], [], [])
def keE4_P (p : Nat) : List sP0 := [(34, (none, ((p : Nat) : Int)), (0, 2))]
def keE4_G (p : Nat) : List sP0 := []
def keE4_B (p : Nat) : List (Nat × Nat × Int) := []
def keE4_m (p : Nat) : sM := [(43, (p + 8), (p + 9))]
def keE4_e0 (p : Nat) : sXe := (47, [], [(0, .inr (.inl 0)), (1, .inl sf32)], sA0, [], ([(43, (none, (((p + 8) : Nat) : Int)), ([(1, 1)], 0))], [], [(1, ([], ((p : Int) + 1)))], []), [], [])
theorem keE4_b : ((List.range 10).all fun p => syeB swM sT0 (keE4_m p) 400 0 308 (keE4_L p) (keE4_S p) (keE4_A p) (keE4_P p) (keE4_G p) (keE4_B p) 47 [keE4_e0 p] []) = true := by decide +kernel
theorem keE4 {l : Launch} {Γ : zG} {d : Nat} (hd : 0 ≤ d) {Kp : Option Value → zH → Prop} {lo : zL} {h : zH} {p : Nat} (h_p : p < 10) {dn : Int} (hi : sInv swM h) (b_dn : 0 ≤ dn ∧ dn ≤ 2) (l0 : zget lo 0 = some (.ref 0)) (l1 : zI lo 1 (p : Int)) (p_dn : pI h 34 p = dn)
    (hE0 : ∀ (lo' : zL) (h' : zH), sInv swM h' → sMd (keE4_m p) h h' → pI h' 43 (p + 8) = dn → zget lo' 0 = some (.ref 0) → zI lo' 1 ((p : Int) + 1) → zX l Γ false (d + 1) (zhd 308) (zMQ' Γ false (zhd 308) Kp) 0 0 47 lo' [] h') : zX l Γ false (d + 1) (zhd 308) (zMQ' Γ false (zhd 308) Kp) 0 0 47 lo [] h := by
  refine sye_ok (mi := 308) (pc := 47) (fun i => [(p : Int), dn].getD i 0) (zall_r keE4_b h_p) (fun _ _ hc _ => nomatch hc) hd ⟨l0, zIm l1 (by show (p : Int) ≤ (p : Int); omega) (by show (p : Int) ≤ (p : Int); omega), trivial⟩ rfl ⟨(fun _ hc => nomatch hc), (fun _ hc => nomatch hc), (fun _ hc => nomatch hc), Or.inl rfl⟩ ⟨⟨p_dn, by show 0 ≤ dn; omega, by show dn ≤ 2; omega⟩, trivial⟩ trivial (fun _ hc => nomatch hc) hi ?_ ?_
  · intro e he lo' st' h' hp hi' hm
    rcases List.mem_cons.mp he with rfl | he
    · obtain ⟨p1, p2, -, hz⟩ := hp
      obtain ⟨⟨z1, z2, z3, z4⟩, z5, z6⟩ := hz
      have k0 : pI h' 43 (p + 8) = dn := (show pI h' 43 (p + 8) = (1 * dn + 0) + 0 from z1 (43, (none, (((p + 8) : Nat) : Int)), ([(1, 1)], 0)) (List.mem_of_getElem? (i := 0) rfl)).trans (by omega)
      have o0 : zget lo' 0 = some (.ref 0) := locR (p2 (0, .inr (.inl 0)) (List.mem_of_getElem? (i := 0) rfl))
      have o1 : zI lo' 1 ((p : Int) + 1) := zI_of (p2 (1, .inl sf32) (List.mem_of_getElem? (i := 1) rfl)) (z3 (1, ([], ((p : Int) + 1))) (List.mem_of_getElem? (i := 0) rfl)) (show 0 + ((p : Int) + 1) = ((p : Int) + 1) from by omega)
      have p1 : _ = [] := p1
      subst p1
      exact hE0 lo' h' hi' hm k0 o0 o1
    cases he
  · intro e he r' h' hp hi' hm
    cases he
def keE5_L : List (Nat × sT) := [(0, .inr (.inl 0)), (1, .inl (10, 10))]
def keE5_S : List sT := []
def keE5_A : sAs := ([], [], [], [])
def keE5_P : List sP0 := [(35, (none, 0), sf32), (36, (none, 0), sf32)]
def keE5_G : List sP0 := [(0, (none, 65), sf64)]
def keE5_B : List (Nat × Nat × Int) := []
def keE5_m : sM := [(0, 85, 86), (43, 18, 20)]
def keE5_r0 : sXr := (some (.inl sf32), sA0, [(2, 0, ([], 85), ([], 0))], ([(43, (none, 19), ([(2, 1)], 0)), (43, (none, 18), ([(1, 1)], 0))], [(0, ([(2, 1)], 0))], [], []), [], [(4, ([(3, 1)], 0))])
theorem keE5_b : syeB swM sT0 keE5_m 400 0 308 keE5_L keE5_S keE5_A keE5_P keE5_G keE5_B 47 [] [keE5_r0] = true := by decide +kernel
theorem keE5 {l : Launch} {Γ : zG} {d : Nat} (hd : 0 ≤ d) {Kp : Option Value → zH → Prop} {lo : zL} {h : zH} {tx m nu : Int} (hi : sInv swM h) (b_tx : (-2147483648) ≤ tx ∧ tx ≤ 2147483647) (b_m : (-2147483648) ≤ m ∧ m ≤ 2147483647) (b_nu : (-9223372036854775808) ≤ nu ∧ nu ≤ 9223372036854775807) (l0 : zget lo 0 = some (.ref 0)) (l1 : zI lo 1 10) (p_tx : pI h 35 0 = tx) (p_m : pI h 36 0 = m) (p_nu : pL h 0 65 = nu)
    (hR0 : ∀ (h' : zH) (u0 : Int) (r_ : Int32), sInv swM h' → sMd keE5_m h h' → pL h' 0 85 = u0 → u0 = nu → pI h' 43 19 = m → pI h' 43 18 = tx → r_.toInt = m → Kp (some (.int r_)) h') : zX l Γ false (d + 1) (zhd 308) (zMQ' Γ false (zhd 308) Kp) 0 0 47 lo [] h := by
  refine sye_ok (mi := 308) (pc := 47) (fun i => [10, tx, m, nu].getD i 0) keE5_b (fun _ _ hc _ => nomatch hc) hd ⟨l0, zIm l1 (by show 10 ≤ 10; omega) (by show 10 ≤ 10; omega), trivial⟩ rfl ⟨(fun _ hc => nomatch hc), (fun _ hc => nomatch hc), (fun _ hc => nomatch hc), Or.inl rfl⟩ ⟨⟨p_tx, by show (-2147483648) ≤ tx; omega, by show tx ≤ 2147483647; omega⟩, ⟨p_m, by show (-2147483648) ≤ m; omega, by show m ≤ 2147483647; omega⟩, trivial⟩ ⟨⟨p_nu, by show (-9223372036854775808) ≤ nu; omega, by show nu ≤ 9223372036854775807; omega⟩, trivial⟩ (fun _ hc => nomatch hc) hi ?_ ?_
  · intro e he lo' st' h' hp hi' hm
    cases he
  · intro e he r' h' hp hi' hm
    rcases List.mem_cons.mp he with rfl | he
    · obtain ⟨p1, -, hz⟩ := hp
      obtain ⟨u0, f0, hz⟩ := hz
      obtain ⟨⟨z1, z2, z3, z4⟩, z5, z6⟩ := hz
      have g0 : pL h' 0 85 = u0 := by
        rw [← (show ((0 + 85 : Int)).toNat = 85 from by omega)]
        exact f0
      have j0 : u0 = nu := (show u0 = (1 * nu + 0) + 0 from z6 (4, ([(3, 1)], 0)) (List.mem_of_getElem? (i := 0) rfl)).trans (by omega)
      have k0 : pI h' 43 19 = m := (show pI h' 43 19 = (1 * m + 0) + 0 from z1 (43, (none, 19), ([(2, 1)], 0)) (List.mem_of_getElem? (i := 0) rfl)).trans (by omega)
      have k1 : pI h' 43 18 = tx := (show pI h' 43 18 = (1 * tx + 0) + 0 from z1 (43, (none, 18), ([(1, 1)], 0)) (List.mem_of_getElem? (i := 1) rfl)).trans (by omega)
      obtain ⟨r_, rfl, hv⟩ := ansI p1 (z2 (0, ([(2, 1)], 0)) (List.mem_of_getElem? (i := 0) rfl))
      have s0 : r_.toInt = m := (show r_.toInt = (1 * m + 0) + 0 from hv).trans (by omega)
      exact hR0 h' u0 r_ hi' hm g0 j0 k0 k1 s0
    cases he
def keH0_L : List sT := [.inr (.inl 0)]
def keH0_A : sAs := ([], [], [], [])
def keH0_P : List sP0 := [(0, (none, 82), (0, 1))]
def keH0_G : List sP0 := []
def keH0_B : List (Nat × Nat × Int) := []
def keH0_m : sM := [(0, 2, 3)]
def keH0_e0 : sXe := (20, [.inl sf32, .inr (.inl 42), .inr (.inl 0)], [(0, .inr (.inl 0))], sA0, [], ([(0, (none, 2), ([], 0))], [(0, ([], 0))], [], []), [(([(0, 1)], 0), ([], 0))], [])
def keH0_r0 : sXr := (some (.inl sf32), sA0, [], ([(0, (none, 2), ([], 0))], [(0, ([], (-1)))], [], [([(0, 1)], 0), ([(0, (-1))], 0)]), [], [])
theorem keH0_b : syfB swM sT0 keH0_m 400 0 309 keH0_L keH0_A keH0_P keH0_G keH0_B [keH0_e0] [keH0_r0] = true := by decide +kernel
theorem keH0 {l : Launch} {Γ : zG} {d : Nat} (hd : 0 ≤ d) {Kp : Option Value → zH → Prop} {h : zH} {hi_ : Int} (hi : sInv swM h) (b_hi_ : 0 ≤ hi_ ∧ hi_ ≤ 1) (p_hi_ : pI h 0 82 = hi_)
    (hE0 : ∀ (lo' : zL) (h' : zH) (y0 : Int32), sInv swM h' → sMd keH0_m h h' → hi_ ≠ 0 → pI h' 0 2 = 0 → zget lo' 0 = some (.ref 0) → y0.toInt = 0 → zX l Γ false (d + 1) (zhd 309) (zMQ' Γ false (zhd 309) Kp) 0 0 20 lo' [.int y0, .ref 42, .ref 0] h')
    (hR0 : ∀ (h' : zH) (r_ : Int32), sInv swM h' → sMd keH0_m h h' → hi_ = 0 → pI h' 0 2 = 0 → r_.toInt = (-1) → Kp (some (.int r_)) h') : zSem l Γ false (d + 1) (zhd 309) [.ref 0] h Kp := by
  refine syf_ok (mi := 309) (fun i => [hi_].getD i 0) keH0_b (fun _ _ hc _ => nomatch hc) hd ⟨_, _, rfl, rfl, rfl⟩ ⟨rfl, trivial⟩ ⟨(fun _ hc => nomatch hc), (fun _ hc => nomatch hc), (fun _ hc => nomatch hc), Or.inl rfl⟩ ⟨⟨p_hi_, by show 0 ≤ hi_; omega, by show hi_ ≤ 1; omega⟩, trivial⟩ trivial (fun _ hc => nomatch hc) hi ?_ ?_
  · intro e he lo' st' h' hp hi' hm
    rcases List.mem_cons.mp he with rfl | he
    · obtain ⟨p1, p2, -, hz⟩ := hp
      obtain ⟨⟨z1, z2, z3, z4⟩, z5, z6⟩ := hz
      have n0 : hi_ ≠ 0 := fun e_ => z5 (([(0, 1)], 0), ([], 0)) (List.mem_of_getElem? (i := 0) rfl) (by show (1 * hi_ + 0) + 0 = 0 + 0; omega)
      have k0 : pI h' 0 2 = 0 := (show pI h' 0 2 = 0 + 0 from z1 (0, (none, 2), ([], 0)) (List.mem_of_getElem? (i := 0) rfl)).trans (by omega)
      have o0 : zget lo' 0 = some (.ref 0) := locR (p2 (0, .inr (.inl 0)) (List.mem_of_getElem? (i := 0) rfl))
      obtain ⟨_, _, rfl, ⟨y0, rfl, -⟩, p1⟩ := p1
      obtain ⟨_, _, rfl, hr, p1⟩ := p1
      have hr : _ = Value.ref 42 := hr
      subst hr
      obtain ⟨_, _, rfl, hr, p1⟩ := p1
      have hr : _ = Value.ref 0 := hr
      subst hr
      have p1 : _ = [] := p1
      subst p1
      obtain ⟨v_, ev, hv⟩ := z2 (0, ([], 0)) (List.mem_of_getElem? (i := 0) rfl)
      cases ev
      have s0 : y0.toInt = 0 := (show y0.toInt = 0 + 0 from hv).trans (by omega)
      exact hE0 lo' h' y0 hi' hm n0 k0 o0 s0
    cases he
  · intro e he r' h' hp hi' hm
    rcases List.mem_cons.mp he with rfl | he
    · obtain ⟨p1, -, hz⟩ := hp
      obtain ⟨⟨z1, z2, z3, z4⟩, z5, z6⟩ := hz
      have c0 : hi_ = 0 := by have q_ : (0 : Int) ≤ (1 * hi_ + 0) + 0 := z4 ([(0, 1)], 0) (List.mem_of_getElem? (i := 0) rfl); have q2_ : (0 : Int) ≤ ((-1) * hi_ + 0) + 0 := z4 ([(0, (-1))], 0) (List.mem_of_getElem? (i := 1) rfl); omega
      have k0 : pI h' 0 2 = 0 := (show pI h' 0 2 = 0 + 0 from z1 (0, (none, 2), ([], 0)) (List.mem_of_getElem? (i := 0) rfl)).trans (by omega)
      obtain ⟨r_, rfl, hv⟩ := ansI p1 (z2 (0, ([], (-1))) (List.mem_of_getElem? (i := 0) rfl))
      have s0 : r_.toInt = (-1) := (show r_.toInt = 0 + (-1) from hv).trans (by omega)
      exact hR0 h' r_ hi' hm c0 k0 s0
    cases he
def keH1_L : List (Nat × sT) := [(0, .inr (.inl 0))]
def keH1_S : List sT := []
def keH1_A : sAs := ([], [], [], [])
def keH1_P : List sP0 := []
def keH1_G : List sP0 := []
def keH1_B : List (Nat × Nat × Int) := []
def keH1_m : sM := []
def keH1_e0 : sXe := (25, [], [(0, .inr (.inl 0)), (1, .inl sf32)], sA0, [], ([], [], [(1, ([], 0))], []), [], [])
theorem keH1_b : syeB swM sT0 keH1_m 400 0 309 keH1_L keH1_S keH1_A keH1_P keH1_G keH1_B 23 [keH1_e0] [] = true := by decide +kernel
theorem keH1 {l : Launch} {Γ : zG} {d : Nat} (hd : 0 ≤ d) {Kp : Option Value → zH → Prop} {lo : zL} {h : zH} (hi : sInv swM h) (l0 : zget lo 0 = some (.ref 0))
    (hE0 : ∀ (lo' : zL) (h' : zH), sInv swM h' → sMd keH1_m h h' → zget lo' 0 = some (.ref 0) → zI lo' 1 0 → zX l Γ false (d + 1) (zhd 309) (zMQ' Γ false (zhd 309) Kp) 0 0 25 lo' [] h') : zX l Γ false (d + 1) (zhd 309) (zMQ' Γ false (zhd 309) Kp) 0 0 23 lo [] h := by
  refine sye_ok (mi := 309) (pc := 23) (fun i => [].getD i 0) keH1_b (fun _ _ hc _ => nomatch hc) hd ⟨l0, trivial⟩ rfl ⟨(fun _ hc => nomatch hc), (fun _ hc => nomatch hc), (fun _ hc => nomatch hc), Or.inl rfl⟩ trivial trivial (fun _ hc => nomatch hc) hi ?_ ?_
  · intro e he lo' st' h' hp hi' hm
    rcases List.mem_cons.mp he with rfl | he
    · obtain ⟨p1, p2, -, hz⟩ := hp
      obtain ⟨⟨z1, z2, z3, z4⟩, z5, z6⟩ := hz
      have o0 : zget lo' 0 = some (.ref 0) := locR (p2 (0, .inr (.inl 0)) (List.mem_of_getElem? (i := 0) rfl))
      have o1 : zI lo' 1 0 := zI_of (p2 (1, .inl sf32) (List.mem_of_getElem? (i := 1) rfl)) (z3 (1, ([], 0)) (List.mem_of_getElem? (i := 0) rfl)) (show 0 + 0 = 0 from by omega)
      have p1 : _ = [] := p1
      subst p1
      exact hE0 lo' h' hi' hm o0 o1
    cases he
  · intro e he r' h' hp hi' hm
    cases he
def keH2_L (g : Nat) : List (Nat × sT) := [(0, .inr (.inl 0)), (1, .inl ((g : Int), (g : Int)))]
def keH2_S (g : Nat) : List sT := []
def keH2_A (g : Nat) : sAs := ([], [], [], [])
def keH2_P (g : Nat) : List sP0 := [(43, (none, ((g : Nat) : Int)), sf32)]
def keH2_G (g : Nat) : List sP0 := []
def keH2_B (g : Nat) : List (Nat × Nat × Int) := []
def keH2_m (g : Nat) : sM := [(32, g, (g + 1))]
def keH2_e0 (g : Nat) : sXe := (25, [], [(0, .inr (.inl 0)), (1, .inl sf32)], sA0, [], ([(32, (none, ((g : Nat) : Int)), ([(1, 1)], 0))], [], [(1, ([], ((g : Int) + 1)))], []), [], [])
theorem keH2_b : ((List.range 8).all fun g => syeB swM sT0 (keH2_m g) 400 0 309 (keH2_L g) (keH2_S g) (keH2_A g) (keH2_P g) (keH2_G g) (keH2_B g) 25 [keH2_e0 g] []) = true := by decide +kernel
theorem keH2 {l : Launch} {Γ : zG} {d : Nat} (hd : 0 ≤ d) {Kp : Option Value → zH → Prop} {lo : zL} {h : zH} {g : Nat} (h_g : g < 8) {em : Int} (hi : sInv swM h) (b_em : (-2147483648) ≤ em ∧ em ≤ 2147483647) (l0 : zget lo 0 = some (.ref 0)) (l1 : zI lo 1 (g : Int)) (p_em : pI h 43 g = em)
    (hE0 : ∀ (lo' : zL) (h' : zH), sInv swM h' → sMd (keH2_m g) h h' → pI h' 32 g = em → zget lo' 0 = some (.ref 0) → zI lo' 1 ((g : Int) + 1) → zX l Γ false (d + 1) (zhd 309) (zMQ' Γ false (zhd 309) Kp) 0 0 25 lo' [] h') : zX l Γ false (d + 1) (zhd 309) (zMQ' Γ false (zhd 309) Kp) 0 0 25 lo [] h := by
  refine sye_ok (mi := 309) (pc := 25) (fun i => [(g : Int), em].getD i 0) (zall_r keH2_b h_g) (fun _ _ hc _ => nomatch hc) hd ⟨l0, zIm l1 (by show (g : Int) ≤ (g : Int); omega) (by show (g : Int) ≤ (g : Int); omega), trivial⟩ rfl ⟨(fun _ hc => nomatch hc), (fun _ hc => nomatch hc), (fun _ hc => nomatch hc), Or.inl rfl⟩ ⟨⟨p_em, by show (-2147483648) ≤ em; omega, by show em ≤ 2147483647; omega⟩, trivial⟩ trivial (fun _ hc => nomatch hc) hi ?_ ?_
  · intro e he lo' st' h' hp hi' hm
    rcases List.mem_cons.mp he with rfl | he
    · obtain ⟨p1, p2, -, hz⟩ := hp
      obtain ⟨⟨z1, z2, z3, z4⟩, z5, z6⟩ := hz
      have k0 : pI h' 32 g = em := (show pI h' 32 g = (1 * em + 0) + 0 from z1 (32, (none, ((g : Nat) : Int)), ([(1, 1)], 0)) (List.mem_of_getElem? (i := 0) rfl)).trans (by omega)
      have o0 : zget lo' 0 = some (.ref 0) := locR (p2 (0, .inr (.inl 0)) (List.mem_of_getElem? (i := 0) rfl))
      have o1 : zI lo' 1 ((g : Int) + 1) := zI_of (p2 (1, .inl sf32) (List.mem_of_getElem? (i := 1) rfl)) (z3 (1, ([], ((g : Int) + 1))) (List.mem_of_getElem? (i := 0) rfl)) (show 0 + ((g : Int) + 1) = ((g : Int) + 1) from by omega)
      have p1 : _ = [] := p1
      subst p1
      exact hE0 lo' h' hi' hm k0 o0 o1
    cases he
  · intro e he r' h' hp hi' hm
    cases he
def keH3_L : List (Nat × sT) := [(0, .inr (.inl 0)), (1, .inl (8, 8))]
def keH3_S : List sT := []
def keH3_A : sAs := ([], [], [], [])
def keH3_P : List sP0 := []
def keH3_G : List sP0 := []
def keH3_B : List (Nat × Nat × Int) := []
def keH3_m : sM := []
def keH3_e0 : sXe := (51, [], [(0, .inr (.inl 0)), (1, .inl sf32)], sA0, [], ([], [], [(1, ([], 0))], []), [], [])
theorem keH3_b : syeB swM sT0 keH3_m 400 0 309 keH3_L keH3_S keH3_A keH3_P keH3_G keH3_B 25 [keH3_e0] [] = true := by decide +kernel
theorem keH3 {l : Launch} {Γ : zG} {d : Nat} (hd : 0 ≤ d) {Kp : Option Value → zH → Prop} {lo : zL} {h : zH} (hi : sInv swM h) (l0 : zget lo 0 = some (.ref 0)) (l1 : zI lo 1 8)
    (hE0 : ∀ (lo' : zL) (h' : zH), sInv swM h' → sMd keH3_m h h' → zget lo' 0 = some (.ref 0) → zI lo' 1 0 → zX l Γ false (d + 1) (zhd 309) (zMQ' Γ false (zhd 309) Kp) 0 0 51 lo' [] h') : zX l Γ false (d + 1) (zhd 309) (zMQ' Γ false (zhd 309) Kp) 0 0 25 lo [] h := by
  refine sye_ok (mi := 309) (pc := 25) (fun i => [8].getD i 0) keH3_b (fun _ _ hc _ => nomatch hc) hd ⟨l0, zIm l1 (by show 8 ≤ 8; omega) (by show 8 ≤ 8; omega), trivial⟩ rfl ⟨(fun _ hc => nomatch hc), (fun _ hc => nomatch hc), (fun _ hc => nomatch hc), Or.inl rfl⟩ trivial trivial (fun _ hc => nomatch hc) hi ?_ ?_
  · intro e he lo' st' h' hp hi' hm
    rcases List.mem_cons.mp he with rfl | he
    · obtain ⟨p1, p2, -, hz⟩ := hp
      obtain ⟨⟨z1, z2, z3, z4⟩, z5, z6⟩ := hz
      have o0 : zget lo' 0 = some (.ref 0) := locR (p2 (0, .inr (.inl 0)) (List.mem_of_getElem? (i := 0) rfl))
      have o1 : zI lo' 1 0 := zI_of (p2 (1, .inl sf32) (List.mem_of_getElem? (i := 1) rfl)) (z3 (1, ([], 0)) (List.mem_of_getElem? (i := 0) rfl)) (show 0 + 0 = 0 from by omega)
      have p1 : _ = [] := p1
      subst p1
      exact hE0 lo' h' hi' hm o0 o1
    cases he
  · intro e he r' h' hp hi' hm
    cases he
def keH4_L (p : Nat) : List (Nat × sT) := [(0, .inr (.inl 0)), (1, .inl ((p : Int), (p : Int)))]
def keH4_S (p : Nat) : List sT := []
def keH4_A (p : Nat) : sAs := ([], [], [], [])
def keH4_P (p : Nat) : List sP0 := [(43, (none, (((p + 8) : Nat) : Int)), (0, 2))]
def keH4_G (p : Nat) : List sP0 := []
def keH4_B (p : Nat) : List (Nat × Nat × Int) := []
def keH4_m (p : Nat) : sM := [(34, p, (p + 1))]
def keH4_e0 (p : Nat) : sXe := (51, [], [(0, .inr (.inl 0)), (1, .inl sf32)], sA0, [], ([(34, (none, ((p : Nat) : Int)), ([(1, 1)], 0))], [], [(1, ([], ((p : Int) + 1)))], []), [], [])
theorem keH4_b : ((List.range 10).all fun p => syeB swM sT0 (keH4_m p) 400 0 309 (keH4_L p) (keH4_S p) (keH4_A p) (keH4_P p) (keH4_G p) (keH4_B p) 51 [keH4_e0 p] []) = true := by decide +kernel
theorem keH4 {l : Launch} {Γ : zG} {d : Nat} (hd : 0 ≤ d) {Kp : Option Value → zH → Prop} {lo : zL} {h : zH} {p : Nat} (h_p : p < 10) {dn : Int} (hi : sInv swM h) (b_dn : 0 ≤ dn ∧ dn ≤ 2) (l0 : zget lo 0 = some (.ref 0)) (l1 : zI lo 1 (p : Int)) (p_dn : pI h 43 (p + 8) = dn)
    (hE0 : ∀ (lo' : zL) (h' : zH), sInv swM h' → sMd (keH4_m p) h h' → pI h' 34 p = dn → zget lo' 0 = some (.ref 0) → zI lo' 1 ((p : Int) + 1) → zX l Γ false (d + 1) (zhd 309) (zMQ' Γ false (zhd 309) Kp) 0 0 51 lo' [] h') : zX l Γ false (d + 1) (zhd 309) (zMQ' Γ false (zhd 309) Kp) 0 0 51 lo [] h := by
  refine sye_ok (mi := 309) (pc := 51) (fun i => [(p : Int), dn].getD i 0) (zall_r keH4_b h_p) (fun _ _ hc _ => nomatch hc) hd ⟨l0, zIm l1 (by show (p : Int) ≤ (p : Int); omega) (by show (p : Int) ≤ (p : Int); omega), trivial⟩ rfl ⟨(fun _ hc => nomatch hc), (fun _ hc => nomatch hc), (fun _ hc => nomatch hc), Or.inl rfl⟩ ⟨⟨p_dn, by show 0 ≤ dn; omega, by show dn ≤ 2; omega⟩, trivial⟩ trivial (fun _ hc => nomatch hc) hi ?_ ?_
  · intro e he lo' st' h' hp hi' hm
    rcases List.mem_cons.mp he with rfl | he
    · obtain ⟨p1, p2, -, hz⟩ := hp
      obtain ⟨⟨z1, z2, z3, z4⟩, z5, z6⟩ := hz
      have k0 : pI h' 34 p = dn := (show pI h' 34 p = (1 * dn + 0) + 0 from z1 (34, (none, ((p : Nat) : Int)), ([(1, 1)], 0)) (List.mem_of_getElem? (i := 0) rfl)).trans (by omega)
      have o0 : zget lo' 0 = some (.ref 0) := locR (p2 (0, .inr (.inl 0)) (List.mem_of_getElem? (i := 0) rfl))
      have o1 : zI lo' 1 ((p : Int) + 1) := zI_of (p2 (1, .inl sf32) (List.mem_of_getElem? (i := 1) rfl)) (z3 (1, ([], ((p : Int) + 1))) (List.mem_of_getElem? (i := 0) rfl)) (show 0 + ((p : Int) + 1) = ((p : Int) + 1) from by omega)
      have p1 : _ = [] := p1
      subst p1
      exact hE0 lo' h' hi' hm k0 o0 o1
    cases he
  · intro e he r' h' hp hi' hm
    cases he
def keH5_L : List (Nat × sT) := [(0, .inr (.inl 0)), (1, .inl (10, 10))]
def keH5_S : List sT := []
def keH5_A : sAs := ([], [], [], [])
def keH5_P : List sP0 := [(43, (none, 18), sf32), (43, (none, 19), sf32)]
def keH5_G : List sP0 := [(0, (none, 85), sf64)]
def keH5_B : List (Nat × Nat × Int) := []
def keH5_m : sM := [(0, 65, 66), (0, 80, 81), (35, 0, 1), (36, 0, 1)]
def keH5_r0 : sXr := (some (.inl sf32), sA0, [(2, 0, ([], 65), ([], 0))], ([(0, (none, 80), ([], 0)), (36, (none, 0), ([(2, 1)], 0)), (35, (none, 0), ([(1, 1)], 0))], [(0, ([(2, 1)], 0))], [], []), [], [(4, ([(3, 1)], 0))])
theorem keH5_b : syeB swM sT0 keH5_m 400 0 309 keH5_L keH5_S keH5_A keH5_P keH5_G keH5_B 51 [] [keH5_r0] = true := by decide +kernel
theorem keH5 {l : Launch} {Γ : zG} {d : Nat} (hd : 0 ≤ d) {Kp : Option Value → zH → Prop} {lo : zL} {h : zH} {tx m nu : Int} (hi : sInv swM h) (b_tx : (-2147483648) ≤ tx ∧ tx ≤ 2147483647) (b_m : (-2147483648) ≤ m ∧ m ≤ 2147483647) (b_nu : (-9223372036854775808) ≤ nu ∧ nu ≤ 9223372036854775807) (l0 : zget lo 0 = some (.ref 0)) (l1 : zI lo 1 10) (p_tx : pI h 43 18 = tx) (p_m : pI h 43 19 = m) (p_nu : pL h 0 85 = nu)
    (hR0 : ∀ (h' : zH) (u0 : Int) (r_ : Int32), sInv swM h' → sMd keH5_m h h' → pL h' 0 65 = u0 → u0 = nu → pI h' 0 80 = 0 → pI h' 36 0 = m → pI h' 35 0 = tx → r_.toInt = m → Kp (some (.int r_)) h') : zX l Γ false (d + 1) (zhd 309) (zMQ' Γ false (zhd 309) Kp) 0 0 51 lo [] h := by
  refine sye_ok (mi := 309) (pc := 51) (fun i => [10, tx, m, nu].getD i 0) keH5_b (fun _ _ hc _ => nomatch hc) hd ⟨l0, zIm l1 (by show 10 ≤ 10; omega) (by show 10 ≤ 10; omega), trivial⟩ rfl ⟨(fun _ hc => nomatch hc), (fun _ hc => nomatch hc), (fun _ hc => nomatch hc), Or.inl rfl⟩ ⟨⟨p_tx, by show (-2147483648) ≤ tx; omega, by show tx ≤ 2147483647; omega⟩, ⟨p_m, by show (-2147483648) ≤ m; omega, by show m ≤ 2147483647; omega⟩, trivial⟩ ⟨⟨p_nu, by show (-9223372036854775808) ≤ nu; omega, by show nu ≤ 9223372036854775807; omega⟩, trivial⟩ (fun _ hc => nomatch hc) hi ?_ ?_
  · intro e he lo' st' h' hp hi' hm
    cases he
  · intro e he r' h' hp hi' hm
    rcases List.mem_cons.mp he with rfl | he
    · obtain ⟨p1, -, hz⟩ := hp
      obtain ⟨u0, f0, hz⟩ := hz
      obtain ⟨⟨z1, z2, z3, z4⟩, z5, z6⟩ := hz
      have g0 : pL h' 0 65 = u0 := by
        rw [← (show ((0 + 65 : Int)).toNat = 65 from by omega)]
        exact f0
      have j0 : u0 = nu := (show u0 = (1 * nu + 0) + 0 from z6 (4, ([(3, 1)], 0)) (List.mem_of_getElem? (i := 0) rfl)).trans (by omega)
      have k0 : pI h' 0 80 = 0 := (show pI h' 0 80 = 0 + 0 from z1 (0, (none, 80), ([], 0)) (List.mem_of_getElem? (i := 0) rfl)).trans (by omega)
      have k1 : pI h' 36 0 = m := (show pI h' 36 0 = (1 * m + 0) + 0 from z1 (36, (none, 0), ([(2, 1)], 0)) (List.mem_of_getElem? (i := 1) rfl)).trans (by omega)
      have k2 : pI h' 35 0 = tx := (show pI h' 35 0 = (1 * tx + 0) + 0 from z1 (35, (none, 0), ([(1, 1)], 0)) (List.mem_of_getElem? (i := 2) rfl)).trans (by omega)
      obtain ⟨r_, rfl, hv⟩ := ansI p1 (z2 (0, ([(2, 1)], 0)) (List.mem_of_getElem? (i := 0) rfl))
      have s0 : r_.toInt = m := (show r_.toInt = (1 * m + 0) + 0 from hv).trans (by omega)
      exact hR0 h' u0 r_ hi' hm g0 j0 k0 k1 k2 s0
    cases he
def keM0_L : List sT := [.inr (.inl 0), .inl (0, 200)]
def keM0_A : sAs := ([], [], [], [])
def keM0_P : List sP0 := []
def keM0_G : List sP0 := []
def keM0_B : List (Nat × Nat × Int) := []
def keM0_m : sM := []
def keM0_e0 : sXe := (2, [], [(0, .inr (.inl 0)), (1, .inl sf32), (2, .inl sf32)], sA0, [], ([], [], [(1, ([(0, 1)], 0)), (2, ([], 0))], []), [], [])
theorem keM0_b : syfB swM sT0 keM0_m 400 0 264 keM0_L keM0_A keM0_P keM0_G keM0_B [keM0_e0] [] = true := by decide +kernel
theorem keM0 {l : Launch} {Γ : zG} {d : Nat} (hd : 0 ≤ d) {Kp : Option Value → zH → Prop} {h : zH} {x : Int} (hi : sInv swM h) (b_x : 0 ≤ x ∧ x ≤ 200) {x_x : Int32} (e_x : x_x.toInt = x)
    (hE0 : ∀ (lo' : zL) (h' : zH), sInv swM h' → sMd keM0_m h h' → zget lo' 0 = some (.ref 0) → zI lo' 1 x → zI lo' 2 0 → zX l Γ false (d + 1) (zhd 264) (zMQ' Γ false (zhd 264) Kp) 0 0 2 lo' [] h') : zSem l Γ false (d + 1) (zhd 264) [.ref 0, .int x_x] h Kp := by
  refine syf_ok (mi := 264) (fun i => [x].getD i 0) keM0_b (fun _ _ hc _ => nomatch hc) hd ⟨_, _, rfl, rfl, ⟨_, _, rfl, ⟨x_x, rfl, by show 0 ≤ x_x.toInt; omega, by show x_x.toInt ≤ 200; omega⟩, rfl⟩⟩ ⟨rfl, ⟨x_x, rfl, e_x, by show 0 ≤ x; omega, by show x ≤ 200; omega⟩, trivial⟩ ⟨(fun _ hc => nomatch hc), (fun _ hc => nomatch hc), (fun _ hc => nomatch hc), Or.inl rfl⟩ trivial trivial (fun _ hc => nomatch hc) hi ?_ ?_
  · intro e he lo' st' h' hp hi' hm
    rcases List.mem_cons.mp he with rfl | he
    · obtain ⟨p1, p2, -, hz⟩ := hp
      obtain ⟨⟨z1, z2, z3, z4⟩, z5, z6⟩ := hz
      have o0 : zget lo' 0 = some (.ref 0) := locR (p2 (0, .inr (.inl 0)) (List.mem_of_getElem? (i := 0) rfl))
      have o1 : zI lo' 1 x := zI_of (p2 (1, .inl sf32) (List.mem_of_getElem? (i := 1) rfl)) (z3 (1, ([(0, 1)], 0)) (List.mem_of_getElem? (i := 0) rfl)) (show (1 * x + 0) + 0 = x from by omega)
      have o2 : zI lo' 2 0 := zI_of (p2 (2, .inl sf32) (List.mem_of_getElem? (i := 2) rfl)) (z3 (2, ([], 0)) (List.mem_of_getElem? (i := 1) rfl)) (show 0 + 0 = 0 from by omega)
      have p1 : _ = [] := p1
      subst p1
      exact hE0 lo' h' hi' hm o0 o1 o2
    cases he
  · intro e he r' h' hp hi' hm
    cases he
def keM1_L : List (Nat × sT) := [(0, .inr (.inl 0)), (1, .inl (0, 200)), (2, .inl (0, 200))]
def keM1_S : List sT := []
def keM1_A : sAs := ([], [], [], [])
def keM1_P : List sP0 := []
def keM1_G : List sP0 := []
def keM1_B : List (Nat × Nat × Int) := []
def keM1_m : sM := []
def keM1_e0 : sXe := (9, [.inl sf32, .inr (.inl 0)], [(0, .inr (.inl 0)), (1, .inl sf32), (2, .inl sf32)], sA0, [], ([], [(0, ([], 1))], [(1, ([(0, 1)], 0)), (2, ([(1, 1)], 0))], [([(0, 1), (1, (-1))], (-1))]), [], [])
def keM1_r0 : sXr := (none, sA0, [], ([], [], [], [([(0, (-1)), (1, 1)], 0)]), [], [])
theorem keM1_b : syeB swM sT0 keM1_m 400 0 264 keM1_L keM1_S keM1_A keM1_P keM1_G keM1_B 2 [keM1_e0] [keM1_r0] = true := by decide +kernel
theorem keM1 {l : Launch} {Γ : zG} {d : Nat} (hd : 0 ≤ d) {Kp : Option Value → zH → Prop} {lo : zL} {h : zH} {x k : Int} (hi : sInv swM h) (b_x : 0 ≤ x ∧ x ≤ 200) (b_k : 0 ≤ k ∧ k ≤ 200) (l0 : zget lo 0 = some (.ref 0)) (l1 : zI lo 1 x) (l2 : zI lo 2 k)
    (hE0 : ∀ (lo' : zL) (h' : zH) (y0 : Int32), sInv swM h' → sMd keM1_m h h' → 0 ≤ x - k - 1 → zget lo' 0 = some (.ref 0) → zI lo' 1 x → zI lo' 2 k → y0.toInt = 1 → zX l Γ false (d + 1) (zhd 264) (zMQ' Γ false (zhd 264) Kp) 0 0 9 lo' [.int y0, .ref 0] h')
    (hR0 : ∀ (h' : zH), sInv swM h' → sMd keM1_m h h' → 0 ≤ -x + k → Kp none h') : zX l Γ false (d + 1) (zhd 264) (zMQ' Γ false (zhd 264) Kp) 0 0 2 lo [] h := by
  refine sye_ok (mi := 264) (pc := 2) (fun i => [x, k].getD i 0) keM1_b (fun _ _ hc _ => nomatch hc) hd ⟨l0, zIm l1 (by show 0 ≤ x; omega) (by show x ≤ 200; omega), zIm l2 (by show 0 ≤ k; omega) (by show k ≤ 200; omega), trivial⟩ rfl ⟨(fun _ hc => nomatch hc), (fun _ hc => nomatch hc), (fun _ hc => nomatch hc), Or.inl rfl⟩ trivial trivial (fun _ hc => nomatch hc) hi ?_ ?_
  · intro e he lo' st' h' hp hi' hm
    rcases List.mem_cons.mp he with rfl | he
    · obtain ⟨p1, p2, -, hz⟩ := hp
      obtain ⟨⟨z1, z2, z3, z4⟩, z5, z6⟩ := hz
      have c0 : 0 ≤ x - k - 1 := by have q_ : (0 : Int) ≤ (1 * x + ((-1) * k + 0)) + (-1) := z4 ([(0, 1), (1, (-1))], (-1)) (List.mem_of_getElem? (i := 0) rfl); omega
      have o0 : zget lo' 0 = some (.ref 0) := locR (p2 (0, .inr (.inl 0)) (List.mem_of_getElem? (i := 0) rfl))
      have o1 : zI lo' 1 x := zI_of (p2 (1, .inl sf32) (List.mem_of_getElem? (i := 1) rfl)) (z3 (1, ([(0, 1)], 0)) (List.mem_of_getElem? (i := 0) rfl)) (show (1 * x + 0) + 0 = x from by omega)
      have o2 : zI lo' 2 k := zI_of (p2 (2, .inl sf32) (List.mem_of_getElem? (i := 2) rfl)) (z3 (2, ([(1, 1)], 0)) (List.mem_of_getElem? (i := 1) rfl)) (show (1 * k + 0) + 0 = k from by omega)
      obtain ⟨_, _, rfl, ⟨y0, rfl, -⟩, p1⟩ := p1
      obtain ⟨_, _, rfl, hr, p1⟩ := p1
      have hr : _ = Value.ref 0 := hr
      subst hr
      have p1 : _ = [] := p1
      subst p1
      obtain ⟨v_, ev, hv⟩ := z2 (0, ([], 1)) (List.mem_of_getElem? (i := 0) rfl)
      cases ev
      have s0 : y0.toInt = 1 := (show y0.toInt = 0 + 1 from hv).trans (by omega)
      exact hE0 lo' h' y0 hi' hm c0 o0 o1 o2 s0
    cases he
  · intro e he r' h' hp hi' hm
    rcases List.mem_cons.mp he with rfl | he
    · obtain ⟨p1, -, hz⟩ := hp
      obtain ⟨⟨z1, z2, z3, z4⟩, z5, z6⟩ := hz
      have c0 : 0 ≤ -x + k := by have q_ : (0 : Int) ≤ ((-1) * x + (1 * k + 0)) + 0 := z4 ([(0, (-1)), (1, 1)], 0) (List.mem_of_getElem? (i := 0) rfl); omega
      have p1 : r' = none := p1
      subst p1
      exact hR0 h' hi' hm c0
    cases he
def keM2_L : List (Nat × sT) := [(0, .inr (.inl 0)), (1, .inl (0, 200)), (2, .inl (0, 199))]
def keM2_S : List sT := []
def keM2_A : sAs := ([], [], [], [])
def keM2_P : List sP0 := []
def keM2_G : List sP0 := []
def keM2_B : List (Nat × Nat × Int) := []
def keM2_m : sM := []
def keM2_e0 : sXe := (2, [], [(0, .inr (.inl 0)), (1, .inl sf32), (2, .inl sf32)], sA0, [], ([], [], [(1, ([(0, 1)], 0)), (2, ([(1, 1)], 1))], []), [], [])
theorem keM2_b : syeB swM sT0 keM2_m 400 0 264 keM2_L keM2_S keM2_A keM2_P keM2_G keM2_B 12 [keM2_e0] [] = true := by decide +kernel
theorem keM2 {l : Launch} {Γ : zG} {d : Nat} (hd : 0 ≤ d) {Kp : Option Value → zH → Prop} {lo : zL} {h : zH} {x k : Int} (hi : sInv swM h) (b_x : 0 ≤ x ∧ x ≤ 200) (b_k : 0 ≤ k ∧ k ≤ 199) (l0 : zget lo 0 = some (.ref 0)) (l1 : zI lo 1 x) (l2 : zI lo 2 k)
    (hE0 : ∀ (lo' : zL) (h' : zH), sInv swM h' → sMd keM2_m h h' → zget lo' 0 = some (.ref 0) → zI lo' 1 x → zI lo' 2 (k + 1) → zX l Γ false (d + 1) (zhd 264) (zMQ' Γ false (zhd 264) Kp) 0 0 2 lo' [] h') : zX l Γ false (d + 1) (zhd 264) (zMQ' Γ false (zhd 264) Kp) 0 0 12 lo [] h := by
  refine sye_ok (mi := 264) (pc := 12) (fun i => [x, k].getD i 0) keM2_b (fun _ _ hc _ => nomatch hc) hd ⟨l0, zIm l1 (by show 0 ≤ x; omega) (by show x ≤ 200; omega), zIm l2 (by show 0 ≤ k; omega) (by show k ≤ 199; omega), trivial⟩ rfl ⟨(fun _ hc => nomatch hc), (fun _ hc => nomatch hc), (fun _ hc => nomatch hc), Or.inl rfl⟩ trivial trivial (fun _ hc => nomatch hc) hi ?_ ?_
  · intro e he lo' st' h' hp hi' hm
    rcases List.mem_cons.mp he with rfl | he
    · obtain ⟨p1, p2, -, hz⟩ := hp
      obtain ⟨⟨z1, z2, z3, z4⟩, z5, z6⟩ := hz
      have o0 : zget lo' 0 = some (.ref 0) := locR (p2 (0, .inr (.inl 0)) (List.mem_of_getElem? (i := 0) rfl))
      have o1 : zI lo' 1 x := zI_of (p2 (1, .inl sf32) (List.mem_of_getElem? (i := 1) rfl)) (z3 (1, ([(0, 1)], 0)) (List.mem_of_getElem? (i := 0) rfl)) (show (1 * x + 0) + 0 = x from by omega)
      have o2 : zI lo' 2 (k + 1) := zI_of (p2 (2, .inl sf32) (List.mem_of_getElem? (i := 2) rfl)) (z3 (2, ([(1, 1)], 1)) (List.mem_of_getElem? (i := 1) rfl)) (show (1 * k + 0) + 1 = k + 1 from by omega)
      have p1 : _ = [] := p1
      subst p1
      exact hE0 lo' h' hi' hm o0 o1 o2
    cases he
  · intro e he r' h' hp hi' hm
    cases he
