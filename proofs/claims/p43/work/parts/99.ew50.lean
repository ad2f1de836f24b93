def kqW_L : List sT := [.inr (.inl 0)]
def kqW_A : sAs := ([], [], [], [])
def kqW_P : List sP0 := [(43, (none, 3), (0, 255))]
def kqW_G : List sP0 := []
def kqW_B : List (Nat × Nat × Int) := []
def kqW_m : sM := []
def kqW_r0 : sXr := (some (.inl sf32), sA0, [], ([], [(0, ([(0, 1)], 0))], [], []), [], [])
theorem kqW_b : syfB swC sT0 kqW_m 400 0 153 kqW_L kqW_A kqW_P kqW_G kqW_B [] [kqW_r0] = true := by decide +kernel
theorem kqW {l : Launch} {Γ : zG} {d : Nat} (hd : 0 ≤ d) {Kp : Option Value → zH → Prop} {h : zH} {wv : Int} (hi : sInv swC h) (b_wv : 0 ≤ wv ∧ wv ≤ 255) (p_wv : pI h 43 3 = wv)
    (hR0 : ∀ (h' : zH) (r_ : Int32), sInv swC h' → sMd kqW_m h h' → r_.toInt = wv → Kp (some (.int r_)) h') : zSem l Γ false (d + 1) (zhd 153) [.ref 0] h Kp := by
  refine syf_ok (mi := 153) (fun i => [wv].getD i 0) kqW_b (fun _ _ hc _ => nomatch hc) hd ⟨_, _, rfl, rfl, rfl⟩ ⟨rfl, trivial⟩ ⟨(fun _ hc => nomatch hc), (fun _ hc => nomatch hc), (fun _ hc => nomatch hc), Or.inl rfl⟩ ⟨⟨p_wv, by show 0 ≤ wv; omega, by show wv ≤ 255; omega⟩, trivial⟩ trivial (fun _ hc => nomatch hc) hi ?_ ?_
  · intro e he lo' st' h' hp hi' hm
    cases he
  · intro e he r' h' hp hi' hm
    rcases List.mem_cons.mp he with rfl | he
    · obtain ⟨p1, -, hz⟩ := hp
      obtain ⟨⟨z1, z2, z3, z4⟩, z5, z6⟩ := hz
      obtain ⟨r_, rfl, hv⟩ := ansI p1 (z2 (0, ([(0, 1)], 0)) (List.mem_of_getElem? (i := 0) rfl))
      have s0 : r_.toInt = wv := (show r_.toInt = (1 * wv + 0) + 0 from hv).trans (by omega)
      exact hR0 h' r_ hi' hm s0
    cases he
def krW0_L : List sT := [.inr (.inl 0)]
def krW0_A : sAs := ([], [], [], [])
def krW0_P : List sP0 := []
def krW0_G : List sP0 := []
def krW0_B : List (Nat × Nat × Int) := []
def krW0_m : sM := [(0, 2, 3)]
def krW0_e0 : sXe := (9, [], [(0, .inr (.inl 0)), (1, .inl sf32), (2, .inl sf32)], sA0, [], ([(0, (none, 2), ([], 0))], [], [(1, ([], 0)), (2, ([], 0))], []), [], [])
theorem krW0_b : syfB swM sT0 krW0_m 400 0 291 krW0_L krW0_A krW0_P krW0_G krW0_B [krW0_e0] [] = true := by decide +kernel
theorem krW0 {l : Launch} {Γ : zG} {d : Nat} (hd : 0 ≤ d) {Kp : Option Value → zH → Prop} {h : zH} (hi : sInv swM h) 
    (hE0 : ∀ (lo' : zL) (h' : zH), sInv swM h' → sMd krW0_m h h' → pI h' 0 2 = 0 → zget lo' 0 = some (.ref 0) → zI lo' 1 0 → zI lo' 2 0 → zX l Γ false (d + 1) (zhd 291) (zMQ' Γ false (zhd 291) Kp) 0 0 9 lo' [] h') : zSem l Γ false (d + 1) (zhd 291) [.ref 0] h Kp := by
  refine syf_ok (mi := 291) (fun i => [].getD i 0) krW0_b (fun _ _ hc _ => nomatch hc) hd ⟨_, _, rfl, rfl, rfl⟩ ⟨rfl, trivial⟩ ⟨(fun _ hc => nomatch hc), (fun _ hc => nomatch hc), (fun _ hc => nomatch hc), Or.inl rfl⟩ trivial trivial (fun _ hc => nomatch hc) hi ?_ ?_
  · intro e he lo' st' h' hp hi' hm
    rcases List.mem_cons.mp he with rfl | he
    · obtain ⟨p1, p2, -, hz⟩ := hp
      obtain ⟨⟨z1, z2, z3, z4⟩, z5, z6⟩ := hz
      have k0 : pI h' 0 2 = 0 := (show pI h' 0 2 = 0 + 0 from z1 (0, (none, 2), ([], 0)) (List.mem_of_getElem? (i := 0) rfl)).trans (by omega)
      have o0 : zget lo' 0 = some (.ref 0) := locR (p2 (0, .inr (.inl 0)) (List.mem_of_getElem? (i := 0) rfl))
      have o1 : zI lo' 1 0 := zI_of (p2 (1, .inl sf32) (List.mem_of_getElem? (i := 1) rfl)) (z3 (1, ([], 0)) (List.mem_of_getElem? (i := 0) rfl)) (show 0 + 0 = 0 from by omega)
      have o2 : zI lo' 2 0 := zI_of (p2 (2, .inl sf32) (List.mem_of_getElem? (i := 2) rfl)) (z3 (2, ([], 0)) (List.mem_of_getElem? (i := 1) rfl)) (show 0 + 0 = 0 from by omega)
      have p1 : _ = [] := p1
      subst p1
      exact hE0 lo' h' hi' hm k0 o0 o1 o2
    cases he
  · intro e he r' h' hp hi' hm
    cases he
def krW1_L (g : Nat) : List (Nat × sT) := [(0, .inr (.inl 0)), (1, .inl (0, 255)), (2, .inl ((g : Int), (g : Int)))]
def krW1_S (g : Nat) : List sT := []
def krW1_A (g : Nat) : sAs := ([], [], [], [])
def krW1_P (g : Nat) : List sP0 := [(0, (none, 13), (((g : Int) + 1), 8)), (31, (none, ((g : Nat) : Int)), (0, 1))]
def krW1_G (g : Nat) : List sP0 := []
def krW1_B (g : Nat) : List (Nat × Nat × Int) := []
def krW1_m (g : Nat) : sM := []
def krW1_e0 (g : Nat) : sXe := (9, [], [(0, .inr (.inl 0)), (1, .inl sf32), (2, .inl sf32)], sA0, [(0, 0, ([(0, 1)], 0), ([], 0))], ([], [], [(1, ([(4, 1)], 0)), (2, ([], ((g : Int) + 1)))], [([(3, 1)], 0), ([(3, (-1))], 0)]), [], [])
def krW1_e1 (g : Nat) : sXe := (9, [], [(0, .inr (.inl 0)), (1, .inl sf32), (2, .inl sf32)], sA0, [(0, 3, ([], 1), ([], (g : Int))), (0, 0, ([(0, 1)], 0), ([(4, 1)], 0))], ([], [], [(1, ([(5, 1)], 0)), (2, ([], ((g : Int) + 1)))], []), [(([(3, 1)], 0), ([], 0))], [])
theorem krW1_b : ((List.range 8).all fun g => syeB swM sT0 (krW1_m g) 400 0 291 (krW1_L g) (krW1_S g) (krW1_A g) (krW1_P g) (krW1_G g) (krW1_B g) 9 [krW1_e0 g, krW1_e1 g] []) = true := by decide +kernel
theorem krW1 {l : Launch} {Γ : zG} {d : Nat} (hd : 0 ≤ d) {Kp : Option Value → zH → Prop} {lo : zL} {h : zH} {g : Nat} (h_g : g < 8) {ac n wv : Int} (hi : sInv swM h) (b_ac : 0 ≤ ac ∧ ac ≤ 255) (b_n : ((g : Int) + 1) ≤ n ∧ n ≤ 8) (b_wv : 0 ≤ wv ∧ wv ≤ 1) (l0 : zget lo 0 = some (.ref 0)) (l1 : zI lo 1 ac) (l2 : zI lo 2 (g : Int)) (p_n : pI h 0 13 = n) (p_wv : pI h 31 g = wv)
    (hE0 : ∀ (lo' : zL) (h' : zH) (w0 : Int), sInv swM h' → sMd (krW1_m g) h h' → w0 = sgfn 0 ac 0 → wv = 0 → zget lo' 0 = some (.ref 0) → zI lo' 1 w0 → zI lo' 2 ((g : Int) + 1) → zX l Γ false (d + 1) (zhd 291) (zMQ' Γ false (zhd 291) Kp) 0 0 9 lo' [] h')
    (hE1 : ∀ (lo' : zL) (h' : zH) (w0 w1 : Int), sInv swM h' → sMd (krW1_m g) h h' → w0 = sgfn 3 1 (g : Int) → w1 = sgfn 0 ac w0 → wv ≠ 0 → zget lo' 0 = some (.ref 0) → zI lo' 1 w1 → zI lo' 2 ((g : Int) + 1) → zX l Γ false (d + 1) (zhd 291) (zMQ' Γ false (zhd 291) Kp) 0 0 9 lo' [] h') : zX l Γ false (d + 1) (zhd 291) (zMQ' Γ false (zhd 291) Kp) 0 0 9 lo [] h := by
  refine sye_ok (mi := 291) (pc := 9) (fun i => [ac, (g : Int), n, wv].getD i 0) (zall_r krW1_b h_g) (fun _ _ hc _ => nomatch hc) hd ⟨l0, zIm l1 (by show 0 ≤ ac; omega) (by show ac ≤ 255; omega), zIm l2 (by show (g : Int) ≤ (g : Int); omega) (by show (g : Int) ≤ (g : Int); omega), trivial⟩ rfl ⟨(fun _ hc => nomatch hc), (fun _ hc => nomatch hc), (fun _ hc => nomatch hc), Or.inl rfl⟩ ⟨⟨p_n, by show ((g : Int) + 1) ≤ n; omega, by show n ≤ 8; omega⟩, ⟨p_wv, by show 0 ≤ wv; omega, by show wv ≤ 1; omega⟩, trivial⟩ trivial (fun _ hc => nomatch hc) hi ?_ ?_
  · intro e he lo' st' h' hp hi' hm
    rcases List.mem_cons.mp he with rfl | he
    · obtain ⟨p1, p2, -, hz⟩ := hp
      obtain ⟨w0, f0, hz⟩ := hz
      obtain ⟨⟨z1, z2, z3, z4⟩, z5, z6⟩ := hz
      have g0 : w0 = sgfn 0 ac 0 := (show w0 = sgfn 0 ((1 * ac + 0) + 0) (0 + 0) from f0).trans (sgfn_c (by omega) (by omega))
      have c0 : wv = 0 := by have q_ : (0 : Int) ≤ (1 * wv + 0) + 0 := z4 ([(3, 1)], 0) (List.mem_of_getElem? (i := 0) rfl); have q2_ : (0 : Int) ≤ ((-1) * wv + 0) + 0 := z4 ([(3, (-1))], 0) (List.mem_of_getElem? (i := 1) rfl); omega
      have o0 : zget lo' 0 = some (.ref 0) := locR (p2 (0, .inr (.inl 0)) (List.mem_of_getElem? (i := 0) rfl))
      have o1 : zI lo' 1 w0 := zI_of (p2 (1, .inl sf32) (List.mem_of_getElem? (i := 1) rfl)) (z3 (1, ([(4, 1)], 0)) (List.mem_of_getElem? (i := 0) rfl)) (show (1 * w0 + 0) + 0 = w0 from by omega)
      have o2 : zI lo' 2 ((g : Int) + 1) := zI_of (p2 (2, .inl sf32) (List.mem_of_getElem? (i := 2) rfl)) (z3 (2, ([], ((g : Int) + 1))) (List.mem_of_getElem? (i := 1) rfl)) (show 0 + ((g : Int) + 1) = ((g : Int) + 1) from by omega)
      have p1 : _ = [] := p1
      subst p1
      exact hE0 lo' h' w0 hi' hm g0 c0 o0 o1 o2
    rcases List.mem_cons.mp he with rfl | he
    · obtain ⟨p1, p2, -, hz⟩ := hp
      obtain ⟨w0, f0, hz⟩ := hz
      obtain ⟨w1, f1, hz⟩ := hz
      obtain ⟨⟨z1, z2, z3, z4⟩, z5, z6⟩ := hz
      have g0 : w0 = sgfn 3 1 (g : Int) := (show w0 = sgfn 3 (0 + 1) (0 + (g : Int)) from f0).trans (sgfn_c (by omega) (by omega))
      have g1 : w1 = sgfn 0 ac w0 := (show w1 = sgfn 0 ((1 * ac + 0) + 0) ((1 * w0 + 0) + 0) from f1).trans (sgfn_c (by omega) (by omega))
      have n0 : wv ≠ 0 := fun e_ => z5 (([(3, 1)], 0), ([], 0)) (List.mem_of_getElem? (i := 0) rfl) (by show (1 * wv + 0) + 0 = 0 + 0; omega)
      have o0 : zget lo' 0 = some (.ref 0) := locR (p2 (0, .inr (.inl 0)) (List.mem_of_getElem? (i := 0) rfl))
      have o1 : zI lo' 1 w1 := zI_of (p2 (1, .inl sf32) (List.mem_of_getElem? (i := 1) rfl)) (z3 (1, ([(5, 1)], 0)) (List.mem_of_getElem? (i := 0) rfl)) (show (1 * w1 + 0) + 0 = w1 from by omega)
      have o2 : zI lo' 2 ((g : Int) + 1) := zI_of (p2 (2, .inl sf32) (List.mem_of_getElem? (i := 2) rfl)) (z3 (2, ([], ((g : Int) + 1))) (List.mem_of_getElem? (i := 1) rfl)) (show 0 + ((g : Int) + 1) = ((g : Int) + 1) from by omega)
      have p1 : _ = [] := p1
      subst p1
      exact hE1 lo' h' w0 w1 hi' hm g0 g1 n0 o0 o1 o2
    cases he
  · intro e he r' h' hp hi' hm
    cases he
def krW2_L (g : Nat) : List (Nat × sT) := [(0, .inr (.inl 0)), (1, .inl (0, 255)), (2, .inl ((g : Int), (g : Int)))]
def krW2_S (g : Nat) : List sT := []
def krW2_A (g : Nat) : sAs := ([], [], [], [])
def krW2_P (g : Nat) : List sP0 := [(0, (none, 13), (0, (g : Int)))]
def krW2_G (g : Nat) : List sP0 := []
def krW2_B (g : Nat) : List (Nat × Nat × Int) := []
def krW2_m (g : Nat) : sM := []
def krW2_r0 (g : Nat) : sXr := (some (.inl sf32), sA0, [], ([], [(0, ([(0, 1)], 0))], [], []), [], [])
theorem krW2_b : ((List.range 9).all fun g => syeB swM sT0 (krW2_m g) 400 0 291 (krW2_L g) (krW2_S g) (krW2_A g) (krW2_P g) (krW2_G g) (krW2_B g) 9 [] [krW2_r0 g]) = true := by decide +kernel
theorem krW2 {l : Launch} {Γ : zG} {d : Nat} (hd : 0 ≤ d) {Kp : Option Value → zH → Prop} {lo : zL} {h : zH} {g : Nat} (h_g : g < 9) {ac n : Int} (hi : sInv swM h) (b_ac : 0 ≤ ac ∧ ac ≤ 255) (b_n : 0 ≤ n ∧ n ≤ (g : Int)) (l0 : zget lo 0 = some (.ref 0)) (l1 : zI lo 1 ac) (l2 : zI lo 2 (g : Int)) (p_n : pI h 0 13 = n)
    (hR0 : ∀ (h' : zH) (r_ : Int32), sInv swM h' → sMd (krW2_m g) h h' → r_.toInt = ac → Kp (some (.int r_)) h') : zX l Γ false (d + 1) (zhd 291) (zMQ' Γ false (zhd 291) Kp) 0 0 9 lo [] h := by
  refine sye_ok (mi := 291) (pc := 9) (fun i => [ac, (g : Int), n].getD i 0) (zall_r krW2_b h_g) (fun _ _ hc _ => nomatch hc) hd ⟨l0, zIm l1 (by show 0 ≤ ac; omega) (by show ac ≤ 255; omega), zIm l2 (by show (g : Int) ≤ (g : Int); omega) (by show (g : Int) ≤ (g : Int); omega), trivial⟩ rfl ⟨(fun _ hc => nomatch hc), (fun _ hc => nomatch hc), (fun _ hc => nomatch hc), Or.inl rfl⟩ ⟨⟨p_n, by show 0 ≤ n; omega, by show n ≤ (g : Int); omega⟩, trivial⟩ trivial (fun _ hc => nomatch hc) hi ?_ ?_
  · intro e he lo' st' h' hp hi' hm
    cases he
  · intro e he r' h' hp hi' hm
    rcases List.mem_cons.mp he with rfl | he
    · obtain ⟨p1, -, hz⟩ := hp
      obtain ⟨⟨z1, z2, z3, z4⟩, z5, z6⟩ := hz
      obtain ⟨r_, rfl, hv⟩ := ansI p1 (z2 (0, ([(0, 1)], 0)) (List.mem_of_getElem? (i := 0) rfl))
      have s0 : r_.toInt = ac := (show r_.toInt = (1 * ac + 0) + 0 from hv).trans (by omega)
      exact hR0 h' r_ hi' hm s0
    cases he
def kqT0_L : List sT := [.inr (.inl 0)]
def kqT0_A : sAs := ([], [], [], [])
def kqT0_P : List sP0 := []
def kqT0_G : List sP0 := []
def kqT0_B : List (Nat × Nat × Int) := []
def kqT0_m : sM := []
def kqT0_e0 : sXe := (4, [], [(0, .inr (.inl 0)), (1, .inl sf32), (2, .inl sf32)], sA0, [], ([], [], [(1, ([], 0)), (2, ([], 0))], []), [], [])
theorem kqT0_b : syfB swC sT0 kqT0_m 400 0 157 kqT0_L kqT0_A kqT0_P kqT0_G kqT0_B [kqT0_e0] [] = true := by decide +kernel
theorem kqT0 {l : Launch} {Γ : zG} {d : Nat} (hd : 0 ≤ d) {Kp : Option Value → zH → Prop} {h : zH} (hi : sInv swC h) 
    (hE0 : ∀ (lo' : zL) (h' : zH), sInv swC h' → sMd kqT0_m h h' → zget lo' 0 = some (.ref 0) → zI lo' 1 0 → zI lo' 2 0 → zX l Γ false (d + 1) (zhd 157) (zMQ' Γ false (zhd 157) Kp) 0 0 4 lo' [] h') : zSem l Γ false (d + 1) (zhd 157) [.ref 0] h Kp := by
  refine syf_ok (mi := 157) (fun i => [].getD i 0) kqT0_b (fun _ _ hc _ => nomatch hc) hd ⟨_, _, rfl, rfl, rfl⟩ ⟨rfl, trivial⟩ ⟨(fun _ hc => nomatch hc), (fun _ hc => nomatch hc), (fun _ hc => nomatch hc), Or.inl rfl⟩ trivial trivial (fun _ hc => nomatch hc) hi ?_ ?_
  · intro e he lo' st' h' hp hi' hm
    rcases List.mem_cons.mp he with rfl | he
    · obtain ⟨p1, p2, -, hz⟩ := hp
      obtain ⟨⟨z1, z2, z3, z4⟩, z5, z6⟩ := hz
      have o0 : zget lo' 0 = some (.ref 0) := locR (p2 (0, .inr (.inl 0)) (List.mem_of_getElem? (i := 0) rfl))
      have o1 : zI lo' 1 0 := zI_of (p2 (1, .inl sf32) (List.mem_of_getElem? (i := 1) rfl)) (z3 (1, ([], 0)) (List.mem_of_getElem? (i := 0) rfl)) (show 0 + 0 = 0 from by omega)
      have o2 : zI lo' 2 0 := zI_of (p2 (2, .inl sf32) (List.mem_of_getElem? (i := 2) rfl)) (z3 (2, ([], 0)) (List.mem_of_getElem? (i := 1) rfl)) (show 0 + 0 = 0 from by omega)
      have p1 : _ = [] := p1
      subst p1
      exact hE0 lo' h' hi' hm o0 o1 o2
    cases he
  · intro e he r' h' hp hi' hm
    cases he
def kqT1_L (p : Nat) (t : Nat) : List (Nat × sT) := [(0, .inr (.inl 0)), (1, .inl (0, 1023)), (2, .inl ((p : Int), (p : Int)))]
def kqT1_S (p : Nat) (t : Nat) : List sT := []
def kqT1_A (p : Nat) (t : Nat) : sAs := ([], [(0, 5, (17 * t + 9))], [], [])
def kqT1_P (p : Nat) (t : Nat) : List sP0 := [((17 * t + 16), (none, 3), (((p : Int) + 1), 10)), (48, (none, ((p : Nat) : Int)), (0, 2))]
def kqT1_G (p : Nat) (t : Nat) : List sP0 := []
def kqT1_B (p : Nat) (t : Nat) : List (Nat × Nat × Int) := []
def kqT1_m (p : Nat) (t : Nat) : sM := []
def kqT1_e0 (p : Nat) (t : Nat) : sXe := (4, [], [(0, .inr (.inl 0)), (1, .inl sf32), (2, .inl sf32)], sA0, [(0, 3, ([], 1), ([], (p : Int))), (0, 0, ([(0, 1)], 0), ([(4, 1)], 0))], ([], [], [(1, ([(5, 1)], 0)), (2, ([], ((p : Int) + 1)))], [([(3, 1)], 0), ([(3, (-1))], 0)]), [], [])
def kqT1_e1 (p : Nat) (t : Nat) : sXe := (4, [], [(0, .inr (.inl 0)), (1, .inl sf32), (2, .inl sf32)], sA0, [], ([], [], [(1, ([(0, 1)], 0)), (2, ([], ((p : Int) + 1)))], []), [(([(3, 1)], 0), ([], 0))], [])
theorem kqT1_b : ((List.range 10).all fun p => ((List.range 2).all fun t => syeB swC sT0 (kqT1_m p t) 400 0 157 (kqT1_L p t) (kqT1_S p t) (kqT1_A p t) (kqT1_P p t) (kqT1_G p t) (kqT1_B p t) 4 [kqT1_e0 p t, kqT1_e1 p t] [])) = true := by decide +kernel
theorem kqT1 {l : Launch} {Γ : zG} {d : Nat} (hd : 0 ≤ d) {Kp : Option Value → zH → Prop} {lo : zL} {h : zH} {p : Nat} (h_p : p < 10) {t : Nat} (h_t : t < 2) {ac n dn : Int} (hi : sInv swC h) (b_ac : 0 ≤ ac ∧ ac ≤ 1023) (b_n : ((p : Int) + 1) ≤ n ∧ n ≤ 10) (b_dn : 0 ≤ dn ∧ dn ≤ 2) (l0 : zget lo 0 = some (.ref 0)) (l1 : zI lo 1 ac) (l2 : zI lo 2 (p : Int)) (p_n : pI h (17 * t + 16) 3 = n) (p_dn : pI h 48 p = dn) (q0 : h.2.2.2 0 5 = some (17 * t + 9))
    (hE0 : ∀ (lo' : zL) (h' : zH) (w0 w1 : Int), sInv swC h' → sMd (kqT1_m p t) h h' → w0 = sgfn 3 1 (p : Int) → w1 = sgfn 0 ac w0 → dn = 0 → zget lo' 0 = some (.ref 0) → zI lo' 1 w1 → zI lo' 2 ((p : Int) + 1) → zX l Γ false (d + 1) (zhd 157) (zMQ' Γ false (zhd 157) Kp) 0 0 4 lo' [] h')
    (hE1 : ∀ (lo' : zL) (h' : zH), sInv swC h' → sMd (kqT1_m p t) h h' → dn ≠ 0 → zget lo' 0 = some (.ref 0) → zI lo' 1 ac → zI lo' 2 ((p : Int) + 1) → zX l Γ false (d + 1) (zhd 157) (zMQ' Γ false (zhd 157) Kp) 0 0 4 lo' [] h') : zX l Γ false (d + 1) (zhd 157) (zMQ' Γ false (zhd 157) Kp) 0 0 4 lo [] h := by
  refine sye_ok (mi := 157) (pc := 4) (fun i => [ac, (p : Int), n, dn].getD i 0) (zall_r (zall_r kqT1_b h_p) h_t) (fun _ _ hc _ => nomatch hc) hd ⟨l0, zIm l1 (by show 0 ≤ ac; omega) (by show ac ≤ 1023; omega), zIm l2 (by show (p : Int) ≤ (p : Int); omega) (by show (p : Int) ≤ (p : Int); omega), trivial⟩ rfl ⟨(fun _ hc => nomatch hc), (sfm q0 (fun _ hc => nomatch hc)), (fun _ hc => nomatch hc), Or.inl rfl⟩ ⟨⟨p_n, by show ((p : Int) + 1) ≤ n; omega, by show n ≤ 10; omega⟩, ⟨p_dn, by show 0 ≤ dn; omega, by show dn ≤ 2; omega⟩, trivial⟩ trivial (fun _ hc => nomatch hc) hi ?_ ?_
  · intro e he lo' st' h' hp hi' hm
    rcases List.mem_cons.mp he with rfl | he
    · obtain ⟨p1, p2, -, hz⟩ := hp
      obtain ⟨w0, f0, hz⟩ := hz
      obtain ⟨w1, f1, hz⟩ := hz
      obtain ⟨⟨z1, z2, z3, z4⟩, z5, z6⟩ := hz
      have g0 : w0 = sgfn 3 1 (p : Int) := (show w0 = sgfn 3 (0 + 1) (0 + (p : Int)) from f0).trans (sgfn_c (by omega) (by omega))
      have g1 : w1 = sgfn 0 ac w0 := (show w1 = sgfn 0 ((1 * ac + 0) + 0) ((1 * w0 + 0) + 0) from f1).trans (sgfn_c (by omega) (by omega))
      have c0 : dn = 0 := by have q_ : (0 : Int) ≤ (1 * dn + 0) + 0 := z4 ([(3, 1)], 0) (List.mem_of_getElem? (i := 0) rfl); have q2_ : (0 : Int) ≤ ((-1) * dn + 0) + 0 := z4 ([(3, (-1))], 0) (List.mem_of_getElem? (i := 1) rfl); omega
      have o0 : zget lo' 0 = some (.ref 0) := locR (p2 (0, .inr (.inl 0)) (List.mem_of_getElem? (i := 0) rfl))
      have o1 : zI lo' 1 w1 := zI_of (p2 (1, .inl sf32) (List.mem_of_getElem? (i := 1) rfl)) (z3 (1, ([(5, 1)], 0)) (List.mem_of_getElem? (i := 0) rfl)) (show (1 * w1 + 0) + 0 = w1 from by omega)
      have o2 : zI lo' 2 ((p : Int) + 1) := zI_of (p2 (2, .inl sf32) (List.mem_of_getElem? (i := 2) rfl)) (z3 (2, ([], ((p : Int) + 1))) (List.mem_of_getElem? (i := 1) rfl)) (show 0 + ((p : Int) + 1) = ((p : Int) + 1) from by omega)
      have p1 : _ = [] := p1
      subst p1
      exact hE0 lo' h' w0 w1 hi' hm g0 g1 c0 o0 o1 o2
    rcases List.mem_cons.mp he with rfl | he
    · obtain ⟨p1, p2, -, hz⟩ := hp
      obtain ⟨⟨z1, z2, z3, z4⟩, z5, z6⟩ := hz
      have n0 : dn ≠ 0 := fun e_ => z5 (([(3, 1)], 0), ([], 0)) (List.mem_of_getElem? (i := 0) rfl) (by show (1 * dn + 0) + 0 = 0 + 0; omega)
      have o0 : zget lo' 0 = some (.ref 0) := locR (p2 (0, .inr (.inl 0)) (List.mem_of_getElem? (i := 0) rfl))
      have o1 : zI lo' 1 ac := zI_of (p2 (1, .inl sf32) (List.mem_of_getElem? (i := 1) rfl)) (z3 (1, ([(0, 1)], 0)) (List.mem_of_getElem? (i := 0) rfl)) (show (1 * ac + 0) + 0 = ac from by omega)
      have o2 : zI lo' 2 ((p : Int) + 1) := zI_of (p2 (2, .inl sf32) (List.mem_of_getElem? (i := 2) rfl)) (z3 (2, ([], ((p : Int) + 1))) (List.mem_of_getElem? (i := 1) rfl)) (show 0 + ((p : Int) + 1) = ((p : Int) + 1) from by omega)
      have p1 : _ = [] := p1
      subst p1
      exact hE1 lo' h' hi' hm n0 o0 o1 o2
    cases he
  · intro e he r' h' hp hi' hm
    cases he
def kqT2_L (p : Nat) (t : Nat) : List (Nat × sT) := [(0, .inr (.inl 0)), (1, .inl (0, 1023)), (2, .inl ((p : Int), (p : Int)))]
def kqT2_S (p : Nat) (t : Nat) : List sT := []
def kqT2_A (p : Nat) (t : Nat) : sAs := ([], [(0, 5, (17 * t + 9))], [], [])
def kqT2_P (p : Nat) (t : Nat) : List sP0 := [((17 * t + 16), (none, 3), (0, (p : Int)))]
def kqT2_G (p : Nat) (t : Nat) : List sP0 := []
def kqT2_B (p : Nat) (t : Nat) : List (Nat × Nat × Int) := []
def kqT2_m (p : Nat) (t : Nat) : sM := []
def kqT2_r0 (p : Nat) (t : Nat) : sXr := (some (.inl sf32), sA0, [], ([], [(0, ([(0, 1)], 0))], [], []), [], [])
theorem kqT2_b : ((List.range 11).all fun p => ((List.range 2).all fun t => syeB swC sT0 (kqT2_m p t) 400 0 157 (kqT2_L p t) (kqT2_S p t) (kqT2_A p t) (kqT2_P p t) (kqT2_G p t) (kqT2_B p t) 4 [] [kqT2_r0 p t])) = true := by decide +kernel
theorem kqT2 {l : Launch} {Γ : zG} {d : Nat} (hd : 0 ≤ d) {Kp : Option Value → zH → Prop} {lo : zL} {h : zH} {p : Nat} (h_p : p < 11) {t : Nat} (h_t : t < 2) {ac n : Int} (hi : sInv swC h) (b_ac : 0 ≤ ac ∧ ac ≤ 1023) (b_n : 0 ≤ n ∧ n ≤ (p : Int)) (l0 : zget lo 0 = some (.ref 0)) (l1 : zI lo 1 ac) (l2 : zI lo 2 (p : Int)) (p_n : pI h (17 * t + 16) 3 = n) (q0 : h.2.2.2 0 5 = some (17 * t + 9))
    (hR0 : ∀ (h' : zH) (r_ : Int32), sInv swC h' → sMd (kqT2_m p t) h h' → r_.toInt = ac → Kp (some (.int r_)) h') : zX l Γ false (d + 1) (zhd 157) (zMQ' Γ false (zhd 157) Kp) 0 0 4 lo [] h := by
  refine sye_ok (mi := 157) (pc := 4) (fun i => [ac, (p : Int), n].getD i 0) (zall_r (zall_r kqT2_b h_p) h_t) (fun _ _ hc _ => nomatch hc) hd ⟨l0, zIm l1 (by show 0 ≤ ac; omega) (by show ac ≤ 1023; omega), zIm l2 (by show (p : Int) ≤ (p : Int); omega) (by show (p : Int) ≤ (p : Int); omega), trivial⟩ rfl ⟨(fun _ hc => nomatch hc), (sfm q0 (fun _ hc => nomatch hc)), (fun _ hc => nomatch hc), Or.inl rfl⟩ ⟨⟨p_n, by show 0 ≤ n; omega, by show n ≤ (p : Int); omega⟩, trivial⟩ trivial (fun _ hc => nomatch hc) hi ?_ ?_
  · intro e he lo' st' h' hp hi' hm
    cases he
  · intro e he r' h' hp hi' hm
    rcases List.mem_cons.mp he with rfl | he
    · obtain ⟨p1, -, hz⟩ := hp
      obtain ⟨⟨z1, z2, z3, z4⟩, z5, z6⟩ := hz
      obtain ⟨r_, rfl, hv⟩ := ansI p1 (z2 (0, ([(0, 1)], 0)) (List.mem_of_getElem? (i := 0) rfl))
      have s0 : r_.toInt = ac := (show r_.toInt = (1 * ac + 0) + 0 from hv).trans (by omega)
      exact hR0 h' r_ hi' hm s0
    cases he
def krT0_L : List sT := [.inr (.inl 0)]
def krT0_A : sAs := ([], [], [], [])
def krT0_P : List sP0 := []
def krT0_G : List sP0 := []
def krT0_B : List (Nat × Nat × Int) := []
def krT0_m : sM := [(0, 2, 3)]
def krT0_e0 : sXe := (9, [], [(0, .inr (.inl 0)), (1, .inl sf32), (2, .inl sf32)], sA0, [], ([(0, (none, 2), ([], 0))], [], [(1, ([], 0)), (2, ([], 0))], []), [], [])
theorem krT0_b : syfB swM sT0 krT0_m 400 0 292 krT0_L krT0_A krT0_P krT0_G krT0_B [krT0_e0] [] = true := by decide +kernel
theorem krT0 {l : Launch} {Γ : zG} {d : Nat} (hd : 0 ≤ d) {Kp : Option Value → zH → Prop} {h : zH} (hi : sInv swM h) 
    (hE0 : ∀ (lo' : zL) (h' : zH), sInv swM h' → sMd krT0_m h h' → pI h' 0 2 = 0 → zget lo' 0 = some (.ref 0) → zI lo' 1 0 → zI lo' 2 0 → zX l Γ false (d + 1) (zhd 292) (zMQ' Γ false (zhd 292) Kp) 0 0 9 lo' [] h') : zSem l Γ false (d + 1) (zhd 292) [.ref 0] h Kp := by
  refine syf_ok (mi := 292) (fun i => [].getD i 0) krT0_b (fun _ _ hc _ => nomatch hc) hd ⟨_, _, rfl, rfl, rfl⟩ ⟨rfl, trivial⟩ ⟨(fun _ hc => nomatch hc), (fun _ hc => nomatch hc), (fun _ hc => nomatch hc), Or.inl rfl⟩ trivial trivial (fun _ hc => nomatch hc) hi ?_ ?_
  · intro e he lo' st' h' hp hi' hm
    rcases List.mem_cons.mp he with rfl | he
    · obtain ⟨p1, p2, -, hz⟩ := hp
      obtain ⟨⟨z1, z2, z3, z4⟩, z5, z6⟩ := hz
      have k0 : pI h' 0 2 = 0 := (show pI h' 0 2 = 0 + 0 from z1 (0, (none, 2), ([], 0)) (List.mem_of_getElem? (i := 0) rfl)).trans (by omega)
      have o0 : zget lo' 0 = some (.ref 0) := locR (p2 (0, .inr (.inl 0)) (List.mem_of_getElem? (i := 0) rfl))
      have o1 : zI lo' 1 0 := zI_of (p2 (1, .inl sf32) (List.mem_of_getElem? (i := 1) rfl)) (z3 (1, ([], 0)) (List.mem_of_getElem? (i := 0) rfl)) (show 0 + 0 = 0 from by omega)
      have o2 : zI lo' 2 0 := zI_of (p2 (2, .inl sf32) (List.mem_of_getElem? (i := 2) rfl)) (z3 (2, ([], 0)) (List.mem_of_getElem? (i := 1) rfl)) (show 0 + 0 = 0 from by omega)
      have p1 : _ = [] := p1
      subst p1
      exact hE0 lo' h' hi' hm k0 o0 o1 o2
    cases he
  · intro e he r' h' hp hi' hm
    cases he
def krT1_L (p : Nat) : List (Nat × sT) := [(0, .inr (.inl 0)), (1, .inl (0, 1023)), (2, .inl ((p : Int), (p : Int)))]
def krT1_S (p : Nat) : List sT := []
def krT1_A (p : Nat) : sAs := ([], [], [], [])
def krT1_P (p : Nat) : List sP0 := [(0, (none, 15), (((p : Int) + 1), 10)), (34, (none, ((p : Nat) : Int)), (0, 2))]
def krT1_G (p : Nat) : List sP0 := []
def krT1_B (p : Nat) : List (Nat × Nat × Int) := []
def krT1_m (p : Nat) : sM := []
def krT1_e0 (p : Nat) : sXe := (9, [], [(0, .inr (.inl 0)), (1, .inl sf32), (2, .inl sf32)], sA0, [(0, 3, ([], 1), ([], (p : Int))), (0, 0, ([(0, 1)], 0), ([(4, 1)], 0))], ([], [], [(1, ([(5, 1)], 0)), (2, ([], ((p : Int) + 1)))], [([(3, 1)], 0), ([(3, (-1))], 0)]), [], [])
def krT1_e1 (p : Nat) : sXe := (9, [], [(0, .inr (.inl 0)), (1, .inl sf32), (2, .inl sf32)], sA0, [(0, 0, ([(0, 1)], 0), ([], 0))], ([], [], [(1, ([(4, 1)], 0)), (2, ([], ((p : Int) + 1)))], []), [(([(3, 1)], 0), ([], 0))], [])
theorem krT1_b : ((List.range 10).all fun p => syeB swM sT0 (krT1_m p) 400 0 292 (krT1_L p) (krT1_S p) (krT1_A p) (krT1_P p) (krT1_G p) (krT1_B p) 9 [krT1_e0 p, krT1_e1 p] []) = true := by decide +kernel
theorem krT1 {l : Launch} {Γ : zG} {d : Nat} (hd : 0 ≤ d) {Kp : Option Value → zH → Prop} {lo : zL} {h : zH} {p : Nat} (h_p : p < 10) {ac n dn : Int} (hi : sInv swM h) (b_ac : 0 ≤ ac ∧ ac ≤ 1023) (b_n : ((p : Int) + 1) ≤ n ∧ n ≤ 10) (b_dn : 0 ≤ dn ∧ dn ≤ 2) (l0 : zget lo 0 = some (.ref 0)) (l1 : zI lo 1 ac) (l2 : zI lo 2 (p : Int)) (p_n : pI h 0 15 = n) (p_dn : pI h 34 p = dn)
    (hE0 : ∀ (lo' : zL) (h' : zH) (w0 w1 : Int), sInv swM h' → sMd (krT1_m p) h h' → w0 = sgfn 3 1 (p : Int) → w1 = sgfn 0 ac w0 → dn = 0 → zget lo' 0 = some (.ref 0) → zI lo' 1 w1 → zI lo' 2 ((p : Int) + 1) → zX l Γ false (d + 1) (zhd 292) (zMQ' Γ false (zhd 292) Kp) 0 0 9 lo' [] h')
    (hE1 : ∀ (lo' : zL) (h' : zH) (w0 : Int), sInv swM h' → sMd (krT1_m p) h h' → w0 = sgfn 0 ac 0 → dn ≠ 0 → zget lo' 0 = some (.ref 0) → zI lo' 1 w0 → zI lo' 2 ((p : Int) + 1) → zX l Γ false (d + 1) (zhd 292) (zMQ' Γ false (zhd 292) Kp) 0 0 9 lo' [] h') : zX l Γ false (d + 1) (zhd 292) (zMQ' Γ false (zhd 292) Kp) 0 0 9 lo [] h := by
  refine sye_ok (mi := 292) (pc := 9) (fun i => [ac, (p : Int), n, dn].getD i 0) (zall_r krT1_b h_p) (fun _ _ hc _ => nomatch hc) hd ⟨l0, zIm l1 (by show 0 ≤ ac; omega) (by show ac ≤ 1023; omega), zIm l2 (by show (p : Int) ≤ (p : Int); omega) (by show (p : Int) ≤ (p : Int); omega), trivial⟩ rfl ⟨(fun _ hc => nomatch hc), (fun _ hc => nomatch hc), (fun _ hc => nomatch hc), Or.inl rfl⟩ ⟨⟨p_n, by show ((p : Int) + 1) ≤ n; omega, by show n ≤ 10; omega⟩, ⟨p_dn, by show 0 ≤ dn; omega, by show dn ≤ 2; omega⟩, trivial⟩ trivial (fun _ hc => nomatch hc) hi ?_ ?_
  · intro e he lo' st' h' hp hi' hm
    rcases List.mem_cons.mp he with rfl | he
    · obtain ⟨p1, p2, -, hz⟩ := hp
      obtain ⟨w0, f0, hz⟩ := hz
      obtain ⟨w1, f1, hz⟩ := hz
      obtain ⟨⟨z1, z2, z3, z4⟩, z5, z6⟩ := hz
      have g0 : w0 = sgfn 3 1 (p : Int) := (show w0 = sgfn 3 (0 + 1) (0 + (p : Int)) from f0).trans (sgfn_c (by omega) (by omega))
      have g1 : w1 = sgfn 0 ac w0 := (show w1 = sgfn 0 ((1 * ac + 0) + 0) ((1 * w0 + 0) + 0) from f1).trans (sgfn_c (by omega) (by omega))
      have c0 : dn = 0 := by have q_ : (0 : Int) ≤ (1 * dn + 0) + 0 := z4 ([(3, 1)], 0) (List.mem_of_getElem? (i := 0) rfl); have q2_ : (0 : Int) ≤ ((-1) * dn + 0) + 0 := z4 ([(3, (-1))], 0) (List.mem_of_getElem? (i := 1) rfl); omega
      have o0 : zget lo' 0 = some (.ref 0) := locR (p2 (0, .inr (.inl 0)) (List.mem_of_getElem? (i := 0) rfl))
      have o1 : zI lo' 1 w1 := zI_of (p2 (1, .inl sf32) (List.mem_of_getElem? (i := 1) rfl)) (z3 (1, ([(5, 1)], 0)) (List.mem_of_getElem? (i := 0) rfl)) (show (1 * w1 + 0) + 0 = w1 from by omega)
      have o2 : zI lo' 2 ((p : Int) + 1) := zI_of (p2 (2, .inl sf32) (List.mem_of_getElem? (i := 2) rfl)) (z3 (2, ([], ((p : Int) + 1))) (List.mem_of_getElem? (i := 1) rfl)) (show 0 + ((p : Int) + 1) = ((p : Int) + 1) from by omega)
      have p1 : _ = [] := p1
      subst p1
      exact hE0 lo' h' w0 w1 hi' hm g0 g1 c0 o0 o1 o2
    rcases List.mem_cons.mp he with rfl | he
    · obtain ⟨p1, p2, -, hz⟩ := hp
      obtain ⟨w0, f0, hz⟩ := hz
      obtain ⟨⟨z1, z2, z3, z4⟩, z5, z6⟩ := hz
      have g0 : w0 = sgfn 0 ac 0 := (show w0 = sgfn 0 ((1 * ac + 0) + 0) (0 + 0) from f0).trans (sgfn_c (by omega) (by omega))
      have n0 : dn ≠ 0 := fun e_ => z5 (([(3, 1)], 0), ([], 0)) (List.mem_of_getElem? (i := 0) rfl) (by show (1 * dn + 0) + 0 = 0 + 0; omega)
      have o0 : zget lo' 0 = some (.ref 0) := locR (p2 (0, .inr (.inl 0)) (List.mem_of_getElem? (i := 0) rfl))
      have o1 : zI lo' 1 w0 := zI_of (p2 (1, .inl sf32) (List.mem_of_getElem? (i := 1) rfl)) (z3 (1, ([(4, 1)], 0)) (List.mem_of_getElem? (i := 0) rfl)) (show (1 * w0 + 0) + 0 = w0 from by omega)
      have o2 : zI lo' 2 ((p : Int) + 1) := zI_of (p2 (2, .inl sf32) (List.mem_of_getElem? (i := 2) rfl)) (z3 (2, ([], ((p : Int) + 1))) (List.mem_of_getElem? (i := 1) rfl)) (show 0 + ((p : Int) + 1) = ((p : Int) + 1) from by omega)
      have p1 : _ = [] := p1
      subst p1
      exact hE1 lo' h' w0 hi' hm g0 n0 o0 o1 o2
    cases he
  · intro e he r' h' hp hi' hm
    cases he
def krT2_L (p : Nat) : List (Nat × sT) := [(0, .inr (.inl 0)), (1, .inl (0, 1023)), (2, .inl ((p : Int), (p : Int)))]
def krT2_S (p : Nat) : List sT := []
def krT2_A (p : Nat) : sAs := ([], [], [], [])
def krT2_P (p : Nat) : List sP0 := [(0, (none, 15), (0, (p : Int)))]
def krT2_G (p : Nat) : List sP0 := []
def krT2_B (p : Nat) : List (Nat × Nat × Int) := []
def krT2_m (p : Nat) : sM := []
def krT2_r0 (p : Nat) : sXr := (some (.inl sf32), sA0, [], ([], [(0, ([(0, 1)], 0))], [], []), [], [])
theorem krT2_b : ((List.range 11).all fun p => syeB swM sT0 (krT2_m p) 400 0 292 (krT2_L p) (krT2_S p) (krT2_A p) (krT2_P p) (krT2_G p) (krT2_B p) 9 [] [krT2_r0 p]) = true := by decide +kernel
theorem krT2 {l : Launch} {Γ : zG} {d : Nat} (hd : 0 ≤ d) {Kp : Option Value → zH → Prop} {lo : zL} {h : zH} {p : Nat} (h_p : p < 11) {ac n : Int} (hi : sInv swM h) (b_ac : 0 ≤ ac ∧ ac ≤ 1023) (b_n : 0 ≤ n ∧ n ≤ (p : Int)) (l0 : zget lo 0 = some (.ref 0)) (l1 : zI lo 1 ac) (l2 : zI lo 2 (p : Int)) (p_n : pI h 0 15 = n)
    (hR0 : ∀ (h' : zH) (r_ : Int32), sInv swM h' → sMd (krT2_m p) h h' → r_.toInt = ac → Kp (some (.int r_)) h') : zX l Γ false (d + 1) (zhd 292) (zMQ' Γ false (zhd 292) Kp) 0 0 9 lo [] h := by
  refine sye_ok (mi := 292) (pc := 9) (fun i => [ac, (p : Int), n].getD i 0) (zall_r krT2_b h_p) (fun _ _ hc _ => nomatch hc) hd ⟨l0, zIm l1 (by show 0 ≤ ac; omega) (by show ac ≤ 1023; omega), zIm l2 (by show (p : Int) ≤ (p : Int); omega) (by show (p : Int) ≤ (p : Int); omega), trivial⟩ rfl ⟨(fun _ hc => nomatch hc), (fun _ hc => nomatch hc), (fun _ hc => nomatch hc), Or.inl rfl⟩ ⟨⟨p_n, by show 0 ≤ n; omega, by show n ≤ (p : Int); omega⟩, trivial⟩ trivial (fun _ hc => nomatch hc) hi ?_ ?_
  · intro e he lo' st' h' hp hi' hm
    cases he
  · intro e he r' h' hp hi' hm
    rcases List.mem_cons.mp he with rfl | he
    · obtain ⟨p1, -, hz⟩ := hp
      obtain ⟨⟨z1, z2, z3, z4⟩, z5, z6⟩ := hz
      obtain ⟨r_, rfl, hv⟩ := ansI p1 (z2 (0, ([(0, 1)], 0)) (List.mem_of_getElem? (i := 0) rfl))
      have s0 : r_.toInt = ac := (show r_.toInt = (1 * ac + 0) + 0 from hv).trans (by omega)
      exact hR0 h' r_ hi' hm s0
    cases he
def kqP0_L (t : Nat) : List sT := [.inr (.inl 0), .inl sf32, .inl sf32]
def kqP0_A (t : Nat) : sAs := ([], [(0, 5, (17 * t + 9))], [], [])
def kqP0_P (t : Nat) : List sP0 := [((17 * t + 16), (none, 3), (0, 10))]
def kqP0_G (t : Nat) : List sP0 := []
def kqP0_B (t : Nat) : List (Nat × Nat × Int) := []
def kqP0_m (t : Nat) : sM := []
def kqP0_e0 (t : Nat) : sXe := (26, [], [(0, .inr (.inl 0)), (1, .inl sf32), (2, .inl sf32)], sA0, [], ([], [], [(1, ([(0, 1)], 0)), (2, ([(1, 1)], 0))], [([(0, 1)], 0), ([(0, (-1))], 9), ([(0, (-1)), (2, 1)], (-1))]), [], [])
def kqP0_r0 (t : Nat) : sXr := (some (.inl sf32), sA0, [], ([], [(0, ([], (-1)))], [], [([(0, (-1))], (-1))]), [], [])
def kqP0_r1 (t : Nat) : sXr := (some (.inl sf32), sA0, [], ([], [(0, ([], (-1)))], [], [([(0, 1)], 0), ([(0, 1)], (-10))]), [], [])
def kqP0_r2 (t : Nat) : sXr := (some (.inl sf32), sA0, [], ([], [(0, ([], (-1)))], [], [([(0, 1)], 0), ([(0, (-1))], 9), ([(0, 1), (2, (-1))], 0)]), [], [])
theorem kqP0_b : ((List.range 2).all fun t => syfB swC sT0 (kqP0_m t) 400 0 82 (kqP0_L t) (kqP0_A t) (kqP0_P t) (kqP0_G t) (kqP0_B t) [kqP0_e0 t] [kqP0_r0 t, kqP0_r1 t, kqP0_r2 t]) = true := by decide +kernel
theorem kqP0 {l : Launch} {Γ : zG} {d : Nat} (hd : 0 ≤ d) {Kp : Option Value → zH → Prop} {h : zH} {t : Nat} (h_t : t < 2) {x y n : Int} (hi : sInv swC h) (b_x : (-2147483648) ≤ x ∧ x ≤ 2147483647) (b_y : (-2147483648) ≤ y ∧ y ≤ 2147483647) (b_n : 0 ≤ n ∧ n ≤ 10) {x_x : Int32} (e_x : x_x.toInt = x) {x_y : Int32} (e_y : x_y.toInt = y) (p_n : pI h (17 * t + 16) 3 = n) (q0 : h.2.2.2 0 5 = some (17 * t + 9))
    (hE0 : ∀ (lo' : zL) (h' : zH), sInv swC h' → sMd (kqP0_m t) h h' → 0 ≤ x → 0 ≤ -x + 9 → 0 ≤ -x + n - 1 → zget lo' 0 = some (.ref 0) → zI lo' 1 x → zI lo' 2 y → zX l Γ false (d + 1) (zhd 82) (zMQ' Γ false (zhd 82) Kp) 0 0 26 lo' [] h')
    (hR0 : ∀ (h' : zH) (r_ : Int32), sInv swC h' → sMd (kqP0_m t) h h' → 0 ≤ -x - 1 → r_.toInt = (-1) → Kp (some (.int r_)) h')
    (hR1 : ∀ (h' : zH) (r_ : Int32), sInv swC h' → sMd (kqP0_m t) h h' → 0 ≤ x → 0 ≤ x - 10 → r_.toInt = (-1) → Kp (some (.int r_)) h')
    (hR2 : ∀ (h' : zH) (r_ : Int32), sInv swC h' → sMd (kqP0_m t) h h' → 0 ≤ x → 0 ≤ -x + 9 → 0 ≤ x - n → r_.toInt = (-1) → Kp (some (.int r_)) h') : zSem l Γ false (d + 1) (zhd 82) [.ref 0, .int x_x, .int x_y] h Kp := by
  refine syf_ok (mi := 82) (fun i => [x, y, n].getD i 0) (zall_r kqP0_b h_t) (fun _ _ hc _ => nomatch hc) hd ⟨_, _, rfl, rfl, ⟨_, _, rfl, ⟨x_x, rfl, by show (-2147483648) ≤ x_x.toInt; omega, by show x_x.toInt ≤ 2147483647; omega⟩, ⟨_, _, rfl, ⟨x_y, rfl, by show (-2147483648) ≤ x_y.toInt; omega, by show x_y.toInt ≤ 2147483647; omega⟩, rfl⟩⟩⟩ ⟨rfl, ⟨x_x, rfl, e_x, by show (-2147483648) ≤ x; omega, by show x ≤ 2147483647; omega⟩, ⟨x_y, rfl, e_y, by show (-2147483648) ≤ y; omega, by show y ≤ 2147483647; omega⟩, trivial⟩ ⟨(fun _ hc => nomatch hc), (sfm q0 (fun _ hc => nomatch hc)), (fun _ hc => nomatch hc), Or.inl rfl⟩ ⟨⟨p_n, by show 0 ≤ n; omega, by show n ≤ 10; omega⟩, trivial⟩ trivial (fun _ hc => nomatch hc) hi ?_ ?_
  · intro e he lo' st' h' hp hi' hm
    rcases List.mem_cons.mp he with rfl | he
    · obtain ⟨p1, p2, -, hz⟩ := hp
      obtain ⟨⟨z1, z2, z3, z4⟩, z5, z6⟩ := hz
      have c0 : 0 ≤ x := by have q_ : (0 : Int) ≤ (1 * x + 0) + 0 := z4 ([(0, 1)], 0) (List.mem_of_getElem? (i := 0) rfl); omega
      have c1 : 0 ≤ -x + 9 := by have q_ : (0 : Int) ≤ ((-1) * x + 0) + 9 := z4 ([(0, (-1))], 9) (List.mem_of_getElem? (i := 1) rfl); omega
      have c2 : 0 ≤ -x + n - 1 := by have q_ : (0 : Int) ≤ ((-1) * x + (1 * n + 0)) + (-1) := z4 ([(0, (-1)), (2, 1)], (-1)) (List.mem_of_getElem? (i := 2) rfl); omega
      have o0 : zget lo' 0 = some (.ref 0) := locR (p2 (0, .inr (.inl 0)) (List.mem_of_getElem? (i := 0) rfl))
      have o1 : zI lo' 1 x := zI_of (p2 (1, .inl sf32) (List.mem_of_getElem? (i := 1) rfl)) (z3 (1, ([(0, 1)], 0)) (List.mem_of_getElem? (i := 0) rfl)) (show (1 * x + 0) + 0 = x from by omega)
      have o2 : zI lo' 2 y := zI_of (p2 (2, .inl sf32) (List.mem_of_getElem? (i := 2) rfl)) (z3 (2, ([(1, 1)], 0)) (List.mem_of_getElem? (i := 1) rfl)) (show (1 * y + 0) + 0 = y from by omega)
      have p1 : _ = [] := p1
      subst p1
      exact hE0 lo' h' hi' hm c0 c1 c2 o0 o1 o2
    cases he
  · intro e he r' h' hp hi' hm
    rcases List.mem_cons.mp he with rfl | he
    · obtain ⟨p1, -, hz⟩ := hp
      obtain ⟨⟨z1, z2, z3, z4⟩, z5, z6⟩ := hz
      have c0 : 0 ≤ -x - 1 := by have q_ : (0 : Int) ≤ ((-1) * x + 0) + (-1) := z4 ([(0, (-1))], (-1)) (List.mem_of_getElem? (i := 0) rfl); omega
      obtain ⟨r_, rfl, hv⟩ := ansI p1 (z2 (0, ([], (-1))) (List.mem_of_getElem? (i := 0) rfl))
      have s0 : r_.toInt = (-1) := (show r_.toInt = 0 + (-1) from hv).trans (by omega)
      exact hR0 h' r_ hi' hm c0 s0
    rcases List.mem_cons.mp he with rfl | he
    · obtain ⟨p1, -, hz⟩ := hp
      obtain ⟨⟨z1, z2, z3, z4⟩, z5, z6⟩ := hz
      have c0 : 0 ≤ x := by have q_ : (0 : Int) ≤ (1 * x + 0) + 0 := z4 ([(0, 1)], 0) (List.mem_of_getElem? (i := 0) rfl); omega
      have c1 : 0 ≤ x - 10 := by have q_ : (0 : Int) ≤ (1 * x + 0) + (-10) := z4 ([(0, 1)], (-10)) (List.mem_of_getElem? (i := 1) rfl); omega
      obtain ⟨r_, rfl, hv⟩ := ansI p1 (z2 (0, ([], (-1))) (List.mem_of_getElem? (i := 0) rfl))
      have s0 : r_.toInt = (-1) := (show r_.toInt = 0 + (-1) from hv).trans (by omega)
      exact hR1 h' r_ hi' hm c0 c1 s0
    rcases List.mem_cons.mp he with rfl | he
    · obtain ⟨p1, -, hz⟩ := hp
      obtain ⟨⟨z1, z2, z3, z4⟩, z5, z6⟩ := hz
      have c0 : 0 ≤ x := by have q_ : (0 : Int) ≤ (1 * x + 0) + 0 := z4 ([(0, 1)], 0) (List.mem_of_getElem? (i := 0) rfl); omega
      have c1 : 0 ≤ -x + 9 := by have q_ : (0 : Int) ≤ ((-1) * x + 0) + 9 := z4 ([(0, (-1))], 9) (List.mem_of_getElem? (i := 1) rfl); omega
      have c2 : 0 ≤ x - n := by have q_ : (0 : Int) ≤ (1 * x + ((-1) * n + 0)) + 0 := z4 ([(0, 1), (2, (-1))], 0) (List.mem_of_getElem? (i := 2) rfl); omega
      obtain ⟨r_, rfl, hv⟩ := ansI p1 (z2 (0, ([], (-1))) (List.mem_of_getElem? (i := 0) rfl))
      have s0 : r_.toInt = (-1) := (show r_.toInt = 0 + (-1) from hv).trans (by omega)
      exact hR2 h' r_ hi' hm c0 c1 c2 s0
    cases he
def kqP1_L (p : Nat) (t : Nat) : List (Nat × sT) := [(0, .inr (.inl 0)), (1, .inl ((p : Int), (p : Int))), (2, .inl sf32)]
def kqP1_S (p : Nat) (t : Nat) : List sT := []
def kqP1_A (p : Nat) (t : Nat) : sAs := ([], [(0, 5, (17 * t + 9))], [], [])
def kqP1_P (p : Nat) (t : Nat) : List sP0 := [((17 * t + 17), (none, ((4 * p : Nat) : Int)), sf32), ((17 * t + 17), (none, (((4 * p + 1) : Nat) : Int)), sf32), ((17 * t + 17), (none, (((4 * p + 2) : Nat) : Int)), sf32), ((17 * t + 17), (none, (((4 * p + 3) : Nat) : Int)), sf32), (48, (none, ((p : Nat) : Int)), (0, 2)), ((17 * t + 16), (none, 3), (((p : Int) + 1), 10))]
def kqP1_G (p : Nat) (t : Nat) : List sP0 := []
def kqP1_B (p : Nat) (t : Nat) : List (Nat × Nat × Int) := []
def kqP1_m (p : Nat) (t : Nat) : sM := []
def kqP1_r0 (p : Nat) (t : Nat) : sXr := (some (.inl sf32), sA0, [], ([], [(0, ([(2, 1)], 0))], [], [([(1, 1)], 0), ([(1, (-1))], 0)]), [], [])
def kqP1_r1 (p : Nat) (t : Nat) : sXr := (some (.inl sf32), sA0, [], ([], [(0, ([(3, 1)], 0))], [], [([(1, 1)], (-1)), ([(1, (-1))], 1)]), [(([(1, 1)], 0), ([], 0))], [])
def kqP1_r2 (p : Nat) (t : Nat) : sXr := (some (.inl sf32), sA0, [], ([], [(0, ([(4, 1)], 0))], [], [([(1, 1)], (-2)), ([(1, (-1))], 2)]), [(([(1, 1)], 0), ([], 0)), (([(1, 1)], 0), ([], 1))], [])
def kqP1_r3 (p : Nat) (t : Nat) : sXr := (some (.inl sf32), sA0, [], ([], [(0, ([(5, 1)], 0))], [], [([(1, 1)], (-3)), ([(1, (-1))], 3)]), [(([(1, 1)], 0), ([], 0)), (([(1, 1)], 0), ([], 1)), (([(1, 1)], 0), ([], 2))], [])
def kqP1_r4 (p : Nat) (t : Nat) : sXr := (some (.inl sf32), sA0, [], ([], [(0, ([(6, 1)], 0))], [], [([(1, 1)], (-4)), ([(1, (-1))], 4)]), [(([(1, 1)], 0), ([], 0)), (([(1, 1)], 0), ([], 1)), (([(1, 1)], 0), ([], 2)), (([(1, 1)], 0), ([], 3))], [])
def kqP1_r5 (p : Nat) (t : Nat) : sXr := (some (.inl sf32), sA0, [], ([], [(0, ([], (-1)))], [], []), [(([(1, 1)], 0), ([], 0)), (([(1, 1)], 0), ([], 1)), (([(1, 1)], 0), ([], 2)), (([(1, 1)], 0), ([], 3)), (([(1, 1)], 0), ([], 4))], [])
theorem kqP1_b : ((List.range 10).all fun p => ((List.range 2).all fun t => syeB swC sT0 (kqP1_m p t) 400 1 82 (kqP1_L p t) (kqP1_S p t) (kqP1_A p t) (kqP1_P p t) (kqP1_G p t) (kqP1_B p t) 26 [] [kqP1_r0 p t, kqP1_r1 p t, kqP1_r2 p t, kqP1_r3 p t, kqP1_r4 p t, kqP1_r5 p t])) = true := by decide +kernel
theorem kqP1 {l : Launch} {Γ : zG} {d : Nat} (hd : 1 ≤ d) {Kp : Option Value → zH → Prop} {lo : zL} {h : zH} {p : Nat} (h_p : p < 10) {t : Nat} (h_t : t < 2) {y va vb vc vd dn n : Int} (hi : sInv swC h) (b_y : (-2147483648) ≤ y ∧ y ≤ 2147483647) (b_va : (-2147483648) ≤ va ∧ va ≤ 2147483647) (b_vb : (-2147483648) ≤ vb ∧ vb ≤ 2147483647) (b_vc : (-2147483648) ≤ vc ∧ vc ≤ 2147483647) (b_vd : (-2147483648) ≤ vd ∧ vd ≤ 2147483647) (b_dn : 0 ≤ dn ∧ dn ≤ 2) (b_n : ((p : Int) + 1) ≤ n ∧ n ≤ 10) (l0 : zget lo 0 = some (.ref 0)) (l1 : zI lo 1 (p : Int)) (l2 : zI lo 2 y) (p_va : pI h (17 * t + 17) (4 * p) = va) (p_vb : pI h (17 * t + 17) (4 * p + 1) = vb) (p_vc : pI h (17 * t + 17) (4 * p + 2) = vc) (p_vd : pI h (17 * t + 17) (4 * p + 3) = vd) (p_dn : pI h 48 p = dn) (p_n : pI h (17 * t + 16) 3 = n) (q0 : h.2.2.2 0 5 = some (17 * t + 9))
    (hR0 : ∀ (h' : zH) (r_ : Int32), sInv swC h' → sMd (kqP1_m p t) h h' → y = 0 → r_.toInt = va → Kp (some (.int r_)) h')
    (hR1 : ∀ (h' : zH) (r_ : Int32), sInv swC h' → sMd (kqP1_m p t) h h' → y = 1 → y ≠ 0 → r_.toInt = vb → Kp (some (.int r_)) h')
    (hR2 : ∀ (h' : zH) (r_ : Int32), sInv swC h' → sMd (kqP1_m p t) h h' → y = 2 → y ≠ 0 → y ≠ 1 → r_.toInt = vc → Kp (some (.int r_)) h')
    (hR3 : ∀ (h' : zH) (r_ : Int32), sInv swC h' → sMd (kqP1_m p t) h h' → y = 3 → y ≠ 0 → y ≠ 1 → y ≠ 2 → r_.toInt = vd → Kp (some (.int r_)) h')
    (hR4 : ∀ (h' : zH) (r_ : Int32), sInv swC h' → sMd (kqP1_m p t) h h' → y = 4 → y ≠ 0 → y ≠ 1 → y ≠ 2 → y ≠ 3 → r_.toInt = dn → Kp (some (.int r_)) h')
    (hR5 : ∀ (h' : zH) (r_ : Int32), sInv swC h' → sMd (kqP1_m p t) h h' → y ≠ 0 → y ≠ 1 → y ≠ 2 → y ≠ 3 → y ≠ 4 → r_.toInt = (-1) → Kp (some (.int r_)) h') : zX l Γ false (d + 1) (zhd 82) (zMQ' Γ false (zhd 82) Kp) 0 0 26 lo [] h := by
  refine sye_ok (mi := 82) (pc := 26) (fun i => [(p : Int), y, va, vb, vc, vd, dn, n].getD i 0) (zall_r (zall_r kqP1_b h_p) h_t) (fun _ _ hc _ => nomatch hc) hd ⟨l0, zIm l1 (by show (p : Int) ≤ (p : Int); omega) (by show (p : Int) ≤ (p : Int); omega), zIm l2 (by show (-2147483648) ≤ y; omega) (by show y ≤ 2147483647; omega), trivial⟩ rfl ⟨(fun _ hc => nomatch hc), (sfm q0 (fun _ hc => nomatch hc)), (fun _ hc => nomatch hc), Or.inl rfl⟩ ⟨⟨p_va, by show (-2147483648) ≤ va; omega, by show va ≤ 2147483647; omega⟩, ⟨p_vb, by show (-2147483648) ≤ vb; omega, by show vb ≤ 2147483647; omega⟩, ⟨p_vc, by show (-2147483648) ≤ vc; omega, by show vc ≤ 2147483647; omega⟩, ⟨p_vd, by show (-2147483648) ≤ vd; omega, by show vd ≤ 2147483647; omega⟩, ⟨p_dn, by show 0 ≤ dn; omega, by show dn ≤ 2; omega⟩, ⟨p_n, by show ((p : Int) + 1) ≤ n; omega, by show n ≤ 10; omega⟩, trivial⟩ trivial (fun _ hc => nomatch hc) hi ?_ ?_
  · intro e he lo' st' h' hp hi' hm
    cases he
  · intro e he r' h' hp hi' hm
    rcases List.mem_cons.mp he with rfl | he
    · obtain ⟨p1, -, hz⟩ := hp
      obtain ⟨⟨z1, z2, z3, z4⟩, z5, z6⟩ := hz
      have c0 : y = 0 := by have q_ : (0 : Int) ≤ (1 * y + 0) + 0 := z4 ([(1, 1)], 0) (List.mem_of_getElem? (i := 0) rfl); have q2_ : (0 : Int) ≤ ((-1) * y + 0) + 0 := z4 ([(1, (-1))], 0) (List.mem_of_getElem? (i := 1) rfl); omega
      obtain ⟨r_, rfl, hv⟩ := ansI p1 (z2 (0, ([(2, 1)], 0)) (List.mem_of_getElem? (i := 0) rfl))
      have s0 : r_.toInt = va := (show r_.toInt = (1 * va + 0) + 0 from hv).trans (by omega)
      exact hR0 h' r_ hi' hm c0 s0
    rcases List.mem_cons.mp he with rfl | he
    · obtain ⟨p1, -, hz⟩ := hp
      obtain ⟨⟨z1, z2, z3, z4⟩, z5, z6⟩ := hz
      have c0 : y = 1 := by have q_ : (0 : Int) ≤ (1 * y + 0) + (-1) := z4 ([(1, 1)], (-1)) (List.mem_of_getElem? (i := 0) rfl); have q2_ : (0 : Int) ≤ ((-1) * y + 0) + 1 := z4 ([(1, (-1))], 1) (List.mem_of_getElem? (i := 1) rfl); omega
      have n0 : y ≠ 0 := fun e_ => z5 (([(1, 1)], 0), ([], 0)) (List.mem_of_getElem? (i := 0) rfl) (by show (1 * y + 0) + 0 = 0 + 0; omega)
      obtain ⟨r_, rfl, hv⟩ := ansI p1 (z2 (0, ([(3, 1)], 0)) (List.mem_of_getElem? (i := 0) rfl))
      have s0 : r_.toInt = vb := (show r_.toInt = (1 * vb + 0) + 0 from hv).trans (by omega)
      exact hR1 h' r_ hi' hm c0 n0 s0
    rcases List.mem_cons.mp he with rfl | he
    · obtain ⟨p1, -, hz⟩ := hp
      obtain ⟨⟨z1, z2, z3, z4⟩, z5, z6⟩ := hz
      have c0 : y = 2 := by have q_ : (0 : Int) ≤ (1 * y + 0) + (-2) := z4 ([(1, 1)], (-2)) (List.mem_of_getElem? (i := 0) rfl); have q2_ : (0 : Int) ≤ ((-1) * y + 0) + 2 := z4 ([(1, (-1))], 2) (List.mem_of_getElem? (i := 1) rfl); omega
      have n0 : y ≠ 0 := fun e_ => z5 (([(1, 1)], 0), ([], 0)) (List.mem_of_getElem? (i := 0) rfl) (by show (1 * y + 0) + 0 = 0 + 0; omega)
      have n1 : y ≠ 1 := fun e_ => z5 (([(1, 1)], 0), ([], 1)) (List.mem_of_getElem? (i := 1) rfl) (by show (1 * y + 0) + 0 = 0 + 1; omega)
      obtain ⟨r_, rfl, hv⟩ := ansI p1 (z2 (0, ([(4, 1)], 0)) (List.mem_of_getElem? (i := 0) rfl))
      have s0 : r_.toInt = vc := (show r_.toInt = (1 * vc + 0) + 0 from hv).trans (by omega)
      exact hR2 h' r_ hi' hm c0 n0 n1 s0
    rcases List.mem_cons.mp he with rfl | he
    · obtain ⟨p1, -, hz⟩ := hp
      obtain ⟨⟨z1, z2, z3, z4⟩, z5, z6⟩ := hz
      have c0 : y = 3 := by have q_ : (0 : Int) ≤ (1 * y + 0) + (-3) := z4 ([(1, 1)], (-3)) (List.mem_of_getElem? (i := 0) rfl); have q2_ : (0 : Int) ≤ ((-1) * y + 0) + 3 := z4 ([(1, (-1))], 3) (List.mem_of_getElem? (i := 1) rfl); omega
      have n0 : y ≠ 0 := fun e_ => z5 (([(1, 1)], 0), ([], 0)) (List.mem_of_getElem? (i := 0) rfl) (by show (1 * y + 0) + 0 = 0 + 0; omega)
      have n1 : y ≠ 1 := fun e_ => z5 (([(1, 1)], 0), ([], 1)) (List.mem_of_getElem? (i := 1) rfl) (by show (1 * y + 0) + 0 = 0 + 1; omega)
      have n2 : y ≠ 2 := fun e_ => z5 (([(1, 1)], 0), ([], 2)) (List.mem_of_getElem? (i := 2) rfl) (by show (1 * y + 0) + 0 = 0 + 2; omega)
      obtain ⟨r_, rfl, hv⟩ := ansI p1 (z2 (0, ([(5, 1)], 0)) (List.mem_of_getElem? (i := 0) rfl))
      have s0 : r_.toInt = vd := (show r_.toInt = (1 * vd + 0) + 0 from hv).trans (by omega)
      exact hR3 h' r_ hi' hm c0 n0 n1 n2 s0
    rcases List.mem_cons.mp he with rfl | he
    · obtain ⟨p1, -, hz⟩ := hp
      obtain ⟨⟨z1, z2, z3, z4⟩, z5, z6⟩ := hz
      have c0 : y = 4 := by have q_ : (0 : Int) ≤ (1 * y + 0) + (-4) := z4 ([(1, 1)], (-4)) (List.mem_of_getElem? (i := 0) rfl); have q2_ : (0 : Int) ≤ ((-1) * y + 0) + 4 := z4 ([(1, (-1))], 4) (List.mem_of_getElem? (i := 1) rfl); omega
      have n0 : y ≠ 0 := fun e_ => z5 (([(1, 1)], 0), ([], 0)) (List.mem_of_getElem? (i := 0) rfl) (by show (1 * y + 0) + 0 = 0 + 0; omega)
      have n1 : y ≠ 1 := fun e_ => z5 (([(1, 1)], 0), ([], 1)) (List.mem_of_getElem? (i := 1) rfl) (by show (1 * y + 0) + 0 = 0 + 1; omega)
      have n2 : y ≠ 2 := fun e_ => z5 (([(1, 1)], 0), ([], 2)) (List.mem_of_getElem? (i := 2) rfl) (by show (1 * y + 0) + 0 = 0 + 2; omega)
      have n3 : y ≠ 3 := fun e_ => z5 (([(1, 1)], 0), ([], 3)) (List.mem_of_getElem? (i := 3) rfl) (by show (1 * y + 0) + 0 = 0 + 3; omega)
      obtain ⟨r_, rfl, hv⟩ := ansI p1 (z2 (0, ([(6, 1)], 0)) (List.mem_of_getElem? (i := 0) rfl))
      have s0 : r_.toInt = dn := (show r_.toInt = (1 * dn + 0) + 0 from hv).trans (by omega)
      exact hR4 h' r_ hi' hm c0 n0 n1 n2 n3 s0
    rcases List.mem_cons.mp he with rfl | he
    · obtain ⟨p1, -, hz⟩ := hp
      obtain ⟨⟨z1, z2, z3, z4⟩, z5, z6⟩ := hz
      have n0 : y ≠ 0 := fun e_ => z5 (([(1, 1)], 0), ([], 0)) (List.mem_of_getElem? (i := 0) rfl) (by show (1 * y + 0) + 0 = 0 + 0; omega)
      have n1 : y ≠ 1 := fun e_ => z5 (([(1, 1)], 0), ([], 1)) (List.mem_of_getElem? (i := 1) rfl) (by show (1 * y + 0) + 0 = 0 + 1; omega)
      have n2 : y ≠ 2 := fun e_ => z5 (([(1, 1)], 0), ([], 2)) (List.mem_of_getElem? (i := 2) rfl) (by show (1 * y + 0) + 0 = 0 + 2; omega)
      have n3 : y ≠ 3 := fun e_ => z5 (([(1, 1)], 0), ([], 3)) (List.mem_of_getElem? (i := 3) rfl) (by show (1 * y + 0) + 0 = 0 + 3; omega)
      have n4 : y ≠ 4 := fun e_ => z5 (([(1, 1)], 0), ([], 4)) (List.mem_of_getElem? (i := 4) rfl) (by show (1 * y + 0) + 0 = 0 + 4; omega)
      obtain ⟨r_, rfl, hv⟩ := ansI p1 (z2 (0, ([], (-1))) (List.mem_of_getElem? (i := 0) rfl))
      have s0 : r_.toInt = (-1) := (show r_.toInt = 0 + (-1) from hv).trans (by omega)
      exact hR5 h' r_ hi' hm n0 n1 n2 n3 n4 s0
    cases he
def krP0_L : List sT := [.inr (.inl 0), .inl sf32, .inl sf32]
def krP0_A : sAs := ([], [], [], [])
def krP0_P : List sP0 := [(0, (none, 15), (0, 10))]
def krP0_G : List sP0 := []
def krP0_B : List (Nat × Nat × Int) := []
def krP0_m : sM := [(0, 2, 3)]
def krP0_e0 : sXe := (15, [], [(0, .inr (.inl 0)), (1, .inl sf32), (2, .inl sf32)], sA0, [], ([(0, (none, 2), ([], 0))], [], [(1, ([(0, 1)], 0)), (2, ([(1, 1)], 0))], [([(0, 1)], 0), ([(0, (-1)), (2, 1)], (-1))]), [], [])
def krP0_r0 : sXr := (some (.inl sf32), sA0, [], ([(0, (none, 2), ([], 0))], [(0, ([], (-1)))], [], [([(0, (-1))], (-1))]), [], [])
def krP0_r1 : sXr := (some (.inl sf32), sA0, [], ([(0, (none, 2), ([], 0))], [(0, ([], (-1)))], [], [([(0, 1)], 0), ([(0, 1), (2, (-1))], 0)]), [], [])
theorem krP0_b : syfB swM sT0 krP0_m 400 1 235 krP0_L krP0_A krP0_P krP0_G krP0_B [krP0_e0] [krP0_r0, krP0_r1] = true := by decide +kernel
theorem krP0 {l : Launch} {Γ : zG} {d : Nat} (hd : 1 ≤ d) {Kp : Option Value → zH → Prop} {h : zH} {x y n : Int} (hi : sInv swM h) (b_x : (-2147483648) ≤ x ∧ x ≤ 2147483647) (b_y : (-2147483648) ≤ y ∧ y ≤ 2147483647) (b_n : 0 ≤ n ∧ n ≤ 10) {x_x : Int32} (e_x : x_x.toInt = x) {x_y : Int32} (e_y : x_y.toInt = y) (p_n : pI h 0 15 = n)
    (hE0 : ∀ (lo' : zL) (h' : zH), sInv swM h' → sMd krP0_m h h' → 0 ≤ x → 0 ≤ -x + n - 1 → pI h' 0 2 = 0 → zget lo' 0 = some (.ref 0) → zI lo' 1 x → zI lo' 2 y → zX l Γ false (d + 1) (zhd 235) (zMQ' Γ false (zhd 235) Kp) 0 0 15 lo' [] h')
    (hR0 : ∀ (h' : zH) (r_ : Int32), sInv swM h' → sMd krP0_m h h' → 0 ≤ -x - 1 → pI h' 0 2 = 0 → r_.toInt = (-1) → Kp (some (.int r_)) h')
    (hR1 : ∀ (h' : zH) (r_ : Int32), sInv swM h' → sMd krP0_m h h' → 0 ≤ x → 0 ≤ x - n → pI h' 0 2 = 0 → r_.toInt = (-1) → Kp (some (.int r_)) h') : zSem l Γ false (d + 1) (zhd 235) [.ref 0, .int x_x, .int x_y] h Kp := by
  refine syf_ok (mi := 235) (fun i => [x, y, n].getD i 0) krP0_b (fun _ _ hc _ => nomatch hc) hd ⟨_, _, rfl, rfl, ⟨_, _, rfl, ⟨x_x, rfl, by show (-2147483648) ≤ x_x.toInt; omega, by show x_x.toInt ≤ 2147483647; omega⟩, ⟨_, _, rfl, ⟨x_y, rfl, by show (-2147483648) ≤ x_y.toInt; omega, by show x_y.toInt ≤ 2147483647; omega⟩, rfl⟩⟩⟩ ⟨rfl, ⟨x_x, rfl, e_x, by show (-2147483648) ≤ x; omega, by show x ≤ 2147483647; omega⟩, ⟨x_y, rfl, e_y, by show (-2147483648) ≤ y; omega, by show y ≤ 2147483647; omega⟩, trivial⟩ ⟨(fun _ hc => nomatch hc), (fun _ hc => nomatch hc), (fun _ hc => nomatch hc), Or.inl rfl⟩ ⟨⟨p_n, by show 0 ≤ n; omega, by show n ≤ 10; omega⟩, trivial⟩ trivial (fun _ hc => nomatch hc) hi ?_ ?_
  · intro e he lo' st' h' hp hi' hm
    rcases List.mem_cons.mp he with rfl | he
    · obtain ⟨p1, p2, -, hz⟩ := hp
      obtain ⟨⟨z1, z2, z3, z4⟩, z5, z6⟩ := hz
      have c0 : 0 ≤ x := by have q_ : (0 : Int) ≤ (1 * x + 0) + 0 := z4 ([(0, 1)], 0) (List.mem_of_getElem? (i := 0) rfl); omega
      have c1 : 0 ≤ -x + n - 1 := by have q_ : (0 : Int) ≤ ((-1) * x + (1 * n + 0)) + (-1) := z4 ([(0, (-1)), (2, 1)], (-1)) (List.mem_of_getElem? (i := 1) rfl); omega
      have k0 : pI h' 0 2 = 0 := (show pI h' 0 2 = 0 + 0 from z1 (0, (none, 2), ([], 0)) (List.mem_of_getElem? (i := 0) rfl)).trans (by omega)
      have o0 : zget lo' 0 = some (.ref 0) := locR (p2 (0, .inr (.inl 0)) (List.mem_of_getElem? (i := 0) rfl))
      have o1 : zI lo' 1 x := zI_of (p2 (1, .inl sf32) (List.mem_of_getElem? (i := 1) rfl)) (z3 (1, ([(0, 1)], 0)) (List.mem_of_getElem? (i := 0) rfl)) (show (1 * x + 0) + 0 = x from by omega)
      have o2 : zI lo' 2 y := zI_of (p2 (2, .inl sf32) (List.mem_of_getElem? (i := 2) rfl)) (z3 (2, ([(1, 1)], 0)) (List.mem_of_getElem? (i := 1) rfl)) (show (1 * y + 0) + 0 = y from by omega)
      have p1 : _ = [] := p1
      subst p1
      exact hE0 lo' h' hi' hm c0 c1 k0 o0 o1 o2
    cases he
  · intro e he r' h' hp hi' hm
    rcases List.mem_cons.mp he with rfl | he
    · obtain ⟨p1, -, hz⟩ := hp
      obtain ⟨⟨z1, z2, z3, z4⟩, z5, z6⟩ := hz
      have c0 : 0 ≤ -x - 1 := by have q_ : (0 : Int) ≤ ((-1) * x + 0) + (-1) := z4 ([(0, (-1))], (-1)) (List.mem_of_getElem? (i := 0) rfl); omega
      have k0 : pI h' 0 2 = 0 := (show pI h' 0 2 = 0 + 0 from z1 (0, (none, 2), ([], 0)) (List.mem_of_getElem? (i := 0) rfl)).trans (by omega)
      obtain ⟨r_, rfl, hv⟩ := ansI p1 (z2 (0, ([], (-1))) (List.mem_of_getElem? (i := 0) rfl))
      have s0 : r_.toInt = (-1) := (show r_.toInt = 0 + (-1) from hv).trans (by omega)
      exact hR0 h' r_ hi' hm c0 k0 s0
    rcases List.mem_cons.mp he with rfl | he
    · obtain ⟨p1, -, hz⟩ := hp
      obtain ⟨⟨z1, z2, z3, z4⟩, z5, z6⟩ := hz
      have c0 : 0 ≤ x := by have q_ : (0 : Int) ≤ (1 * x + 0) + 0 := z4 ([(0, 1)], 0) (List.mem_of_getElem? (i := 0) rfl); omega
      have c1 : 0 ≤ x - n := by have q_ : (0 : Int) ≤ (1 * x + ((-1) * n + 0)) + 0 := z4 ([(0, 1), (2, (-1))], 0) (List.mem_of_getElem? (i := 1) rfl); omega
      have k0 : pI h' 0 2 = 0 := (show pI h' 0 2 = 0 + 0 from z1 (0, (none, 2), ([], 0)) (List.mem_of_getElem? (i := 0) rfl)).trans (by omega)
      obtain ⟨r_, rfl, hv⟩ := ansI p1 (z2 (0, ([], (-1))) (List.mem_of_getElem? (i := 0) rfl))
      have s0 : r_.toInt = (-1) := (show r_.toInt = 0 + (-1) from hv).trans (by omega)
      exact hR1 h' r_ hi' hm c0 c1 k0 s0
    cases he
def krP1_L (p : Nat) : List (Nat × sT) := [(0, .inr (.inl 0)), (1, .inl ((p : Int), (p : Int))), (2, .inl sf32)]
def krP1_S (p : Nat) : List sT := []
def krP1_A (p : Nat) : sAs := ([], [], [], [])
def krP1_P (p : Nat) : List sP0 := [(14, (none, ((p : Nat) : Int)), sf32), (15, (none, ((p : Nat) : Int)), sf32), (16, (none, ((p : Nat) : Int)), sf32), (17, (none, ((p : Nat) : Int)), sf32), (34, (none, ((p : Nat) : Int)), (0, 2))]
def krP1_G (p : Nat) : List sP0 := []
def krP1_B (p : Nat) : List (Nat × Nat × Int) := []
def krP1_m (p : Nat) : sM := []
def krP1_r0 (p : Nat) : sXr := (some (.inl sf32), sA0, [], ([], [(0, ([(2, 1)], 0))], [], [([(1, 1)], 0), ([(1, (-1))], 0)]), [], [])
def krP1_r1 (p : Nat) : sXr := (some (.inl sf32), sA0, [], ([], [(0, ([(3, 1)], 0))], [], [([(1, 1)], (-1)), ([(1, (-1))], 1)]), [(([(1, 1)], 0), ([], 0))], [])
def krP1_r2 (p : Nat) : sXr := (some (.inl sf32), sA0, [], ([], [(0, ([(4, 1)], 0))], [], [([(1, 1)], (-2)), ([(1, (-1))], 2)]), [(([(1, 1)], 0), ([], 0)), (([(1, 1)], 0), ([], 1))], [])
def krP1_r3 (p : Nat) : sXr := (some (.inl sf32), sA0, [], ([], [(0, ([(5, 1)], 0))], [], [([(1, 1)], (-3)), ([(1, (-1))], 3)]), [(([(1, 1)], 0), ([], 0)), (([(1, 1)], 0), ([], 1)), (([(1, 1)], 0), ([], 2))], [])
def krP1_r4 (p : Nat) : sXr := (some (.inl sf32), sA0, [], ([], [(0, ([(6, 1)], 0))], [], [([(1, 1)], (-4)), ([(1, (-1))], 4)]), [(([(1, 1)], 0), ([], 0)), (([(1, 1)], 0), ([], 1)), (([(1, 1)], 0), ([], 2)), (([(1, 1)], 0), ([], 3))], [])
def krP1_r5 (p : Nat) : sXr := (some (.inl sf32), sA0, [], ([], [(0, ([], (-1)))], [], []), [(([(1, 1)], 0), ([], 0)), (([(1, 1)], 0), ([], 1)), (([(1, 1)], 0), ([], 2)), (([(1, 1)], 0), ([], 3)), (([(1, 1)], 0), ([], 4))], [])
theorem krP1_b : ((List.range 10).all fun p => syeB swM sT0 (krP1_m p) 400 0 235 (krP1_L p) (krP1_S p) (krP1_A p) (krP1_P p) (krP1_G p) (krP1_B p) 15 [] [krP1_r0 p, krP1_r1 p, krP1_r2 p, krP1_r3 p, krP1_r4 p, krP1_r5 p]) = true := by decide +kernel
theorem krP1 {l : Launch} {Γ : zG} {d : Nat} (hd : 0 ≤ d) {Kp : Option Value → zH → Prop} {lo : zL} {h : zH} {p : Nat} (h_p : p < 10) {y va vb vc vd dn : Int} (hi : sInv swM h) (b_y : (-2147483648) ≤ y ∧ y ≤ 2147483647) (b_va : (-2147483648) ≤ va ∧ va ≤ 2147483647) (b_vb : (-2147483648) ≤ vb ∧ vb ≤ 2147483647) (b_vc : (-2147483648) ≤ vc ∧ vc ≤ 2147483647) (b_vd : (-2147483648) ≤ vd ∧ vd ≤ 2147483647) (b_dn : 0 ≤ dn ∧ dn ≤ 2) (l0 : zget lo 0 = some (.ref 0)) (l1 : zI lo 1 (p : Int)) (l2 : zI lo 2 y) (p_va : pI h 14 p = va) (p_vb : pI h 15 p = vb) (p_vc : pI h 16 p = vc) (p_vd : pI h 17 p = vd) (p_dn : pI h 34 p = dn)
    (hR0 : ∀ (h' : zH) (r_ : Int32), sInv swM h' → sMd (krP1_m p) h h' → y = 0 → r_.toInt = va → Kp (some (.int r_)) h')
    (hR1 : ∀ (h' : zH) (r_ : Int32), sInv swM h' → sMd (krP1_m p) h h' → y = 1 → y ≠ 0 → r_.toInt = vb → Kp (some (.int r_)) h')
    (hR2 : ∀ (h' : zH) (r_ : Int32), sInv swM h' → sMd (krP1_m p) h h' → y = 2 → y ≠ 0 → y ≠ 1 → r_.toInt = vc → Kp (some (.int r_)) h')
    (hR3 : ∀ (h' : zH) (r_ : Int32), sInv swM h' → sMd (krP1_m p) h h' → y = 3 → y ≠ 0 → y ≠ 1 → y ≠ 2 → r_.toInt = vd → Kp (some (.int r_)) h')
    (hR4 : ∀ (h' : zH) (r_ : Int32), sInv swM h' → sMd (krP1_m p) h h' → y = 4 → y ≠ 0 → y ≠ 1 → y ≠ 2 → y ≠ 3 → r_.toInt = dn → Kp (some (.int r_)) h')
    (hR5 : ∀ (h' : zH) (r_ : Int32), sInv swM h' → sMd (krP1_m p) h h' → y ≠ 0 → y ≠ 1 → y ≠ 2 → y ≠ 3 → y ≠ 4 → r_.toInt = (-1) → Kp (some (.int r_)) h') : zX l Γ false (d + 1) (zhd 235) (zMQ' Γ false (zhd 235) Kp) 0 0 15 lo [] h := by
  refine sye_ok (mi := 235) (pc := 15) (fun i => [(p : Int), y, va, vb, vc, vd, dn].getD i 0) (zall_r krP1_b h_p) (fun _ _ hc _ => nomatch hc) hd ⟨l0, zIm l1 (by show (p : Int) ≤ (p : Int); omega) (by show (p : Int) ≤ (p : Int); omega), zIm l2 (by show (-2147483648) ≤ y; omega) (by show y ≤ 2147483647; omega), trivial⟩ rfl ⟨(fun _ hc => nomatch hc), (fun _ hc => nomatch hc), (fun _ hc => nomatch hc), Or.inl rfl⟩ ⟨⟨p_va, by show (-2147483648) ≤ va; omega, by show va ≤ 2147483647; omega⟩, ⟨p_vb, by show (-2147483648) ≤ vb; omega, by show vb ≤ 2147483647; omega⟩, ⟨p_vc, by show (-2147483648) ≤ vc; omega, by show vc ≤ 2147483647; omega⟩, ⟨p_vd, by show (-2147483648) ≤ vd; omega, by show vd ≤ 2147483647; omega⟩, ⟨p_dn, by show 0 ≤ dn; omega, by show dn ≤ 2; omega⟩, trivial⟩ trivial (fun _ hc => nomatch hc) hi ?_ ?_
  · intro e he lo' st' h' hp hi' hm
    cases he
  · intro e he r' h' hp hi' hm
    rcases List.mem_cons.mp he with rfl | he
    · obtain ⟨p1, -, hz⟩ := hp
      obtain ⟨⟨z1, z2, z3, z4⟩, z5, z6⟩ := hz
      have c0 : y = 0 := by have q_ : (0 : Int) ≤ (1 * y + 0) + 0 := z4 ([(1, 1)], 0) (List.mem_of_getElem? (i := 0) rfl); have q2_ : (0 : Int) ≤ ((-1) * y + 0) + 0 := z4 ([(1, (-1))], 0) (List.mem_of_getElem? (i := 1) rfl); omega
      obtain ⟨r_, rfl, hv⟩ := ansI p1 (z2 (0, ([(2, 1)], 0)) (List.mem_of_getElem? (i := 0) rfl))
      have s0 : r_.toInt = va := (show r_.toInt = (1 * va + 0) + 0 from hv).trans (by omega)
      exact hR0 h' r_ hi' hm c0 s0
    rcases List.mem_cons.mp he with rfl | he
    · obtain ⟨p1, -, hz⟩ := hp
      obtain ⟨⟨z1, z2, z3, z4⟩, z5, z6⟩ := hz
      have c0 : y = 1 := by have q_ : (0 : Int) ≤ (1 * y + 0) + (-1) := z4 ([(1, 1)], (-1)) (List.mem_of_getElem? (i := 0) rfl); have q2_ : (0 : Int) ≤ ((-1) * y + 0) + 1 := z4 ([(1, (-1))], 1) (List.mem_of_getElem? (i := 1) rfl); omega
      have n0 : y ≠ 0 := fun e_ => z5 (([(1, 1)], 0), ([], 0)) (List.mem_of_getElem? (i := 0) rfl) (by show (1 * y + 0) + 0 = 0 + 0; omega)
      obtain ⟨r_, rfl, hv⟩ := ansI p1 (z2 (0, ([(3, 1)], 0)) (List.mem_of_getElem? (i := 0) rfl))
      have s0 : r_.toInt = vb := (show r_.toInt = (1 * vb + 0) + 0 from hv).trans (by omega)
      exact hR1 h' r_ hi' hm c0 n0 s0
    rcases List.mem_cons.mp he with rfl | he
    · obtain ⟨p1, -, hz⟩ := hp
      obtain ⟨⟨z1, z2, z3, z4⟩, z5, z6⟩ := hz
      have c0 : y = 2 := by have q_ : (0 : Int) ≤ (1 * y + 0) + (-2) := z4 ([(1, 1)], (-2)) (List.mem_of_getElem? (i := 0) rfl); have q2_ : (0 : Int) ≤ ((-1) * y + 0) + 2 := z4 ([(1, (-1))], 2) (List.mem_of_getElem? (i := 1) rfl); omega
      have n0 : y ≠ 0 := fun e_ => z5 (([(1, 1)], 0), ([], 0)) (List.mem_of_getElem? (i := 0) rfl) (by show (1 * y + 0) + 0 = 0 + 0; omega)
      have n1 : y ≠ 1 := fun e_ => z5 (([(1, 1)], 0), ([], 1)) (List.mem_of_getElem? (i := 1) rfl) (by show (1 * y + 0) + 0 = 0 + 1; omega)
      obtain ⟨r_, rfl, hv⟩ := ansI p1 (z2 (0, ([(4, 1)], 0)) (List.mem_of_getElem? (i := 0) rfl))
      have s0 : r_.toInt = vc := (show r_.toInt = (1 * vc + 0) + 0 from hv).trans (by omega)
      exact hR2 h' r_ hi' hm c0 n0 n1 s0
    rcases List.mem_cons.mp he with rfl | he
    · obtain ⟨p1, -, hz⟩ := hp
      obtain ⟨⟨z1, z2, z3, z4⟩, z5, z6⟩ := hz
      have c0 : y = 3 := by have q_ : (0 : Int) ≤ (1 * y + 0) + (-3) := z4 ([(1, 1)], (-3)) (List.mem_of_getElem? (i := 0) rfl); have q2_ : (0 : Int) ≤ ((-1) * y + 0) + 3 := z4 ([(1, (-1))], 3) (List.mem_of_getElem? (i := 1) rfl); omega
      have n0 : y ≠ 0 := fun e_ => z5 (([(1, 1)], 0), ([], 0)) (List.mem_of_getElem? (i := 0) rfl) (by show (1 * y + 0) + 0 = 0 + 0; omega)
      have n1 : y ≠ 1 := fun e_ => z5 (([(1, 1)], 0), ([], 1)) (List.mem_of_getElem? (i := 1) rfl) (by show (1 * y + 0) + 0 = 0 + 1; omega)
      have n2 : y ≠ 2 := fun e_ => z5 (([(1, 1)], 0), ([], 2)) (List.mem_of_getElem? (i := 2) rfl) (by show (1 * y + 0) + 0 = 0 + 2; omega)
      obtain ⟨r_, rfl, hv⟩ := ansI p1 (z2 (0, ([(5, 1)], 0)) (List.mem_of_getElem? (i := 0) rfl))
      have s0 : r_.toInt = vd := (show r_.toInt = (1 * vd + 0) + 0 from hv).trans (by omega)
      exact hR3 h' r_ hi' hm c0 n0 n1 n2 s0
    rcases List.mem_cons.mp he with rfl | he
    · obtain ⟨p1, -, hz⟩ := hp
      obtain ⟨⟨z1, z2, z3, z4⟩, z5, z6⟩ := hz
      have c0 : y = 4 := by have q_ : (0 : Int) ≤ (1 * y + 0) + (-4) := z4 ([(1, 1)], (-4)) (List.mem_of_getElem? (i := 0) rfl); have q2_ : (0 : Int) ≤ ((-1) * y + 0) + 4 := z4 ([(1, (-1))], 4) (List.mem_of_getElem? (i := 1) rfl); omega
      have n0 : y ≠ 0 := fun e_ => z5 (([(1, 1)], 0), ([], 0)) (List.mem_of_getElem? (i := 0) rfl) (by show (1 * y + 0) + 0 = 0 + 0; omega)
      have n1 : y ≠ 1 := fun e_ => z5 (([(1, 1)], 0), ([], 1)) (List.mem_of_getElem? (i := 1) rfl) (by show (1 * y + 0) + 0 = 0 + 1; omega)
      have n2 : y ≠ 2 := fun e_ => z5 (([(1, 1)], 0), ([], 2)) (List.mem_of_getElem? (i := 2) rfl) (by show (1 * y + 0) + 0 = 0 + 2; omega)
      have n3 : y ≠ 3 := fun e_ => z5 (([(1, 1)], 0), ([], 3)) (List.mem_of_getElem? (i := 3) rfl) (by show (1 * y + 0) + 0 = 0 + 3; omega)
      obtain ⟨r_, rfl, hv⟩ := ansI p1 (z2 (0, ([(6, 1)], 0)) (List.mem_of_getElem? (i := 0) rfl))
      have s0 : r_.toInt = dn := (show r_.toInt = (1 * dn + 0) + 0 from hv).trans (by omega)
      exact hR4 h' r_ hi' hm c0 n0 n1 n2 n3 s0
    rcases List.mem_cons.mp he with rfl | he
    · obtain ⟨p1, -, hz⟩ := hp
      obtain ⟨⟨z1, z2, z3, z4⟩, z5, z6⟩ := hz
      have n0 : y ≠ 0 := fun e_ => z5 (([(1, 1)], 0), ([], 0)) (List.mem_of_getElem? (i := 0) rfl) (by show (1 * y + 0) + 0 = 0 + 0; omega)
      have n1 : y ≠ 1 := fun e_ => z5 (([(1, 1)], 0), ([], 1)) (List.mem_of_getElem? (i := 1) rfl) (by show (1 * y + 0) + 0 = 0 + 1; omega)
      have n2 : y ≠ 2 := fun e_ => z5 (([(1, 1)], 0), ([], 2)) (List.mem_of_getElem? (i := 2) rfl) (by show (1 * y + 0) + 0 = 0 + 2; omega)
      have n3 : y ≠ 3 := fun e_ => z5 (([(1, 1)], 0), ([], 3)) (List.mem_of_getElem? (i := 3) rfl) (by show (1 * y + 0) + 0 = 0 + 3; omega)
      have n4 : y ≠ 4 := fun e_ => z5 (([(1, 1)], 0), ([], 4)) (List.mem_of_getElem? (i := 4) rfl) (by show (1 * y + 0) + 0 = 0 + 4; omega)
      obtain ⟨r_, rfl, hv⟩ := ansI p1 (z2 (0, ([], (-1))) (List.mem_of_getElem? (i := 0) rfl))
      have s0 : r_.toInt = (-1) := (show r_.toInt = 0 + (-1) from hv).trans (by omega)
      exact hR5 h' r_ hi' hm n0 n1 n2 n3 n4 s0
    cases he
