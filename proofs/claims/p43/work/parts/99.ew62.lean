/-! pieces: sums, SHORT ones, count -/
def ksA0_L (j : Nat) (u : Nat) : List sT := [.inr (.inl (j + 12 * u + 44))]
def ksA0_A (j : Nat) (u : Nat) : sAs := ([], [], [], [])
def ksA0_P (j : Nat) (u : Nat) : List sP0 := []
def ksA0_G (j : Nat) (u : Nat) : List sP0 := []
def ksA0_B (j : Nat) (u : Nat) : List (Nat × Nat × Int) := []
def ksA0_m (j : Nat) (u : Nat) : sM := []
def ksA0_e0 (j : Nat) (u : Nat) : sXe := (4, [], [(0, .inr (.inl (j + 12 * u + 44))), (1, .inl sf32), (2, .inl sf32)], sA0, [], ([], [], [(1, ([], 0)), (2, ([], 0))], []), [], [])
theorem ksA0_b : ((List.range 4).all fun j => ((List.range 2).all fun u => syfB swC sT0 (ksA0_m j u) 400 0 114 (ksA0_L j u) (ksA0_A j u) (ksA0_P j u) (ksA0_G j u) (ksA0_B j u) [ksA0_e0 j u] [])) = true := by decide +kernel
theorem ksA0 {l : Launch} {Γ : zG} {d : Nat} (hd : 0 ≤ d) {Kp : Option Value → zH → Prop} {h : zH} {j : Nat} (h_j : j < 4) {u : Nat} (h_u : u < 2) (hi : sInv swC h) 
    (hE0 : ∀ (lo' : zL) (h' : zH), sInv swC h' → sMd (ksA0_m j u) h h' → zget lo' 0 = some (.ref (j + 12 * u + 44)) → zI lo' 1 0 → zI lo' 2 0 → zX l Γ false (d + 1) (zhd 114) (zMQ' Γ false (zhd 114) Kp) 0 0 4 lo' [] h') : zSem l Γ false (d + 1) (zhd 114) [.ref (j + 12 * u + 44)] h Kp := by
  refine syf_ok (mi := 114) (fun i => [].getD i 0) (zall_r (zall_r ksA0_b h_j) h_u) (fun _ _ hc _ => nomatch hc) hd ⟨_, _, rfl, rfl, rfl⟩ ⟨rfl, trivial⟩ ⟨(fun _ hc => nomatch hc), (fun _ hc => nomatch hc), (fun _ hc => nomatch hc), Or.inl rfl⟩ trivial trivial (fun _ hc => nomatch hc) hi ?_ ?_
  · intro e he lo' st' h' hp hi' hm
    rcases List.mem_cons.mp he with rfl | he
    · obtain ⟨p1, p2, -, hz⟩ := hp
      obtain ⟨⟨z1, z2, z3, z4⟩, z5, z6⟩ := hz
      have o0 : zget lo' 0 = some (.ref (j + 12 * u + 44)) := locR (p2 (0, .inr (.inl (j + 12 * u + 44))) (List.mem_of_getElem? (i := 0) rfl))
      have o1 : zI lo' 1 0 := zI_of (p2 (1, .inl sf32) (List.mem_of_getElem? (i := 1) rfl)) (z3 (1, ([], 0)) (List.mem_of_getElem? (i := 0) rfl)) (show 0 + 0 = 0 from by omega)
      have o2 : zI lo' 2 0 := zI_of (p2 (2, .inl sf32) (List.mem_of_getElem? (i := 2) rfl)) (z3 (2, ([], 0)) (List.mem_of_getElem? (i := 1) rfl)) (show 0 + 0 = 0 from by omega)
      have p1 : _ = [] := p1
      subst p1
      exact hE0 lo' h' hi' hm o0 o1 o2
    cases he
  · intro e he r' h' hp hi' hm
    cases he
def ksA1_L (g : Nat) (j : Nat) (u : Nat) : List (Nat × sT) := [(0, .inr (.inl (j + 12 * u + 44))), (1, .inl (0, 1900000000)), (2, .inl ((g : Int), (g : Int)))]
def ksA1_S (g : Nat) (j : Nat) (u : Nat) : List sT := []
def ksA1_A (g : Nat) (j : Nat) (u : Nat) : sAs := ([], [], [], [])
def ksA1_P (g : Nat) (j : Nat) (u : Nat) : List sP0 := [((j + 12 * u + 44), (none, ((g : Nat) : Int)), (0, 210000000))]
def ksA1_G (g : Nat) (j : Nat) (u : Nat) : List sP0 := []
def ksA1_B (g : Nat) (j : Nat) (u : Nat) : List (Nat × Nat × Int) := []
def ksA1_m (g : Nat) (j : Nat) (u : Nat) : sM := []
def ksA1_e0 (g : Nat) (j : Nat) (u : Nat) : sXe := (4, [], [(0, .inr (.inl (j + 12 * u + 44))), (1, .inl sf32), (2, .inl sf32)], sA0, [], ([], [], [(1, ([(0, 1), (2, 1)], 0)), (2, ([], ((g : Int) + 1)))], []), [], [])
theorem ksA1_b : ((List.range 8).all fun g => ((List.range 4).all fun j => ((List.range 2).all fun u => syeB swC sT0 (ksA1_m g j u) 400 0 114 (ksA1_L g j u) (ksA1_S g j u) (ksA1_A g j u) (ksA1_P g j u) (ksA1_G g j u) (ksA1_B g j u) 4 [ksA1_e0 g j u] []))) = true := by decide +kernel
theorem ksA1 {l : Launch} {Γ : zG} {d : Nat} (hd : 0 ≤ d) {Kp : Option Value → zH → Prop} {lo : zL} {h : zH} {g : Nat} (h_g : g < 8) {j : Nat} (h_j : j < 4) {u : Nat} (h_u : u < 2) {ac v : Int} (hi : sInv swC h) (b_ac : 0 ≤ ac ∧ ac ≤ 1900000000) (b_v : 0 ≤ v ∧ v ≤ 210000000) (l0 : zget lo 0 = some (.ref (j + 12 * u + 44))) (l1 : zI lo 1 ac) (l2 : zI lo 2 (g : Int)) (p_v : pI h (j + 12 * u + 44) g = v)
    (hE0 : ∀ (lo' : zL) (h' : zH), sInv swC h' → sMd (ksA1_m g j u) h h' → zget lo' 0 = some (.ref (j + 12 * u + 44)) → zI lo' 1 (ac + v) → zI lo' 2 ((g : Int) + 1) → zX l Γ false (d + 1) (zhd 114) (zMQ' Γ false (zhd 114) Kp) 0 0 4 lo' [] h') : zX l Γ false (d + 1) (zhd 114) (zMQ' Γ false (zhd 114) Kp) 0 0 4 lo [] h := by
  refine sye_ok (mi := 114) (pc := 4) (fun i => [ac, (g : Int), v].getD i 0) (zall_r (zall_r (zall_r ksA1_b h_g) h_j) h_u) (fun _ _ hc _ => nomatch hc) hd ⟨l0, zIm l1 (by show 0 ≤ ac; omega) (by show ac ≤ 1900000000; omega), zIm l2 (by show (g : Int) ≤ (g : Int); omega) (by show (g : Int) ≤ (g : Int); omega), trivial⟩ rfl ⟨(fun _ hc => nomatch hc), (fun _ hc => nomatch hc), (fun _ hc => nomatch hc), Or.inl rfl⟩ ⟨⟨p_v, by show 0 ≤ v; omega, by show v ≤ 210000000; omega⟩, trivial⟩ trivial (fun _ hc => nomatch hc) hi ?_ ?_
  · intro e he lo' st' h' hp hi' hm
    rcases List.mem_cons.mp he with rfl | he
    · obtain ⟨p1, p2, -, hz⟩ := hp
      obtain ⟨⟨z1, z2, z3, z4⟩, z5, z6⟩ := hz
      have o0 : zget lo' 0 = some (.ref (j + 12 * u + 44)) := locR (p2 (0, .inr (.inl (j + 12 * u + 44))) (List.mem_of_getElem? (i := 0) rfl))
      have o1 : zI lo' 1 (ac + v) := zI_of (p2 (1, .inl sf32) (List.mem_of_getElem? (i := 1) rfl)) (z3 (1, ([(0, 1), (2, 1)], 0)) (List.mem_of_getElem? (i := 0) rfl)) (show (1 * ac + (1 * v + 0)) + 0 = ac + v from by omega)
      have o2 : zI lo' 2 ((g : Int) + 1) := zI_of (p2 (2, .inl sf32) (List.mem_of_getElem? (i := 2) rfl)) (z3 (2, ([], ((g : Int) + 1))) (List.mem_of_getElem? (i := 1) rfl)) (show 0 + ((g : Int) + 1) = ((g : Int) + 1) from by omega)
      have p1 : _ = [] := p1
      subst p1
      exact hE0 lo' h' hi' hm o0 o1 o2
    cases he
  · intro e he r' h' hp hi' hm
    cases he
def ksA2_L (j : Nat) (u : Nat) : List (Nat × sT) := [(0, .inr (.inl (j + 12 * u + 44))), (1, .inl (0, 1900000000)), (2, .inl (8, 8))]
def ksA2_S (j : Nat) (u : Nat) : List sT := []
def ksA2_A (j : Nat) (u : Nat) : sAs := ([], [], [], [])
def ksA2_P (j : Nat) (u : Nat) : List sP0 := []
def ksA2_G (j : Nat) (u : Nat) : List sP0 := []
def ksA2_B (j : Nat) (u : Nat) : List (Nat × Nat × Int) := []
def ksA2_m (j : Nat) (u : Nat) : sM := []
def ksA2_r0 (j : Nat) (u : Nat) : sXr := (some (.inl sf32), sA0, [], ([], [(0, ([(0, 1)], 0))], [], []), [], [])
theorem ksA2_b : ((List.range 4).all fun j => ((List.range 2).all fun u => syeB swC sT0 (ksA2_m j u) 400 0 114 (ksA2_L j u) (ksA2_S j u) (ksA2_A j u) (ksA2_P j u) (ksA2_G j u) (ksA2_B j u) 4 [] [ksA2_r0 j u])) = true := by decide +kernel
theorem ksA2 {l : Launch} {Γ : zG} {d : Nat} (hd : 0 ≤ d) {Kp : Option Value → zH → Prop} {lo : zL} {h : zH} {j : Nat} (h_j : j < 4) {u : Nat} (h_u : u < 2) {ac : Int} (hi : sInv swC h) (b_ac : 0 ≤ ac ∧ ac ≤ 1900000000) (l0 : zget lo 0 = some (.ref (j + 12 * u + 44))) (l1 : zI lo 1 ac) (l2 : zI lo 2 8)
    (hR0 : ∀ (h' : zH) (r_ : Int32), sInv swC h' → sMd (ksA2_m j u) h h' → r_.toInt = ac → Kp (some (.int r_)) h') : zX l Γ false (d + 1) (zhd 114) (zMQ' Γ false (zhd 114) Kp) 0 0 4 lo [] h := by
  refine sye_ok (mi := 114) (pc := 4) (fun i => [ac, 8].getD i 0) (zall_r (zall_r ksA2_b h_j) h_u) (fun _ _ hc _ => nomatch hc) hd ⟨l0, zIm l1 (by show 0 ≤ ac; omega) (by show ac ≤ 1900000000; omega), zIm l2 (by show 8 ≤ 8; omega) (by show 8 ≤ 8; omega), trivial⟩ rfl ⟨(fun _ hc => nomatch hc), (fun _ hc => nomatch hc), (fun _ hc => nomatch hc), Or.inl rfl⟩ trivial trivial (fun _ hc => nomatch hc) hi ?_ ?_
  · intro e he lo' st' h' hp hi' hm
    cases he
  · intro e he r' h' hp hi' hm
    rcases List.mem_cons.mp he with rfl | he
    · obtain ⟨p1, -, hz⟩ := hp
      obtain ⟨⟨z1, z2, z3, z4⟩, z5, z6⟩ := hz
      obtain ⟨r_, rfl, hv⟩ := ansI p1 (z2 (0, ([(0, 1)], 0)) (List.mem_of_getElem? (i := 0) rfl))
      have s0 : r_.toInt = ac := (show r_.toInt = (1 * ac + 0) + 0 from hv).trans (by omega)
      exact hR0 h' r_ hi' hm s0
    cases he
def ksB0_L (u : Nat) : List sT := [.inr (.inl (12 * u + 43))]
def ksB0_A (u : Nat) : sAs := ([], [], [], [])
def ksB0_P (u : Nat) : List sP0 := []
def ksB0_G (u : Nat) : List sP0 := []
def ksB0_B (u : Nat) : List (Nat × Nat × Int) := []
def ksB0_m (u : Nat) : sM := []
def ksB0_e0 (u : Nat) : sXe := (4, [.inr (.inl (12 * u + 44))], [(0, .inr (.inl (12 * u + 43)))], sA0, [], ([], [], [], []), [], [])
theorem ksB0_b : ((List.range 2).all fun u => syfB swC sT0 (ksB0_m u) 400 0 170 (ksB0_L u) (ksB0_A u) (ksB0_P u) (ksB0_G u) (ksB0_B u) [ksB0_e0 u] []) = true := by decide +kernel
theorem ksB0 {l : Launch} {Γ : zG} {d : Nat} (hd : 0 ≤ d) {Kp : Option Value → zH → Prop} {h : zH} {u : Nat} (h_u : u < 2) (hi : sInv swC h) 
    (hE0 : ∀ (lo' : zL) (h' : zH), sInv swC h' → sMd (ksB0_m u) h h' → zget lo' 0 = some (.ref (12 * u + 43)) → zX l Γ false (d + 1) (zhd 170) (zMQ' Γ false (zhd 170) Kp) 0 0 4 lo' [.ref (12 * u + 44)] h') : zSem l Γ false (d + 1) (zhd 170) [.ref (12 * u + 43)] h Kp := by
  refine syf_ok (mi := 170) (fun i => [].getD i 0) (zall_r ksB0_b h_u) (fun _ _ hc _ => nomatch hc) hd ⟨_, _, rfl, rfl, rfl⟩ ⟨rfl, trivial⟩ ⟨(fun _ hc => nomatch hc), (fun _ hc => nomatch hc), (fun _ hc => nomatch hc), Or.inl rfl⟩ trivial trivial (fun _ hc => nomatch hc) hi ?_ ?_
  · intro e he lo' st' h' hp hi' hm
    rcases List.mem_cons.mp he with rfl | he
    · obtain ⟨p1, p2, -, hz⟩ := hp
      obtain ⟨⟨z1, z2, z3, z4⟩, z5, z6⟩ := hz
      have o0 : zget lo' 0 = some (.ref (12 * u + 43)) := locR (p2 (0, .inr (.inl (12 * u + 43))) (List.mem_of_getElem? (i := 0) rfl))
      obtain ⟨_, _, rfl, hr, p1⟩ := p1
      have hr : _ = Value.ref (12 * u + 44) := hr
      subst hr
      have p1 : _ = [] := p1
      subst p1
      exact hE0 lo' h' hi' hm o0
    cases he
  · intro e he r' h' hp hi' hm
    cases he
def ksB1_L (u : Nat) : List (Nat × sT) := [(0, .inr (.inl (12 * u + 43)))]
def ksB1_S (u : Nat) : List sT := [.inl (0, 1900000000)]
def ksB1_A (u : Nat) : sAs := ([], [], [], [])
def ksB1_P (u : Nat) : List sP0 := []
def ksB1_G (u : Nat) : List sP0 := []
def ksB1_B (u : Nat) : List (Nat × Nat × Int) := []
def ksB1_m (u : Nat) : sM := []
def ksB1_e0 (u : Nat) : sXe := (11, [.inr (.inl (12 * u + 45)), .inl sf32], [], sA0, [], ([], [(1, ([(0, 1)], 0))], [], []), [], [])
theorem ksB1_b : ((List.range 2).all fun u => syeB swC sT0 (ksB1_m u) 400 0 170 (ksB1_L u) (ksB1_S u) (ksB1_A u) (ksB1_P u) (ksB1_G u) (ksB1_B u) 7 [ksB1_e0 u] []) = true := by decide +kernel
theorem ksB1 {l : Launch} {Γ : zG} {d : Nat} (hd : 0 ≤ d) {Kp : Option Value → zH → Prop} {lo : zL} {h : zH} {u : Nat} (h_u : u < 2) {v1 : Int} (hi : sInv swC h) (b_v1 : 0 ≤ v1 ∧ v1 ≤ 1900000000) (l0 : zget lo 0 = some (.ref (12 * u + 43))) {x_v1 : Int32} (e_v1 : x_v1.toInt = v1)
    (hE0 : ∀ (lo' : zL) (h' : zH) (y1 : Int32), sInv swC h' → sMd (ksB1_m u) h h' → y1.toInt = v1 → zX l Γ false (d + 1) (zhd 170) (zMQ' Γ false (zhd 170) Kp) 0 0 11 lo' [.ref (12 * u + 45), .int y1] h') : zX l Γ false (d + 1) (zhd 170) (zMQ' Γ false (zhd 170) Kp) 0 0 7 lo [.int x_v1] h := by
  refine sye_ok (mi := 170) (pc := 7) (fun i => [v1].getD i 0) (zall_r ksB1_b h_u) (fun _ _ hc _ => nomatch hc) hd ⟨l0, trivial⟩ ⟨x_v1, _, rfl, e_v1, ⟨by show 0 ≤ v1; omega, by show v1 ≤ 1900000000; omega⟩, rfl⟩ ⟨(fun _ hc => nomatch hc), (fun _ hc => nomatch hc), (fun _ hc => nomatch hc), Or.inl rfl⟩ trivial trivial (fun _ hc => nomatch hc) hi ?_ ?_
  · intro e he lo' st' h' hp hi' hm
    rcases List.mem_cons.mp he with rfl | he
    · obtain ⟨p1, p2, -, hz⟩ := hp
      obtain ⟨⟨z1, z2, z3, z4⟩, z5, z6⟩ := hz
      obtain ⟨_, _, rfl, hr, p1⟩ := p1
      have hr : _ = Value.ref (12 * u + 45) := hr
      subst hr
      obtain ⟨_, _, rfl, ⟨y1, rfl, -⟩, p1⟩ := p1
      have p1 : _ = [] := p1
      subst p1
      obtain ⟨v_, ev, hv⟩ := z2 (1, ([(0, 1)], 0)) (List.mem_of_getElem? (i := 0) rfl)
      cases ev
      have s1 : y1.toInt = v1 := (show y1.toInt = (1 * v1 + 0) + 0 from hv).trans (by omega)
      exact hE0 lo' h' y1 hi' hm s1
    cases he
  · intro e he r' h' hp hi' hm
    cases he
def ksB2_L : List (Nat × sT) := []
def ksB2_S : List sT := [.inl (0, 7992), .inl (0, 7992)]
def ksB2_A : sAs := ([], [], [], [])
def ksB2_P : List sP0 := []
def ksB2_G : List sP0 := []
def ksB2_B : List (Nat × Nat × Int) := []
def ksB2_m : sM := []
def ksB2_r0 : sXr := (some (.inl sf32), sA0, [], ([], [(0, ([(0, 1), (1, 1)], 0))], [], []), [], [])
theorem ksB2_b : syeB swC sT0 ksB2_m 400 0 170 ksB2_L ksB2_S ksB2_A ksB2_P ksB2_G ksB2_B 14 [] [ksB2_r0] = true := by decide +kernel
theorem ksB2 {l : Launch} {Γ : zG} {d : Nat} (hd : 0 ≤ d) {Kp : Option Value → zH → Prop} {lo : zL} {h : zH} {v2 v1 : Int} (hi : sInv swC h) (b_v2 : 0 ≤ v2 ∧ v2 ≤ 7992) (b_v1 : 0 ≤ v1 ∧ v1 ≤ 7992) {x_v2 : Int32} (e_v2 : x_v2.toInt = v2) {x_v1 : Int32} (e_v1 : x_v1.toInt = v1)
    (hR0 : ∀ (h' : zH) (r_ : Int32), sInv swC h' → sMd ksB2_m h h' → r_.toInt = v2 + v1 → Kp (some (.int r_)) h') : zX l Γ false (d + 1) (zhd 170) (zMQ' Γ false (zhd 170) Kp) 0 0 14 lo [.int x_v2, .int x_v1] h := by
  refine sye_ok (mi := 170) (pc := 14) (fun i => [v2, v1].getD i 0) ksB2_b (fun _ _ hc _ => nomatch hc) hd trivial ⟨x_v2, _, rfl, e_v2, ⟨by show 0 ≤ v2; omega, by show v2 ≤ 7992; omega⟩, ⟨x_v1, _, rfl, e_v1, ⟨by show 0 ≤ v1; omega, by show v1 ≤ 7992; omega⟩, rfl⟩⟩ ⟨(fun _ hc => nomatch hc), (fun _ hc => nomatch hc), (fun _ hc => nomatch hc), Or.inl rfl⟩ trivial trivial (fun _ hc => nomatch hc) hi ?_ ?_
  · intro e he lo' st' h' hp hi' hm
    cases he
  · intro e he r' h' hp hi' hm
    rcases List.mem_cons.mp he with rfl | he
    · obtain ⟨p1, -, hz⟩ := hp
      obtain ⟨⟨z1, z2, z3, z4⟩, z5, z6⟩ := hz
      obtain ⟨r_, rfl, hv⟩ := ansI p1 (z2 (0, ([(0, 1), (1, 1)], 0)) (List.mem_of_getElem? (i := 0) rfl))
      have s0 : r_.toInt = v2 + v1 := (show r_.toInt = (1 * v2 + (1 * v1 + 0)) + 0 from hv).trans (by omega)
      exact hR0 h' r_ hi' hm s0
    cases he
def ksP0_L (u : Nat) : List sT := [.inr (.inl (12 * u + 43))]
def ksP0_A (u : Nat) : sAs := ([], [], [], [])
def ksP0_P (u : Nat) : List sP0 := []
def ksP0_G (u : Nat) : List sP0 := []
def ksP0_B (u : Nat) : List (Nat × Nat × Int) := []
def ksP0_m (u : Nat) : sM := []
def ksP0_e0 (u : Nat) : sXe := (4, [.inr (.inl (12 * u + 47))], [], sA0, [], ([], [], [], []), [], [])
theorem ksP0_b : ((List.range 2).all fun u => syfB swC sT0 (ksP0_m u) 400 0 176 (ksP0_L u) (ksP0_A u) (ksP0_P u) (ksP0_G u) (ksP0_B u) [ksP0_e0 u] []) = true := by decide +kernel
theorem ksP0 {l : Launch} {Γ : zG} {d : Nat} (hd : 0 ≤ d) {Kp : Option Value → zH → Prop} {h : zH} {u : Nat} (h_u : u < 2) (hi : sInv swC h) 
    (hE0 : ∀ (lo' : zL) (h' : zH), sInv swC h' → sMd (ksP0_m u) h h' → zX l Γ false (d + 1) (zhd 176) (zMQ' Γ false (zhd 176) Kp) 0 0 4 lo' [.ref (12 * u + 47)] h') : zSem l Γ false (d + 1) (zhd 176) [.ref (12 * u + 43)] h Kp := by
  refine syf_ok (mi := 176) (fun i => [].getD i 0) (zall_r ksP0_b h_u) (fun _ _ hc _ => nomatch hc) hd ⟨_, _, rfl, rfl, rfl⟩ ⟨rfl, trivial⟩ ⟨(fun _ hc => nomatch hc), (fun _ hc => nomatch hc), (fun _ hc => nomatch hc), Or.inl rfl⟩ trivial trivial (fun _ hc => nomatch hc) hi ?_ ?_
  · intro e he lo' st' h' hp hi' hm
    rcases List.mem_cons.mp he with rfl | he
    · obtain ⟨p1, p2, -, hz⟩ := hp
      obtain ⟨⟨z1, z2, z3, z4⟩, z5, z6⟩ := hz
      obtain ⟨_, _, rfl, hr, p1⟩ := p1
      have hr : _ = Value.ref (12 * u + 47) := hr
      subst hr
      have p1 : _ = [] := p1
      subst p1
      exact hE0 lo' h' hi' hm
    cases he
  · intro e he r' h' hp hi' hm
    cases he
def ksP1_L : List (Nat × sT) := []
def ksP1_S : List sT := [.inl (0, 1900000000)]
def ksP1_A : sAs := ([], [], [], [])
def ksP1_P : List sP0 := []
def ksP1_G : List sP0 := []
def ksP1_B : List (Nat × Nat × Int) := []
def ksP1_m : sM := []
def ksP1_r0 : sXr := (some (.inl sf32), sA0, [], ([], [(0, ([(0, 1)], 0))], [], []), [], [])
theorem ksP1_b : syeB swC sT0 ksP1_m 400 0 176 ksP1_L ksP1_S ksP1_A ksP1_P ksP1_G ksP1_B 7 [] [ksP1_r0] = true := by decide +kernel
theorem ksP1 {l : Launch} {Γ : zG} {d : Nat} (hd : 0 ≤ d) {Kp : Option Value → zH → Prop} {lo : zL} {h : zH} {v1 : Int} (hi : sInv swC h) (b_v1 : 0 ≤ v1 ∧ v1 ≤ 1900000000) {x_v1 : Int32} (e_v1 : x_v1.toInt = v1)
    (hR0 : ∀ (h' : zH) (r_ : Int32), sInv swC h' → sMd ksP1_m h h' → r_.toInt = v1 → Kp (some (.int r_)) h') : zX l Γ false (d + 1) (zhd 176) (zMQ' Γ false (zhd 176) Kp) 0 0 7 lo [.int x_v1] h := by
  refine sye_ok (mi := 176) (pc := 7) (fun i => [v1].getD i 0) ksP1_b (fun _ _ hc _ => nomatch hc) hd trivial ⟨x_v1, _, rfl, e_v1, ⟨by show 0 ≤ v1; omega, by show v1 ≤ 1900000000; omega⟩, rfl⟩ ⟨(fun _ hc => nomatch hc), (fun _ hc => nomatch hc), (fun _ hc => nomatch hc), Or.inl rfl⟩ trivial trivial (fun _ hc => nomatch hc) hi ?_ ?_
  · intro e he lo' st' h' hp hi' hm
    cases he
  · intro e he r' h' hp hi' hm
    rcases List.mem_cons.mp he with rfl | he
    · obtain ⟨p1, -, hz⟩ := hp
      obtain ⟨⟨z1, z2, z3, z4⟩, z5, z6⟩ := hz
      obtain ⟨r_, rfl, hv⟩ := ansI p1 (z2 (0, ([(0, 1)], 0)) (List.mem_of_getElem? (i := 0) rfl))
      have s0 : r_.toInt = v1 := (show r_.toInt = (1 * v1 + 0) + 0 from hv).trans (by omega)
      exact hR0 h' r_ hi' hm s0
    cases he
def ksE0_L (u : Nat) : List sT := [.inr (.inl (12 * u + 43))]
def ksE0_A (u : Nat) : sAs := ([], [], [], [])
def ksE0_P (u : Nat) : List sP0 := []
def ksE0_G (u : Nat) : List sP0 := []
def ksE0_B (u : Nat) : List (Nat × Nat × Int) := []
def ksE0_m (u : Nat) : sM := []
def ksE0_e0 (u : Nat) : sXe := (4, [.inr (.inl (12 * u + 46))], [], sA0, [], ([], [], [], []), [], [])
theorem ksE0_b : ((List.range 2).all fun u => syfB swC sT0 (ksE0_m u) 400 0 113 (ksE0_L u) (ksE0_A u) (ksE0_P u) (ksE0_G u) (ksE0_B u) [ksE0_e0 u] []) = true := by decide +kernel
theorem ksE0 {l : Launch} {Γ : zG} {d : Nat} (hd : 0 ≤ d) {Kp : Option Value → zH → Prop} {h : zH} {u : Nat} (h_u : u < 2) (hi : sInv swC h) 
    (hE0 : ∀ (lo' : zL) (h' : zH), sInv swC h' → sMd (ksE0_m u) h h' → zX l Γ false (d + 1) (zhd 113) (zMQ' Γ false (zhd 113) Kp) 0 0 4 lo' [.ref (12 * u + 46)] h') : zSem l Γ false (d + 1) (zhd 113) [.ref (12 * u + 43)] h Kp := by
  refine syf_ok (mi := 113) (fun i => [].getD i 0) (zall_r ksE0_b h_u) (fun _ _ hc _ => nomatch hc) hd ⟨_, _, rfl, rfl, rfl⟩ ⟨rfl, trivial⟩ ⟨(fun _ hc => nomatch hc), (fun _ hc => nomatch hc), (fun _ hc => nomatch hc), Or.inl rfl⟩ trivial trivial (fun _ hc => nomatch hc) hi ?_ ?_
  · intro e he lo' st' h' hp hi' hm
    rcases List.mem_cons.mp he with rfl | he
    · obtain ⟨p1, p2, -, hz⟩ := hp
      obtain ⟨⟨z1, z2, z3, z4⟩, z5, z6⟩ := hz
      obtain ⟨_, _, rfl, hr, p1⟩ := p1
      have hr : _ = Value.ref (12 * u + 46) := hr
      subst hr
      have p1 : _ = [] := p1
      subst p1
      exact hE0 lo' h' hi' hm
    cases he
  · intro e he r' h' hp hi' hm
    cases he
def ksE1_L : List (Nat × sT) := []
def ksE1_S : List sT := [.inl (0, 1900000000)]
def ksE1_A : sAs := ([], [], [], [])
def ksE1_P : List sP0 := []
def ksE1_G : List sP0 := []
def ksE1_B : List (Nat × Nat × Int) := []
def ksE1_m : sM := []
def ksE1_r0 : sXr := (some (.inl sf32), sA0, [], ([], [(0, ([(0, 1)], 0))], [], []), [], [])
theorem ksE1_b : syeB swC sT0 ksE1_m 400 0 113 ksE1_L ksE1_S ksE1_A ksE1_P ksE1_G ksE1_B 7 [] [ksE1_r0] = true := by decide +kernel
theorem ksE1 {l : Launch} {Γ : zG} {d : Nat} (hd : 0 ≤ d) {Kp : Option Value → zH → Prop} {lo : zL} {h : zH} {v1 : Int} (hi : sInv swC h) (b_v1 : 0 ≤ v1 ∧ v1 ≤ 1900000000) {x_v1 : Int32} (e_v1 : x_v1.toInt = v1)
    (hR0 : ∀ (h' : zH) (r_ : Int32), sInv swC h' → sMd ksE1_m h h' → r_.toInt = v1 → Kp (some (.int r_)) h') : zX l Γ false (d + 1) (zhd 113) (zMQ' Γ false (zhd 113) Kp) 0 0 7 lo [.int x_v1] h := by
  refine sye_ok (mi := 113) (pc := 7) (fun i => [v1].getD i 0) ksE1_b (fun _ _ hc _ => nomatch hc) hd trivial ⟨x_v1, _, rfl, e_v1, ⟨by show 0 ≤ v1; omega, by show v1 ≤ 1900000000; omega⟩, rfl⟩ ⟨(fun _ hc => nomatch hc), (fun _ hc => nomatch hc), (fun _ hc => nomatch hc), Or.inl rfl⟩ trivial trivial (fun _ hc => nomatch hc) hi ?_ ?_
  · intro e he lo' st' h' hp hi' hm
    cases he
  · intro e he r' h' hp hi' hm
    rcases List.mem_cons.mp he with rfl | he
    · obtain ⟨p1, -, hz⟩ := hp
      obtain ⟨⟨z1, z2, z3, z4⟩, z5, z6⟩ := hz
      obtain ⟨r_, rfl, hv⟩ := ansI p1 (z2 (0, ([(0, 1)], 0)) (List.mem_of_getElem? (i := 0) rfl))
      have s0 : r_.toInt = v1 := (show r_.toInt = (1 * v1 + 0) + 0 from hv).trans (by omega)
      exact hR0 h' r_ hi' hm s0
    cases he
def ksD0_L (u : Nat) : List sT := [.inr (.inl (12 * u + 43))]
def ksD0_A (u : Nat) : sAs := ([], [], [], [])
def ksD0_P (u : Nat) : List sP0 := []
def ksD0_G (u : Nat) : List sP0 := []
def ksD0_B (u : Nat) : List (Nat × Nat × Int) := []
def ksD0_m (u : Nat) : sM := []
def ksD0_e0 (u : Nat) : sXe := (4, [], [(0, .inr (.inl (12 * u + 43))), (1, .inl sf32), (2, .inl sf32)], sA0, [], ([], [], [(1, ([], 0)), (2, ([], 0))], []), [], [])
theorem ksD0_b : ((List.range 2).all fun u => syfB swC sT0 (ksD0_m u) 400 0 116 (ksD0_L u) (ksD0_A u) (ksD0_P u) (ksD0_G u) (ksD0_B u) [ksD0_e0 u] []) = true := by decide +kernel
theorem ksD0 {l : Launch} {Γ : zG} {d : Nat} (hd : 0 ≤ d) {Kp : Option Value → zH → Prop} {h : zH} {u : Nat} (h_u : u < 2) (hi : sInv swC h) 
    (hE0 : ∀ (lo' : zL) (h' : zH), sInv swC h' → sMd (ksD0_m u) h h' → zget lo' 0 = some (.ref (12 * u + 43)) → zI lo' 1 0 → zI lo' 2 0 → zX l Γ false (d + 1) (zhd 116) (zMQ' Γ false (zhd 116) Kp) 0 0 4 lo' [] h') : zSem l Γ false (d + 1) (zhd 116) [.ref (12 * u + 43)] h Kp := by
  refine syf_ok (mi := 116) (fun i => [].getD i 0) (zall_r ksD0_b h_u) (fun _ _ hc _ => nomatch hc) hd ⟨_, _, rfl, rfl, rfl⟩ ⟨rfl, trivial⟩ ⟨(fun _ hc => nomatch hc), (fun _ hc => nomatch hc), (fun _ hc => nomatch hc), Or.inl rfl⟩ trivial trivial (fun _ hc => nomatch hc) hi ?_ ?_
  · intro e he lo' st' h' hp hi' hm
    rcases List.mem_cons.mp he with rfl | he
    · obtain ⟨p1, p2, -, hz⟩ := hp
      obtain ⟨⟨z1, z2, z3, z4⟩, z5, z6⟩ := hz
      have o0 : zget lo' 0 = some (.ref (12 * u + 43)) := locR (p2 (0, .inr (.inl (12 * u + 43))) (List.mem_of_getElem? (i := 0) rfl))
      have o1 : zI lo' 1 0 := zI_of (p2 (1, .inl sf32) (List.mem_of_getElem? (i := 1) rfl)) (z3 (1, ([], 0)) (List.mem_of_getElem? (i := 0) rfl)) (show 0 + 0 = 0 from by omega)
      have o2 : zI lo' 2 0 := zI_of (p2 (2, .inl sf32) (List.mem_of_getElem? (i := 2) rfl)) (z3 (2, ([], 0)) (List.mem_of_getElem? (i := 1) rfl)) (show 0 + 0 = 0 from by omega)
      have p1 : _ = [] := p1
      subst p1
      exact hE0 lo' h' hi' hm o0 o1 o2
    cases he
  · intro e he r' h' hp hi' hm
    cases he
def ksD1_L (p : Nat) (u : Nat) : List (Nat × sT) := [(0, .inr (.inl (12 * u + 43))), (1, .inl (0, 1023)), (2, .inl ((p : Int), (p : Int)))]
def ksD1_S (p : Nat) (u : Nat) : List sT := []
def ksD1_A (p : Nat) (u : Nat) : sAs := ([], [], [], [])
def ksD1_P (p : Nat) (u : Nat) : List sP0 := [((12 * u + 48), (none, ((p : Nat) : Int)), (0, 2))]
def ksD1_G (p : Nat) (u : Nat) : List sP0 := []
def ksD1_B (p : Nat) (u : Nat) : List (Nat × Nat × Int) := []
def ksD1_m (p : Nat) (u : Nat) : sM := []
def ksD1_e0 (p : Nat) (u : Nat) : sXe := (4, [], [(0, .inr (.inl (12 * u + 43))), (1, .inl sf32), (2, .inl sf32)], sA0, [(0, 3, ([], 1), ([], (p : Int))), (0, 0, ([(0, 1)], 0), ([(3, 1)], 0))], ([], [], [(1, ([(4, 1)], 0)), (2, ([], ((p : Int) + 1)))], [([(2, 1)], (-2)), ([(2, (-1))], 2)]), [], [])
def ksD1_e1 (p : Nat) (u : Nat) : sXe := (4, [], [(0, .inr (.inl (12 * u + 43))), (1, .inl sf32), (2, .inl sf32)], sA0, [], ([], [], [(1, ([(0, 1)], 0)), (2, ([], ((p : Int) + 1)))], []), [(([(2, 1)], 0), ([], 2))], [])
theorem ksD1_b : ((List.range 10).all fun p => ((List.range 2).all fun u => syeB swC sT0 (ksD1_m p u) 400 0 116 (ksD1_L p u) (ksD1_S p u) (ksD1_A p u) (ksD1_P p u) (ksD1_G p u) (ksD1_B p u) 4 [ksD1_e0 p u, ksD1_e1 p u] [])) = true := by decide +kernel
theorem ksD1 {l : Launch} {Γ : zG} {d : Nat} (hd : 0 ≤ d) {Kp : Option Value → zH → Prop} {lo : zL} {h : zH} {p : Nat} (h_p : p < 10) {u : Nat} (h_u : u < 2) {ac dn : Int} (hi : sInv swC h) (b_ac : 0 ≤ ac ∧ ac ≤ 1023) (b_dn : 0 ≤ dn ∧ dn ≤ 2) (l0 : zget lo 0 = some (.ref (12 * u + 43))) (l1 : zI lo 1 ac) (l2 : zI lo 2 (p : Int)) (p_dn : pI h (12 * u + 48) p = dn)
    (hE0 : ∀ (lo' : zL) (h' : zH) (w0 w1 : Int), sInv swC h' → sMd (ksD1_m p u) h h' → w0 = sgfn 3 1 (p : Int) → w1 = sgfn 0 ac w0 → dn = 2 → zget lo' 0 = some (.ref (12 * u + 43)) → zI lo' 1 w1 → zI lo' 2 ((p : Int) + 1) → zX l Γ false (d + 1) (zhd 116) (zMQ' Γ false (zhd 116) Kp) 0 0 4 lo' [] h')
    (hE1 : ∀ (lo' : zL) (h' : zH), sInv swC h' → sMd (ksD1_m p u) h h' → dn ≠ 2 → zget lo' 0 = some (.ref (12 * u + 43)) → zI lo' 1 ac → zI lo' 2 ((p : Int) + 1) → zX l Γ false (d + 1) (zhd 116) (zMQ' Γ false (zhd 116) Kp) 0 0 4 lo' [] h') : zX l Γ false (d + 1) (zhd 116) (zMQ' Γ false (zhd 116) Kp) 0 0 4 lo [] h := by
  refine sye_ok (mi := 116) (pc := 4) (fun i => [ac, (p : Int), dn].getD i 0) (zall_r (zall_r ksD1_b h_p) h_u) (fun _ _ hc _ => nomatch hc) hd ⟨l0, zIm l1 (by show 0 ≤ ac; omega) (by show ac ≤ 1023; omega), zIm l2 (by show (p : Int) ≤ (p : Int); omega) (by show (p : Int) ≤ (p : Int); omega), trivial⟩ rfl ⟨(fun _ hc => nomatch hc), (fun _ hc => nomatch hc), (fun _ hc => nomatch hc), Or.inl rfl⟩ ⟨⟨p_dn, by show 0 ≤ dn; omega, by show dn ≤ 2; omega⟩, trivial⟩ trivial (fun _ hc => nomatch hc) hi ?_ ?_
  · intro e he lo' st' h' hp hi' hm
    rcases List.mem_cons.mp he with rfl | he
    · obtain ⟨p1, p2, -, hz⟩ := hp
      obtain ⟨w0, f0, hz⟩ := hz
      obtain ⟨w1, f1, hz⟩ := hz
      obtain ⟨⟨z1, z2, z3, z4⟩, z5, z6⟩ := hz
      have g0 : w0 = sgfn 3 1 (p : Int) := (show w0 = sgfn 3 (0 + 1) (0 + (p : Int)) from f0).trans (sgfn_c (by omega) (by omega))
      have g1 : w1 = sgfn 0 ac w0 := (show w1 = sgfn 0 ((1 * ac + 0) + 0) ((1 * w0 + 0) + 0) from f1).trans (sgfn_c (by omega) (by omega))
      have c0 : dn = 2 := by have q_ : (0 : Int) ≤ (1 * dn + 0) + (-2) := z4 ([(2, 1)], (-2)) (List.mem_of_getElem? (i := 0) rfl); have q2_ : (0 : Int) ≤ ((-1) * dn + 0) + 2 := z4 ([(2, (-1))], 2) (List.mem_of_getElem? (i := 1) rfl); omega
      have o0 : zget lo' 0 = some (.ref (12 * u + 43)) := locR (p2 (0, .inr (.inl (12 * u + 43))) (List.mem_of_getElem? (i := 0) rfl))
      have o1 : zI lo' 1 w1 := zI_of (p2 (1, .inl sf32) (List.mem_of_getElem? (i := 1) rfl)) (z3 (1, ([(4, 1)], 0)) (List.mem_of_getElem? (i := 0) rfl)) (show (1 * w1 + 0) + 0 = w1 from by omega)
      have o2 : zI lo' 2 ((p : Int) + 1) := zI_of (p2 (2, .inl sf32) (List.mem_of_getElem? (i := 2) rfl)) (z3 (2, ([], ((p : Int) + 1))) (List.mem_of_getElem? (i := 1) rfl)) (show 0 + ((p : Int) + 1) = ((p : Int) + 1) from by omega)
      have p1 : _ = [] := p1
      subst p1
      exact hE0 lo' h' w0 w1 hi' hm g0 g1 c0 o0 o1 o2
    rcases List.mem_cons.mp he with rfl | he
    · obtain ⟨p1, p2, -, hz⟩ := hp
      obtain ⟨⟨z1, z2, z3, z4⟩, z5, z6⟩ := hz
      have n0 : dn ≠ 2 := fun e_ => z5 (([(2, 1)], 0), ([], 2)) (List.mem_of_getElem? (i := 0) rfl) (by show (1 * dn + 0) + 0 = 0 + 2; omega)
      have o0 : zget lo' 0 = some (.ref (12 * u + 43)) := locR (p2 (0, .inr (.inl (12 * u + 43))) (List.mem_of_getElem? (i := 0) rfl))
      have o1 : zI lo' 1 ac := zI_of (p2 (1, .inl sf32) (List.mem_of_getElem? (i := 1) rfl)) (z3 (1, ([(0, 1)], 0)) (List.mem_of_getElem? (i := 0) rfl)) (show (1 * ac + 0) + 0 = ac from by omega)
      have o2 : zI lo' 2 ((p : Int) + 1) := zI_of (p2 (2, .inl sf32) (List.mem_of_getElem? (i := 2) rfl)) (z3 (2, ([], ((p : Int) + 1))) (List.mem_of_getElem? (i := 1) rfl)) (show 0 + ((p : Int) + 1) = ((p : Int) + 1) from by omega)
      have p1 : _ = [] := p1
      subst p1
      exact hE1 lo' h' hi' hm n0 o0 o1 o2
    cases he
  · intro e he r' h' hp hi' hm
    cases he
def ksD2_L (u : Nat) : List (Nat × sT) := [(0, .inr (.inl (12 * u + 43))), (1, .inl (0, 1023)), (2, .inl (10, 10))]
def ksD2_S (u : Nat) : List sT := []
def ksD2_A (u : Nat) : sAs := ([], [], [], [])
def ksD2_P (u : Nat) : List sP0 := []
def ksD2_G (u : Nat) : List sP0 := []
def ksD2_B (u : Nat) : List (Nat × Nat × Int) := []
def ksD2_m (u : Nat) : sM := []
def ksD2_r0 (u : Nat) : sXr := (some (.inl sf32), sA0, [], ([], [(0, ([(0, 1)], 0))], [], []), [], [])
theorem ksD2_b : ((List.range 2).all fun u => syeB swC sT0 (ksD2_m u) 400 0 116 (ksD2_L u) (ksD2_S u) (ksD2_A u) (ksD2_P u) (ksD2_G u) (ksD2_B u) 4 [] [ksD2_r0 u]) = true := by decide +kernel
theorem ksD2 {l : Launch} {Γ : zG} {d : Nat} (hd : 0 ≤ d) {Kp : Option Value → zH → Prop} {lo : zL} {h : zH} {u : Nat} (h_u : u < 2) {ac : Int} (hi : sInv swC h) (b_ac : 0 ≤ ac ∧ ac ≤ 1023) (l0 : zget lo 0 = some (.ref (12 * u + 43))) (l1 : zI lo 1 ac) (l2 : zI lo 2 10)
    (hR0 : ∀ (h' : zH) (r_ : Int32), sInv swC h' → sMd (ksD2_m u) h h' → r_.toInt = ac → Kp (some (.int r_)) h') : zX l Γ false (d + 1) (zhd 116) (zMQ' Γ false (zhd 116) Kp) 0 0 4 lo [] h := by
  refine sye_ok (mi := 116) (pc := 4) (fun i => [ac, 10].getD i 0) (zall_r ksD2_b h_u) (fun _ _ hc _ => nomatch hc) hd ⟨l0, zIm l1 (by show 0 ≤ ac; omega) (by show ac ≤ 1023; omega), zIm l2 (by show 10 ≤ 10; omega) (by show 10 ≤ 10; omega), trivial⟩ rfl ⟨(fun _ hc => nomatch hc), (fun _ hc => nomatch hc), (fun _ hc => nomatch hc), Or.inl rfl⟩ trivial trivial (fun _ hc => nomatch hc) hi ?_ ?_
  · intro e he lo' st' h' hp hi' hm
    cases he
  · intro e he r' h' hp hi' hm
    rcases List.mem_cons.mp he with rfl | he
    · obtain ⟨p1, -, hz⟩ := hp
      obtain ⟨⟨z1, z2, z3, z4⟩, z5, z6⟩ := hz
      obtain ⟨r_, rfl, hv⟩ := ansI p1 (z2 (0, ([(0, 1)], 0)) (List.mem_of_getElem? (i := 0) rfl))
      have s0 : r_.toInt = ac := (show r_.toInt = (1 * ac + 0) + 0 from hv).trans (by omega)
      exact hR0 h' r_ hi' hm s0
    cases he
def ksF0_L (u : Nat) : List sT := [.inr (.inl (12 * u + 43))]
def ksF0_A (u : Nat) : sAs := ([], [], [], [])
def ksF0_P (u : Nat) : List sP0 := []
def ksF0_G (u : Nat) : List sP0 := []
def ksF0_B (u : Nat) : List (Nat × Nat × Int) := []
def ksF0_m (u : Nat) : sM := []
def ksF0_e0 (u : Nat) : sXe := (1, [.inr (.inl (12 * u + 43))], [], sA0, [], ([], [], [], []), [], [])
theorem ksF0_b : ((List.range 2).all fun u => syfB swC sT0 (ksF0_m u) 400 0 115 (ksF0_L u) (ksF0_A u) (ksF0_P u) (ksF0_G u) (ksF0_B u) [ksF0_e0 u] []) = true := by decide +kernel
theorem ksF0 {l : Launch} {Γ : zG} {d : Nat} (hd : 0 ≤ d) {Kp : Option Value → zH → Prop} {h : zH} {u : Nat} (h_u : u < 2) (hi : sInv swC h) 
    (hE0 : ∀ (lo' : zL) (h' : zH), sInv swC h' → sMd (ksF0_m u) h h' → zX l Γ false (d + 1) (zhd 115) (zMQ' Γ false (zhd 115) Kp) 0 0 1 lo' [.ref (12 * u + 43)] h') : zSem l Γ false (d + 1) (zhd 115) [.ref (12 * u + 43)] h Kp := by
  refine syf_ok (mi := 115) (fun i => [].getD i 0) (zall_r ksF0_b h_u) (fun _ _ hc _ => nomatch hc) hd ⟨_, _, rfl, rfl, rfl⟩ ⟨rfl, trivial⟩ ⟨(fun _ hc => nomatch hc), (fun _ hc => nomatch hc), (fun _ hc => nomatch hc), Or.inl rfl⟩ trivial trivial (fun _ hc => nomatch hc) hi ?_ ?_
  · intro e he lo' st' h' hp hi' hm
    rcases List.mem_cons.mp he with rfl | he
    · obtain ⟨p1, p2, -, hz⟩ := hp
      obtain ⟨⟨z1, z2, z3, z4⟩, z5, z6⟩ := hz
      obtain ⟨_, _, rfl, hr, p1⟩ := p1
      have hr : _ = Value.ref (12 * u + 43) := hr
      subst hr
      have p1 : _ = [] := p1
      subst p1
      exact hE0 lo' h' hi' hm
    cases he
  · intro e he r' h' hp hi' hm
    cases he
def ksF1_L : List (Nat × sT) := []
def ksF1_S : List sT := [.inl (0, 10)]
def ksF1_A : sAs := ([], [], [], [])
def ksF1_P : List sP0 := []
def ksF1_G : List sP0 := []
def ksF1_B : List (Nat × Nat × Int) := []
def ksF1_m : sM := []
def ksF1_r0 : sXr := (some (.inl sf32), sA0, [], ([], [(0, ([(0, 1)], 0))], [], []), [], [])
theorem ksF1_b : syeB swC sT0 ksF1_m 400 0 115 ksF1_L ksF1_S ksF1_A ksF1_P ksF1_G ksF1_B 7 [] [ksF1_r0] = true := by decide +kernel
theorem ksF1 {l : Launch} {Γ : zG} {d : Nat} (hd : 0 ≤ d) {Kp : Option Value → zH → Prop} {lo : zL} {h : zH} {v1 : Int} (hi : sInv swC h) (b_v1 : 0 ≤ v1 ∧ v1 ≤ 10) {x_v1 : Int32} (e_v1 : x_v1.toInt = v1)
    (hR0 : ∀ (h' : zH) (r_ : Int32), sInv swC h' → sMd ksF1_m h h' → r_.toInt = v1 → Kp (some (.int r_)) h') : zX l Γ false (d + 1) (zhd 115) (zMQ' Γ false (zhd 115) Kp) 0 0 7 lo [.int x_v1] h := by
  refine sye_ok (mi := 115) (pc := 7) (fun i => [v1].getD i 0) ksF1_b (fun _ _ hc _ => nomatch hc) hd trivial ⟨x_v1, _, rfl, e_v1, ⟨by show 0 ≤ v1; omega, by show v1 ≤ 10; omega⟩, rfl⟩ ⟨(fun _ hc => nomatch hc), (fun _ hc => nomatch hc), (fun _ hc => nomatch hc), Or.inl rfl⟩ trivial trivial (fun _ hc => nomatch hc) hi ?_ ?_
  · intro e he lo' st' h' hp hi' hm
    cases he
  · intro e he r' h' hp hi' hm
    rcases List.mem_cons.mp he with rfl | he
    · obtain ⟨p1, -, hz⟩ := hp
      obtain ⟨⟨z1, z2, z3, z4⟩, z5, z6⟩ := hz
      obtain ⟨r_, rfl, hv⟩ := ansI p1 (z2 (0, ([(0, 1)], 0)) (List.mem_of_getElem? (i := 0) rfl))
      have s0 : r_.toInt = v1 := (show r_.toInt = (1 * v1 + 0) + 0 from hv).trans (by omega)
      exact hR0 h' r_ hi' hm s0
    cases he
def ksC0_L (t : Nat) : List sT := [.inr (.inl 0), .inl sf32]
def ksC0_A (t : Nat) : sAs := ([], [(0, 5, (17 * t + 9))], [], [])
def ksC0_P (t : Nat) : List sP0 := [((17 * t + 10), (none, 3), (0, 5)), ((17 * t + 12), (none, 3), (0, 8)), ((17 * t + 16), (none, 3), (0, 10)), ((17 * t + 18), (none, 3), (0, 6)), ((17 * t + 20), (none, 2), (0, 64)), (43, (none, 0), sf32), (43, (none, 2), sf32), (91, (none, 6), (0, 24)), (91, (none, 7), ((-1), 24)), (86, (none, 4), (0, 20))]
def ksC0_G (t : Nat) : List sP0 := []
def ksC0_B (t : Nat) : List (Nat × Nat × Int) := [(8, 9, 0)]
def ksC0_m (t : Nat) : sM := []
def ksC0_e0 (t : Nat) : sXe := (139, [.inr (.inl 43)], [], sA0, [], ([], [], [], [([(0, 1)], (-6)), ([(0, (-1))], 6)]), [(([(0, 1)], 0), ([], 0)), (([(0, 1)], 0), ([], 1)), (([(0, 1)], 0), ([], 2)), (([(0, 1)], 0), ([], 3)), (([(0, 1)], 0), ([], 4)), (([(0, 1)], 0), ([], 5))], [])
def ksC0_e1 (t : Nat) : sXe := (147, [.inr (.inl 43)], [], sA0, [], ([], [], [], [([(0, 1)], (-7)), ([(0, (-1))], 7)]), [(([(0, 1)], 0), ([], 0)), (([(0, 1)], 0), ([], 1)), (([(0, 1)], 0), ([], 2)), (([(0, 1)], 0), ([], 3)), (([(0, 1)], 0), ([], 4)), (([(0, 1)], 0), ([], 5)), (([(0, 1)], 0), ([], 6))], [])
def ksC0_e2 (t : Nat) : sXe := (163, [.inr (.inl 43)], [], sA0, [], ([], [], [], [([(0, 1)], (-9)), ([(0, (-1))], 9)]), [(([(0, 1)], 0), ([], 0)), (([(0, 1)], 0), ([], 1)), (([(0, 1)], 0), ([], 2)), (([(0, 1)], 0), ([], 3)), (([(0, 1)], 0), ([], 4)), (([(0, 1)], 0), ([], 5)), (([(0, 1)], 0), ([], 6)), (([(0, 1)], 0), ([], 7)), (([(0, 1)], 0), ([], 8))], [])
def ksC0_e3 (t : Nat) : sXe := (171, [.inr (.inl 43)], [], sA0, [], ([], [], [], [([(0, 1)], (-10)), ([(0, (-1))], 10)]), [(([(0, 1)], 0), ([], 0)), (([(0, 1)], 0), ([], 1)), (([(0, 1)], 0), ([], 2)), (([(0, 1)], 0), ([], 3)), (([(0, 1)], 0), ([], 4)), (([(0, 1)], 0), ([], 5)), (([(0, 1)], 0), ([], 6)), (([(0, 1)], 0), ([], 7)), (([(0, 1)], 0), ([], 8)), (([(0, 1)], 0), ([], 9))], [])
def ksC0_r0 (t : Nat) : sXr := (some (.inl sf32), sA0, [], ([], [(0, ([(1, 1)], 0))], [], [([(0, 1)], 0), ([(0, (-1))], 0)]), [], [])
def ksC0_r1 (t : Nat) : sXr := (some (.inl sf32), sA0, [], ([], [(0, ([(2, 1)], 0))], [], [([(0, 1)], (-1)), ([(0, (-1))], 1)]), [(([(0, 1)], 0), ([], 0))], [])
def ksC0_r2 (t : Nat) : sXr := (some (.inl sf32), sA0, [], ([], [(0, ([(3, 1)], 0))], [], [([(0, 1)], (-2)), ([(0, (-1))], 2)]), [(([(0, 1)], 0), ([], 0)), (([(0, 1)], 0), ([], 1))], [])
def ksC0_r3 (t : Nat) : sXr := (some (.inl sf32), sA0, [], ([], [(0, ([(4, 1)], 0))], [], [([(0, 1)], (-3)), ([(0, (-1))], 3)]), [(([(0, 1)], 0), ([], 0)), (([(0, 1)], 0), ([], 1)), (([(0, 1)], 0), ([], 2))], [])
def ksC0_r4 (t : Nat) : sXr := (some (.inl sf32), sA0, [], ([], [(0, ([(5, 1)], 0))], [], [([(0, 1)], (-4)), ([(0, (-1))], 4)]), [(([(0, 1)], 0), ([], 0)), (([(0, 1)], 0), ([], 1)), (([(0, 1)], 0), ([], 2)), (([(0, 1)], 0), ([], 3))], [])
def ksC0_r5 (t : Nat) : sXr := (some (.inl sf32), sA0, [], ([], [(0, ([(6, 1)], 0))], [], [([(0, 1)], (-5)), ([(0, (-1))], 5)]), [(([(0, 1)], 0), ([], 0)), (([(0, 1)], 0), ([], 1)), (([(0, 1)], 0), ([], 2)), (([(0, 1)], 0), ([], 3)), (([(0, 1)], 0), ([], 4))], [])
def ksC0_r6 (t : Nat) : sXr := (some (.inl sf32), sA0, [], ([], [(0, ([(7, 1)], 0))], [], [([(0, 1)], (-8)), ([(0, (-1))], 8)]), [(([(0, 1)], 0), ([], 0)), (([(0, 1)], 0), ([], 1)), (([(0, 1)], 0), ([], 2)), (([(0, 1)], 0), ([], 3)), (([(0, 1)], 0), ([], 4)), (([(0, 1)], 0), ([], 5)), (([(0, 1)], 0), ([], 6)), (([(0, 1)], 0), ([], 7))], [])
def ksC0_r7 (t : Nat) : sXr := (some (.inl sf32), sA0, [], ([], [(0, ([(8, 1)], 0))], [], [([(0, 1)], (-11)), ([(0, (-1))], 11)]), [(([(0, 1)], 0), ([], 0)), (([(0, 1)], 0), ([], 1)), (([(0, 1)], 0), ([], 2)), (([(0, 1)], 0), ([], 3)), (([(0, 1)], 0), ([], 4)), (([(0, 1)], 0), ([], 5)), (([(0, 1)], 0), ([], 6)), (([(0, 1)], 0), ([], 7)), (([(0, 1)], 0), ([], 8)), (([(0, 1)], 0), ([], 9)), (([(0, 1)], 0), ([], 10))], [])
def ksC0_r8 (t : Nat) : sXr := (some (.inl sf32), sA0, [], ([], [(0, ([(8, 1)], 0))], [], [([(0, 1)], (-12)), ([(0, (-1))], 12), ([(9, 1)], 1), ([(9, (-1))], (-1))]), [(([(0, 1)], 0), ([], 0)), (([(0, 1)], 0), ([], 1)), (([(0, 1)], 0), ([], 2)), (([(0, 1)], 0), ([], 3)), (([(0, 1)], 0), ([], 4)), (([(0, 1)], 0), ([], 5)), (([(0, 1)], 0), ([], 6)), (([(0, 1)], 0), ([], 7)), (([(0, 1)], 0), ([], 8)), (([(0, 1)], 0), ([], 9)), (([(0, 1)], 0), ([], 10)), (([(0, 1)], 0), ([], 11))], [])
def ksC0_r9 (t : Nat) : sXr := (some (.inl sf32), sA0, [], ([], [(0, ([(9, 1)], 0))], [], [([(0, 1)], (-12)), ([(0, (-1))], 12)]), [(([(0, 1)], 0), ([], 0)), (([(0, 1)], 0), ([], 1)), (([(0, 1)], 0), ([], 2)), (([(0, 1)], 0), ([], 3)), (([(0, 1)], 0), ([], 4)), (([(0, 1)], 0), ([], 5)), (([(0, 1)], 0), ([], 6)), (([(0, 1)], 0), ([], 7)), (([(0, 1)], 0), ([], 8)), (([(0, 1)], 0), ([], 9)), (([(0, 1)], 0), ([], 10)), (([(0, 1)], 0), ([], 11)), (([(9, 1)], 0), ([], (-1)))], [])
def ksC0_r10 (t : Nat) : sXr := (some (.inl sf32), sA0, [], ([], [(0, ([(10, 1)], 0))], [], [([(0, 1)], (-13)), ([(0, (-1))], 13)]), [(([(0, 1)], 0), ([], 0)), (([(0, 1)], 0), ([], 1)), (([(0, 1)], 0), ([], 2)), (([(0, 1)], 0), ([], 3)), (([(0, 1)], 0), ([], 4)), (([(0, 1)], 0), ([], 5)), (([(0, 1)], 0), ([], 6)), (([(0, 1)], 0), ([], 7)), (([(0, 1)], 0), ([], 8)), (([(0, 1)], 0), ([], 9)), (([(0, 1)], 0), ([], 10)), (([(0, 1)], 0), ([], 11)), (([(0, 1)], 0), ([], 12))], [])
def ksC0_r11 (t : Nat) : sXr := (some (.inl sf32), sA0, [], ([], [(0, ([], (-1)))], [], []), [(([(0, 1)], 0), ([], 0)), (([(0, 1)], 0), ([], 1)), (([(0, 1)], 0), ([], 2)), (([(0, 1)], 0), ([], 3)), (([(0, 1)], 0), ([], 4)), (([(0, 1)], 0), ([], 5)), (([(0, 1)], 0), ([], 6)), (([(0, 1)], 0), ([], 7)), (([(0, 1)], 0), ([], 8)), (([(0, 1)], 0), ([], 9)), (([(0, 1)], 0), ([], 10)), (([(0, 1)], 0), ([], 11)), (([(0, 1)], 0), ([], 12)), (([(0, 1)], 0), ([], 13))], [])
theorem ksC0_b : ((List.range 2).all fun t => syfB swC sT0 (ksC0_m t) 400 1 175 (ksC0_L t) (ksC0_A t) (ksC0_P t) (ksC0_G t) (ksC0_B t) [ksC0_e0 t, ksC0_e1 t, ksC0_e2 t, ksC0_e3 t] [ksC0_r0 t, ksC0_r1 t, ksC0_r2 t, ksC0_r3 t, ksC0_r4 t, ksC0_r5 t, ksC0_r6 t, ksC0_r7 t, ksC0_r8 t, ksC0_r9 t, ksC0_r10 t, ksC0_r11 t]) = true := by decide +kernel
theorem ksC0 {l : Launch} {Γ : zG} {d : Nat} (hd : 1 ≤ d) {Kp : Option Value → zH → Prop} {h : zH} {t : Nat} (h_t : t < 2) {x n0 n1 n3 n4 kn mi tx sz kb un : Int} (hi : sInv swC h) (b_x : (-2147483648) ≤ x ∧ x ≤ 2147483647) (b_n0 : 0 ≤ n0 ∧ n0 ≤ 5) (b_n1 : 0 ≤ n1 ∧ n1 ≤ 8) (b_n3 : 0 ≤ n3 ∧ n3 ≤ 10) (b_n4 : 0 ≤ n4 ∧ n4 ≤ 6) (b_kn : 0 ≤ kn ∧ kn ≤ 64) (b_mi : (-2147483648) ≤ mi ∧ mi ≤ 2147483647) (b_tx : (-2147483648) ≤ tx ∧ tx ≤ 2147483647) (b_sz : 0 ≤ sz ∧ sz ≤ 24) (b_kb : (-1) ≤ kb ∧ kb ≤ 24) (b_un : 0 ≤ un ∧ un ≤ 20) {x_x : Int32} (e_x : x_x.toInt = x) (p_n0 : pI h (17 * t + 10) 3 = n0) (p_n1 : pI h (17 * t + 12) 3 = n1) (p_n3 : pI h (17 * t + 16) 3 = n3) (p_n4 : pI h (17 * t + 18) 3 = n4) (p_kn : pI h (17 * t + 20) 2 = kn) (p_mi : pI h 43 0 = mi) (p_tx : pI h 43 2 = tx) (p_sz : pI h 91 6 = sz) (p_kb : pI h 91 7 = kb) (p_un : pI h 86 4 = un) (q0 : h.2.2.2 0 5 = some (17 * t + 9)) (d0 : 0 ≤ sz - kb)
    (hE0 : ∀ (lo' : zL) (h' : zH), sInv swC h' → sMd (ksC0_m t) h h' → x = 6 → x ≠ 0 → x ≠ 1 → x ≠ 2 → x ≠ 3 → x ≠ 4 → x ≠ 5 → zX l Γ false (d + 1) (zhd 175) (zMQ' Γ false (zhd 175) Kp) 0 0 139 lo' [.ref 43] h')
    (hE1 : ∀ (lo' : zL) (h' : zH), sInv swC h' → sMd (ksC0_m t) h h' → x = 7 → x ≠ 0 → x ≠ 1 → x ≠ 2 → x ≠ 3 → x ≠ 4 → x ≠ 5 → x ≠ 6 → zX l Γ false (d + 1) (zhd 175) (zMQ' Γ false (zhd 175) Kp) 0 0 147 lo' [.ref 43] h')
    (hE2 : ∀ (lo' : zL) (h' : zH), sInv swC h' → sMd (ksC0_m t) h h' → x = 9 → x ≠ 0 → x ≠ 1 → x ≠ 2 → x ≠ 3 → x ≠ 4 → x ≠ 5 → x ≠ 6 → x ≠ 7 → x ≠ 8 → zX l Γ false (d + 1) (zhd 175) (zMQ' Γ false (zhd 175) Kp) 0 0 163 lo' [.ref 43] h')
    (hE3 : ∀ (lo' : zL) (h' : zH), sInv swC h' → sMd (ksC0_m t) h h' → x = 10 → x ≠ 0 → x ≠ 1 → x ≠ 2 → x ≠ 3 → x ≠ 4 → x ≠ 5 → x ≠ 6 → x ≠ 7 → x ≠ 8 → x ≠ 9 → zX l Γ false (d + 1) (zhd 175) (zMQ' Γ false (zhd 175) Kp) 0 0 171 lo' [.ref 43] h')
    (hR0 : ∀ (h' : zH) (r_ : Int32), sInv swC h' → sMd (ksC0_m t) h h' → x = 0 → r_.toInt = n0 → Kp (some (.int r_)) h')
    (hR1 : ∀ (h' : zH) (r_ : Int32), sInv swC h' → sMd (ksC0_m t) h h' → x = 1 → x ≠ 0 → r_.toInt = n1 → Kp (some (.int r_)) h')
    (hR2 : ∀ (h' : zH) (r_ : Int32), sInv swC h' → sMd (ksC0_m t) h h' → x = 2 → x ≠ 0 → x ≠ 1 → r_.toInt = n3 → Kp (some (.int r_)) h')
    (hR3 : ∀ (h' : zH) (r_ : Int32), sInv swC h' → sMd (ksC0_m t) h h' → x = 3 → x ≠ 0 → x ≠ 1 → x ≠ 2 → r_.toInt = n4 → Kp (some (.int r_)) h')
    (hR4 : ∀ (h' : zH) (r_ : Int32), sInv swC h' → sMd (ksC0_m t) h h' → x = 4 → x ≠ 0 → x ≠ 1 → x ≠ 2 → x ≠ 3 → r_.toInt = kn → Kp (some (.int r_)) h')
    (hR5 : ∀ (h' : zH) (r_ : Int32), sInv swC h' → sMd (ksC0_m t) h h' → x = 5 → x ≠ 0 → x ≠ 1 → x ≠ 2 → x ≠ 3 → x ≠ 4 → r_.toInt = mi → Kp (some (.int r_)) h')
    (hR6 : ∀ (h' : zH) (r_ : Int32), sInv swC h' → sMd (ksC0_m t) h h' → x = 8 → x ≠ 0 → x ≠ 1 → x ≠ 2 → x ≠ 3 → x ≠ 4 → x ≠ 5 → x ≠ 6 → x ≠ 7 → r_.toInt = tx → Kp (some (.int r_)) h')
    (hR7 : ∀ (h' : zH) (r_ : Int32), sInv swC h' → sMd (ksC0_m t) h h' → x = 11 → x ≠ 0 → x ≠ 1 → x ≠ 2 → x ≠ 3 → x ≠ 4 → x ≠ 5 → x ≠ 6 → x ≠ 7 → x ≠ 8 → x ≠ 9 → x ≠ 10 → r_.toInt = sz → Kp (some (.int r_)) h')
    (hR8 : ∀ (h' : zH) (r_ : Int32), sInv swC h' → sMd (ksC0_m t) h h' → x = 12 → kb = (-1) → x ≠ 0 → x ≠ 1 → x ≠ 2 → x ≠ 3 → x ≠ 4 → x ≠ 5 → x ≠ 6 → x ≠ 7 → x ≠ 8 → x ≠ 9 → x ≠ 10 → x ≠ 11 → r_.toInt = sz → Kp (some (.int r_)) h')
    (hR9 : ∀ (h' : zH) (r_ : Int32), sInv swC h' → sMd (ksC0_m t) h h' → x = 12 → x ≠ 0 → x ≠ 1 → x ≠ 2 → x ≠ 3 → x ≠ 4 → x ≠ 5 → x ≠ 6 → x ≠ 7 → x ≠ 8 → x ≠ 9 → x ≠ 10 → x ≠ 11 → kb ≠ (-1) → r_.toInt = kb → Kp (some (.int r_)) h')
    (hR10 : ∀ (h' : zH) (r_ : Int32), sInv swC h' → sMd (ksC0_m t) h h' → x = 13 → x ≠ 0 → x ≠ 1 → x ≠ 2 → x ≠ 3 → x ≠ 4 → x ≠ 5 → x ≠ 6 → x ≠ 7 → x ≠ 8 → x ≠ 9 → x ≠ 10 → x ≠ 11 → x ≠ 12 → r_.toInt = un → Kp (some (.int r_)) h')
    (hR11 : ∀ (h' : zH) (r_ : Int32), sInv swC h' → sMd (ksC0_m t) h h' → x ≠ 0 → x ≠ 1 → x ≠ 2 → x ≠ 3 → x ≠ 4 → x ≠ 5 → x ≠ 6 → x ≠ 7 → x ≠ 8 → x ≠ 9 → x ≠ 10 → x ≠ 11 → x ≠ 12 → x ≠ 13 → r_.toInt = (-1) → Kp (some (.int r_)) h') : zSem l Γ false (d + 1) (zhd 175) [.ref 0, .int x_x] h Kp := by
  refine syf_ok (mi := 175) (fun i => [x, n0, n1, n3, n4, kn, mi, tx, sz, kb, un].getD i 0) (zall_r ksC0_b h_t) (fun _ _ hc _ => nomatch hc) hd ⟨_, _, rfl, rfl, ⟨_, _, rfl, ⟨x_x, rfl, by show (-2147483648) ≤ x_x.toInt; omega, by show x_x.toInt ≤ 2147483647; omega⟩, rfl⟩⟩ ⟨rfl, ⟨x_x, rfl, e_x, by show (-2147483648) ≤ x; omega, by show x ≤ 2147483647; omega⟩, trivial⟩ ⟨(fun _ hc => nomatch hc), (sfm q0 (fun _ hc => nomatch hc)), (fun _ hc => nomatch hc), Or.inl rfl⟩ ⟨⟨p_n0, by show 0 ≤ n0; omega, by show n0 ≤ 5; omega⟩, ⟨p_n1, by show 0 ≤ n1; omega, by show n1 ≤ 8; omega⟩, ⟨p_n3, by show 0 ≤ n3; omega, by show n3 ≤ 10; omega⟩, ⟨p_n4, by show 0 ≤ n4; omega, by show n4 ≤ 6; omega⟩, ⟨p_kn, by show 0 ≤ kn; omega, by show kn ≤ 64; omega⟩, ⟨p_mi, by show (-2147483648) ≤ mi; omega, by show mi ≤ 2147483647; omega⟩, ⟨p_tx, by show (-2147483648) ≤ tx; omega, by show tx ≤ 2147483647; omega⟩, ⟨p_sz, by show 0 ≤ sz; omega, by show sz ≤ 24; omega⟩, ⟨p_kb, by show (-1) ≤ kb; omega, by show kb ≤ 24; omega⟩, ⟨p_un, by show 0 ≤ un; omega, by show un ≤ 20; omega⟩, trivial⟩ trivial (sfm d0 (fun _ hc => nomatch hc)) hi ?_ ?_
  · intro e he lo' st' h' hp hi' hm
    rcases List.mem_cons.mp he with rfl | he
    · obtain ⟨p1, p2, -, hz⟩ := hp
      obtain ⟨⟨z1, z2, z3, z4⟩, z5, z6⟩ := hz
      have c0 : x = 6 := by have q_ : (0 : Int) ≤ (1 * x + 0) + (-6) := z4 ([(0, 1)], (-6)) (List.mem_of_getElem? (i := 0) rfl); have q2_ : (0 : Int) ≤ ((-1) * x + 0) + 6 := z4 ([(0, (-1))], 6) (List.mem_of_getElem? (i := 1) rfl); omega
      have n0 : x ≠ 0 := fun e_ => z5 (([(0, 1)], 0), ([], 0)) (List.mem_of_getElem? (i := 0) rfl) (by show (1 * x + 0) + 0 = 0 + 0; omega)
      have n1 : x ≠ 1 := fun e_ => z5 (([(0, 1)], 0), ([], 1)) (List.mem_of_getElem? (i := 1) rfl) (by show (1 * x + 0) + 0 = 0 + 1; omega)
      have n2 : x ≠ 2 := fun e_ => z5 (([(0, 1)], 0), ([], 2)) (List.mem_of_getElem? (i := 2) rfl) (by show (1 * x + 0) + 0 = 0 + 2; omega)
      have n3 : x ≠ 3 := fun e_ => z5 (([(0, 1)], 0), ([], 3)) (List.mem_of_getElem? (i := 3) rfl) (by show (1 * x + 0) + 0 = 0 + 3; omega)
      have n4 : x ≠ 4 := fun e_ => z5 (([(0, 1)], 0), ([], 4)) (List.mem_of_getElem? (i := 4) rfl) (by show (1 * x + 0) + 0 = 0 + 4; omega)
      have n5 : x ≠ 5 := fun e_ => z5 (([(0, 1)], 0), ([], 5)) (List.mem_of_getElem? (i := 5) rfl) (by show (1 * x + 0) + 0 = 0 + 5; omega)
      obtain ⟨_, _, rfl, hr, p1⟩ := p1
      have hr : _ = Value.ref 43 := hr
      subst hr
      have p1 : _ = [] := p1
      subst p1
      exact hE0 lo' h' hi' hm c0 n0 n1 n2 n3 n4 n5
    rcases List.mem_cons.mp he with rfl | he
    · obtain ⟨p1, p2, -, hz⟩ := hp
      obtain ⟨⟨z1, z2, z3, z4⟩, z5, z6⟩ := hz
      have c0 : x = 7 := by have q_ : (0 : Int) ≤ (1 * x + 0) + (-7) := z4 ([(0, 1)], (-7)) (List.mem_of_getElem? (i := 0) rfl); have q2_ : (0 : Int) ≤ ((-1) * x + 0) + 7 := z4 ([(0, (-1))], 7) (List.mem_of_getElem? (i := 1) rfl); omega
      have n0 : x ≠ 0 := fun e_ => z5 (([(0, 1)], 0), ([], 0)) (List.mem_of_getElem? (i := 0) rfl) (by show (1 * x + 0) + 0 = 0 + 0; omega)
      have n1 : x ≠ 1 := fun e_ => z5 (([(0, 1)], 0), ([], 1)) (List.mem_of_getElem? (i := 1) rfl) (by show (1 * x + 0) + 0 = 0 + 1; omega)
      have n2 : x ≠ 2 := fun e_ => z5 (([(0, 1)], 0), ([], 2)) (List.mem_of_getElem? (i := 2) rfl) (by show (1 * x + 0) + 0 = 0 + 2; omega)
      have n3 : x ≠ 3 := fun e_ => z5 (([(0, 1)], 0), ([], 3)) (List.mem_of_getElem? (i := 3) rfl) (by show (1 * x + 0) + 0 = 0 + 3; omega)
      have n4 : x ≠ 4 := fun e_ => z5 (([(0, 1)], 0), ([], 4)) (List.mem_of_getElem? (i := 4) rfl) (by show (1 * x + 0) + 0 = 0 + 4; omega)
      have n5 : x ≠ 5 := fun e_ => z5 (([(0, 1)], 0), ([], 5)) (List.mem_of_getElem? (i := 5) rfl) (by show (1 * x + 0) + 0 = 0 + 5; omega)
      have n6 : x ≠ 6 := fun e_ => z5 (([(0, 1)], 0), ([], 6)) (List.mem_of_getElem? (i := 6) rfl) (by show (1 * x + 0) + 0 = 0 + 6; omega)
      obtain ⟨_, _, rfl, hr, p1⟩ := p1
      have hr : _ = Value.ref 43 := hr
      subst hr
      have p1 : _ = [] := p1
      subst p1
      exact hE1 lo' h' hi' hm c0 n0 n1 n2 n3 n4 n5 n6
    rcases List.mem_cons.mp he with rfl | he
    · obtain ⟨p1, p2, -, hz⟩ := hp
      obtain ⟨⟨z1, z2, z3, z4⟩, z5, z6⟩ := hz
      have c0 : x = 9 := by have q_ : (0 : Int) ≤ (1 * x + 0) + (-9) := z4 ([(0, 1)], (-9)) (List.mem_of_getElem? (i := 0) rfl); have q2_ : (0 : Int) ≤ ((-1) * x + 0) + 9 := z4 ([(0, (-1))], 9) (List.mem_of_getElem? (i := 1) rfl); omega
      have n0 : x ≠ 0 := fun e_ => z5 (([(0, 1)], 0), ([], 0)) (List.mem_of_getElem? (i := 0) rfl) (by show (1 * x + 0) + 0 = 0 + 0; omega)
      have n1 : x ≠ 1 := fun e_ => z5 (([(0, 1)], 0), ([], 1)) (List.mem_of_getElem? (i := 1) rfl) (by show (1 * x + 0) + 0 = 0 + 1; omega)
      have n2 : x ≠ 2 := fun e_ => z5 (([(0, 1)], 0), ([], 2)) (List.mem_of_getElem? (i := 2) rfl) (by show (1 * x + 0) + 0 = 0 + 2; omega)
      have n3 : x ≠ 3 := fun e_ => z5 (([(0, 1)], 0), ([], 3)) (List.mem_of_getElem? (i := 3) rfl) (by show (1 * x + 0) + 0 = 0 + 3; omega)
      have n4 : x ≠ 4 := fun e_ => z5 (([(0, 1)], 0), ([], 4)) (List.mem_of_getElem? (i := 4) rfl) (by show (1 * x + 0) + 0 = 0 + 4; omega)
      have n5 : x ≠ 5 := fun e_ => z5 (([(0, 1)], 0), ([], 5)) (List.mem_of_getElem? (i := 5) rfl) (by show (1 * x + 0) + 0 = 0 + 5; omega)
      have n6 : x ≠ 6 := fun e_ => z5 (([(0, 1)], 0), ([], 6)) (List.mem_of_getElem? (i := 6) rfl) (by show (1 * x + 0) + 0 = 0 + 6; omega)
      have n7 : x ≠ 7 := fun e_ => z5 (([(0, 1)], 0), ([], 7)) (List.mem_of_getElem? (i := 7) rfl) (by show (1 * x + 0) + 0 = 0 + 7; omega)
      have n8 : x ≠ 8 := fun e_ => z5 (([(0, 1)], 0), ([], 8)) (List.mem_of_getElem? (i := 8) rfl) (by show (1 * x + 0) + 0 = 0 + 8; omega)
      obtain ⟨_, _, rfl, hr, p1⟩ := p1
      have hr : _ = Value.ref 43 := hr
      subst hr
      have p1 : _ = [] := p1
      subst p1
      exact hE2 lo' h' hi' hm c0 n0 n1 n2 n3 n4 n5 n6 n7 n8
    rcases List.mem_cons.mp he with rfl | he
    · obtain ⟨p1, p2, -, hz⟩ := hp
      obtain ⟨⟨z1, z2, z3, z4⟩, z5, z6⟩ := hz
      have c0 : x = 10 := by have q_ : (0 : Int) ≤ (1 * x + 0) + (-10) := z4 ([(0, 1)], (-10)) (List.mem_of_getElem? (i := 0) rfl); have q2_ : (0 : Int) ≤ ((-1) * x + 0) + 10 := z4 ([(0, (-1))], 10) (List.mem_of_getElem? (i := 1) rfl); omega
      have n0 : x ≠ 0 := fun e_ => z5 (([(0, 1)], 0), ([], 0)) (List.mem_of_getElem? (i := 0) rfl) (by show (1 * x + 0) + 0 = 0 + 0; omega)
      have n1 : x ≠ 1 := fun e_ => z5 (([(0, 1)], 0), ([], 1)) (List.mem_of_getElem? (i := 1) rfl) (by show (1 * x + 0) + 0 = 0 + 1; omega)
      have n2 : x ≠ 2 := fun e_ => z5 (([(0, 1)], 0), ([], 2)) (List.mem_of_getElem? (i := 2) rfl) (by show (1 * x + 0) + 0 = 0 + 2; omega)
      have n3 : x ≠ 3 := fun e_ => z5 (([(0, 1)], 0), ([], 3)) (List.mem_of_getElem? (i := 3) rfl) (by show (1 * x + 0) + 0 = 0 + 3; omega)
      have n4 : x ≠ 4 := fun e_ => z5 (([(0, 1)], 0), ([], 4)) (List.mem_of_getElem? (i := 4) rfl) (by show (1 * x + 0) + 0 = 0 + 4; omega)
      have n5 : x ≠ 5 := fun e_ => z5 (([(0, 1)], 0), ([], 5)) (List.mem_of_getElem? (i := 5) rfl) (by show (1 * x + 0) + 0 = 0 + 5; omega)
      have n6 : x ≠ 6 := fun e_ => z5 (([(0, 1)], 0), ([], 6)) (List.mem_of_getElem? (i := 6) rfl) (by show (1 * x + 0) + 0 = 0 + 6; omega)
      have n7 : x ≠ 7 := fun e_ => z5 (([(0, 1)], 0), ([], 7)) (List.mem_of_getElem? (i := 7) rfl) (by show (1 * x + 0) + 0 = 0 + 7; omega)
      have n8 : x ≠ 8 := fun e_ => z5 (([(0, 1)], 0), ([], 8)) (List.mem_of_getElem? (i := 8) rfl) (by show (1 * x + 0) + 0 = 0 + 8; omega)
      have n9 : x ≠ 9 := fun e_ => z5 (([(0, 1)], 0), ([], 9)) (List.mem_of_getElem? (i := 9) rfl) (by show (1 * x + 0) + 0 = 0 + 9; omega)
      obtain ⟨_, _, rfl, hr, p1⟩ := p1
      have hr : _ = Value.ref 43 := hr
      subst hr
      have p1 : _ = [] := p1
      subst p1
      exact hE3 lo' h' hi' hm c0 n0 n1 n2 n3 n4 n5 n6 n7 n8 n9
    cases he
  · intro e he r' h' hp hi' hm
    rcases List.mem_cons.mp he with rfl | he
    · obtain ⟨p1, -, hz⟩ := hp
      obtain ⟨⟨z1, z2, z3, z4⟩, z5, z6⟩ := hz
      have c0 : x = 0 := by have q_ : (0 : Int) ≤ (1 * x + 0) + 0 := z4 ([(0, 1)], 0) (List.mem_of_getElem? (i := 0) rfl); have q2_ : (0 : Int) ≤ ((-1) * x + 0) + 0 := z4 ([(0, (-1))], 0) (List.mem_of_getElem? (i := 1) rfl); omega
      obtain ⟨r_, rfl, hv⟩ := ansI p1 (z2 (0, ([(1, 1)], 0)) (List.mem_of_getElem? (i := 0) rfl))
      have s0 : r_.toInt = n0 := (show r_.toInt = (1 * n0 + 0) + 0 from hv).trans (by omega)
      exact hR0 h' r_ hi' hm c0 s0
    rcases List.mem_cons.mp he with rfl | he
    · obtain ⟨p1, -, hz⟩ := hp
      obtain ⟨⟨z1, z2, z3, z4⟩, z5, z6⟩ := hz
      have c0 : x = 1 := by have q_ : (0 : Int) ≤ (1 * x + 0) + (-1) := z4 ([(0, 1)], (-1)) (List.mem_of_getElem? (i := 0) rfl); have q2_ : (0 : Int) ≤ ((-1) * x + 0) + 1 := z4 ([(0, (-1))], 1) (List.mem_of_getElem? (i := 1) rfl); omega
      have n0 : x ≠ 0 := fun e_ => z5 (([(0, 1)], 0), ([], 0)) (List.mem_of_getElem? (i := 0) rfl) (by show (1 * x + 0) + 0 = 0 + 0; omega)
      obtain ⟨r_, rfl, hv⟩ := ansI p1 (z2 (0, ([(2, 1)], 0)) (List.mem_of_getElem? (i := 0) rfl))
      have s0 : r_.toInt = n1 := (show r_.toInt = (1 * n1 + 0) + 0 from hv).trans (by omega)
      exact hR1 h' r_ hi' hm c0 n0 s0
    rcases List.mem_cons.mp he with rfl | he
    · obtain ⟨p1, -, hz⟩ := hp
      obtain ⟨⟨z1, z2, z3, z4⟩, z5, z6⟩ := hz
      have c0 : x = 2 := by have q_ : (0 : Int) ≤ (1 * x + 0) + (-2) := z4 ([(0, 1)], (-2)) (List.mem_of_getElem? (i := 0) rfl); have q2_ : (0 : Int) ≤ ((-1) * x + 0) + 2 := z4 ([(0, (-1))], 2) (List.mem_of_getElem? (i := 1) rfl); omega
      have n0 : x ≠ 0 := fun e_ => z5 (([(0, 1)], 0), ([], 0)) (List.mem_of_getElem? (i := 0) rfl) (by show (1 * x + 0) + 0 = 0 + 0; omega)
      have n1 : x ≠ 1 := fun e_ => z5 (([(0, 1)], 0), ([], 1)) (List.mem_of_getElem? (i := 1) rfl) (by show (1 * x + 0) + 0 = 0 + 1; omega)
      obtain ⟨r_, rfl, hv⟩ := ansI p1 (z2 (0, ([(3, 1)], 0)) (List.mem_of_getElem? (i := 0) rfl))
      have s0 : r_.toInt = n3 := (show r_.toInt = (1 * n3 + 0) + 0 from hv).trans (by omega)
      exact hR2 h' r_ hi' hm c0 n0 n1 s0
    rcases List.mem_cons.mp he with rfl | he
    · obtain ⟨p1, -, hz⟩ := hp
      obtain ⟨⟨z1, z2, z3, z4⟩, z5, z6⟩ := hz
      have c0 : x = 3 := by have q_ : (0 : Int) ≤ (1 * x + 0) + (-3) := z4 ([(0, 1)], (-3)) (List.mem_of_getElem? (i := 0) rfl); have q2_ : (0 : Int) ≤ ((-1) * x + 0) + 3 := z4 ([(0, (-1))], 3) (List.mem_of_getElem? (i := 1) rfl); omega
      have n0 : x ≠ 0 := fun e_ => z5 (([(0, 1)], 0), ([], 0)) (List.mem_of_getElem? (i := 0) rfl) (by show (1 * x + 0) + 0 = 0 + 0; omega)
      have n1 : x ≠ 1 := fun e_ => z5 (([(0, 1)], 0), ([], 1)) (List.mem_of_getElem? (i := 1) rfl) (by show (1 * x + 0) + 0 = 0 + 1; omega)
      have n2 : x ≠ 2 := fun e_ => z5 (([(0, 1)], 0), ([], 2)) (List.mem_of_getElem? (i := 2) rfl) (by show (1 * x + 0) + 0 = 0 + 2; omega)
      obtain ⟨r_, rfl, hv⟩ := ansI p1 (z2 (0, ([(4, 1)], 0)) (List.mem_of_getElem? (i := 0) rfl))
      have s0 : r_.toInt = n4 := (show r_.toInt = (1 * n4 + 0) + 0 from hv).trans (by omega)
      exact hR3 h' r_ hi' hm c0 n0 n1 n2 s0
    rcases List.mem_cons.mp he with rfl | he
    · obtain ⟨p1, -, hz⟩ := hp
      obtain ⟨⟨z1, z2, z3, z4⟩, z5, z6⟩ := hz
      have c0 : x = 4 := by have q_ : (0 : Int) ≤ (1 * x + 0) + (-4) := z4 ([(0, 1)], (-4)) (List.mem_of_getElem? (i := 0) rfl); have q2_ : (0 : Int) ≤ ((-1) * x + 0) + 4 := z4 ([(0, (-1))], 4) (List.mem_of_getElem? (i := 1) rfl); omega
      have n0 : x ≠ 0 := fun e_ => z5 (([(0, 1)], 0), ([], 0)) (List.mem_of_getElem? (i := 0) rfl) (by show (1 * x + 0) + 0 = 0 + 0; omega)
      have n1 : x ≠ 1 := fun e_ => z5 (([(0, 1)], 0), ([], 1)) (List.mem_of_getElem? (i := 1) rfl) (by show (1 * x + 0) + 0 = 0 + 1; omega)
      have n2 : x ≠ 2 := fun e_ => z5 (([(0, 1)], 0), ([], 2)) (List.mem_of_getElem? (i := 2) rfl) (by show (1 * x + 0) + 0 = 0 + 2; omega)
      have n3 : x ≠ 3 := fun e_ => z5 (([(0, 1)], 0), ([], 3)) (List.mem_of_getElem? (i := 3) rfl) (by show (1 * x + 0) + 0 = 0 + 3; omega)
      obtain ⟨r_, rfl, hv⟩ := ansI p1 (z2 (0, ([(5, 1)], 0)) (List.mem_of_getElem? (i := 0) rfl))
      have s0 : r_.toInt = kn := (show r_.toInt = (1 * kn + 0) + 0 from hv).trans (by omega)
      exact hR4 h' r_ hi' hm c0 n0 n1 n2 n3 s0
    rcases List.mem_cons.mp he with rfl | he
    · obtain ⟨p1, -, hz⟩ := hp
      obtain ⟨⟨z1, z2, z3, z4⟩, z5, z6⟩ := hz
      have c0 : x = 5 := by have q_ : (0 : Int) ≤ (1 * x + 0) + (-5) := z4 ([(0, 1)], (-5)) (List.mem_of_getElem? (i := 0) rfl); have q2_ : (0 : Int) ≤ ((-1) * x + 0) + 5 := z4 ([(0, (-1))], 5) (List.mem_of_getElem? (i := 1) rfl); omega
      have n0 : x ≠ 0 := fun e_ => z5 (([(0, 1)], 0), ([], 0)) (List.mem_of_getElem? (i := 0) rfl) (by show (1 * x + 0) + 0 = 0 + 0; omega)
      have n1 : x ≠ 1 := fun e_ => z5 (([(0, 1)], 0), ([], 1)) (List.mem_of_getElem? (i := 1) rfl) (by show (1 * x + 0) + 0 = 0 + 1; omega)
      have n2 : x ≠ 2 := fun e_ => z5 (([(0, 1)], 0), ([], 2)) (List.mem_of_getElem? (i := 2) rfl) (by show (1 * x + 0) + 0 = 0 + 2; omega)
      have n3 : x ≠ 3 := fun e_ => z5 (([(0, 1)], 0), ([], 3)) (List.mem_of_getElem? (i := 3) rfl) (by show (1 * x + 0) + 0 = 0 + 3; omega)
      have n4 : x ≠ 4 := fun e_ => z5 (([(0, 1)], 0), ([], 4)) (List.mem_of_getElem? (i := 4) rfl) (by show (1 * x + 0) + 0 = 0 + 4; omega)
      obtain ⟨r_, rfl, hv⟩ := ansI p1 (z2 (0, ([(6, 1)], 0)) (List.mem_of_getElem? (i := 0) rfl))
      have s0 : r_.toInt = mi := (show r_.toInt = (1 * mi + 0) + 0 from hv).trans (by omega)
      exact hR5 h' r_ hi' hm c0 n0 n1 n2 n3 n4 s0
    rcases List.mem_cons.mp he with rfl | he
    · obtain ⟨p1, -, hz⟩ := hp
      obtain ⟨⟨z1, z2, z3, z4⟩, z5, z6⟩ := hz
      have c0 : x = 8 := by have q_ : (0 : Int) ≤ (1 * x + 0) + (-8) := z4 ([(0, 1)], (-8)) (List.mem_of_getElem? (i := 0) rfl); have q2_ : (0 : Int) ≤ ((-1) * x + 0) + 8 := z4 ([(0, (-1))], 8) (List.mem_of_getElem? (i := 1) rfl); omega
      have n0 : x ≠ 0 := fun e_ => z5 (([(0, 1)], 0), ([], 0)) (List.mem_of_getElem? (i := 0) rfl) (by show (1 * x + 0) + 0 = 0 + 0; omega)
      have n1 : x ≠ 1 := fun e_ => z5 (([(0, 1)], 0), ([], 1)) (List.mem_of_getElem? (i := 1) rfl) (by show (1 * x + 0) + 0 = 0 + 1; omega)
      have n2 : x ≠ 2 := fun e_ => z5 (([(0, 1)], 0), ([], 2)) (List.mem_of_getElem? (i := 2) rfl) (by show (1 * x + 0) + 0 = 0 + 2; omega)
      have n3 : x ≠ 3 := fun e_ => z5 (([(0, 1)], 0), ([], 3)) (List.mem_of_getElem? (i := 3) rfl) (by show (1 * x + 0) + 0 = 0 + 3; omega)
      have n4 : x ≠ 4 := fun e_ => z5 (([(0, 1)], 0), ([], 4)) (List.mem_of_getElem? (i := 4) rfl) (by show (1 * x + 0) + 0 = 0 + 4; omega)
      have n5 : x ≠ 5 := fun e_ => z5 (([(0, 1)], 0), ([], 5)) (List.mem_of_getElem? (i := 5) rfl) (by show (1 * x + 0) + 0 = 0 + 5; omega)
      have n6 : x ≠ 6 := fun e_ => z5 (([(0, 1)], 0), ([], 6)) (List.mem_of_getElem? (i := 6) rfl) (by show (1 * x + 0) + 0 = 0 + 6; omega)
      have n7 : x ≠ 7 := fun e_ => z5 (([(0, 1)], 0), ([], 7)) (List.mem_of_getElem? (i := 7) rfl) (by show (1 * x + 0) + 0 = 0 + 7; omega)
      obtain ⟨r_, rfl, hv⟩ := ansI p1 (z2 (0, ([(7, 1)], 0)) (List.mem_of_getElem? (i := 0) rfl))
      have s0 : r_.toInt = tx := (show r_.toInt = (1 * tx + 0) + 0 from hv).trans (by omega)
      exact hR6 h' r_ hi' hm c0 n0 n1 n2 n3 n4 n5 n6 n7 s0
    rcases List.mem_cons.mp he with rfl | he
    · obtain ⟨p1, -, hz⟩ := hp
      obtain ⟨⟨z1, z2, z3, z4⟩, z5, z6⟩ := hz
      have c0 : x = 11 := by have q_ : (0 : Int) ≤ (1 * x + 0) + (-11) := z4 ([(0, 1)], (-11)) (List.mem_of_getElem? (i := 0) rfl); have q2_ : (0 : Int) ≤ ((-1) * x + 0) + 11 := z4 ([(0, (-1))], 11) (List.mem_of_getElem? (i := 1) rfl); omega
      have n0 : x ≠ 0 := fun e_ => z5 (([(0, 1)], 0), ([], 0)) (List.mem_of_getElem? (i := 0) rfl) (by show (1 * x + 0) + 0 = 0 + 0; omega)
      have n1 : x ≠ 1 := fun e_ => z5 (([(0, 1)], 0), ([], 1)) (List.mem_of_getElem? (i := 1) rfl) (by show (1 * x + 0) + 0 = 0 + 1; omega)
      have n2 : x ≠ 2 := fun e_ => z5 (([(0, 1)], 0), ([], 2)) (List.mem_of_getElem? (i := 2) rfl) (by show (1 * x + 0) + 0 = 0 + 2; omega)
      have n3 : x ≠ 3 := fun e_ => z5 (([(0, 1)], 0), ([], 3)) (List.mem_of_getElem? (i := 3) rfl) (by show (1 * x + 0) + 0 = 0 + 3; omega)
      have n4 : x ≠ 4 := fun e_ => z5 (([(0, 1)], 0), ([], 4)) (List.mem_of_getElem? (i := 4) rfl) (by show (1 * x + 0) + 0 = 0 + 4; omega)
      have n5 : x ≠ 5 := fun e_ => z5 (([(0, 1)], 0), ([], 5)) (List.mem_of_getElem? (i := 5) rfl) (by show (1 * x + 0) + 0 = 0 + 5; omega)
      have n6 : x ≠ 6 := fun e_ => z5 (([(0, 1)], 0), ([], 6)) (List.mem_of_getElem? (i := 6) rfl) (by show (1 * x + 0) + 0 = 0 + 6; omega)
      have n7 : x ≠ 7 := fun e_ => z5 (([(0, 1)], 0), ([], 7)) (List.mem_of_getElem? (i := 7) rfl) (by show (1 * x + 0) + 0 = 0 + 7; omega)
      have n8 : x ≠ 8 := fun e_ => z5 (([(0, 1)], 0), ([], 8)) (List.mem_of_getElem? (i := 8) rfl) (by show (1 * x + 0) + 0 = 0 + 8; omega)
      have n9 : x ≠ 9 := fun e_ => z5 (([(0, 1)], 0), ([], 9)) (List.mem_of_getElem? (i := 9) rfl) (by show (1 * x + 0) + 0 = 0 + 9; omega)
      have n10 : x ≠ 10 := fun e_ => z5 (([(0, 1)], 0), ([], 10)) (List.mem_of_getElem? (i := 10) rfl) (by show (1 * x + 0) + 0 = 0 + 10; omega)
      obtain ⟨r_, rfl, hv⟩ := ansI p1 (z2 (0, ([(8, 1)], 0)) (List.mem_of_getElem? (i := 0) rfl))
      have s0 : r_.toInt = sz := (show r_.toInt = (1 * sz + 0) + 0 from hv).trans (by omega)
      exact hR7 h' r_ hi' hm c0 n0 n1 n2 n3 n4 n5 n6 n7 n8 n9 n10 s0
    rcases List.mem_cons.mp he with rfl | he
    · obtain ⟨p1, -, hz⟩ := hp
      obtain ⟨⟨z1, z2, z3, z4⟩, z5, z6⟩ := hz
      have c0 : x = 12 := by have q_ : (0 : Int) ≤ (1 * x + 0) + (-12) := z4 ([(0, 1)], (-12)) (List.mem_of_getElem? (i := 0) rfl); have q2_ : (0 : Int) ≤ ((-1) * x + 0) + 12 := z4 ([(0, (-1))], 12) (List.mem_of_getElem? (i := 1) rfl); omega
      have c2 : kb = (-1) := by have q_ : (0 : Int) ≤ (1 * kb + 0) + 1 := z4 ([(9, 1)], 1) (List.mem_of_getElem? (i := 2) rfl); have q2_ : (0 : Int) ≤ ((-1) * kb + 0) + (-1) := z4 ([(9, (-1))], (-1)) (List.mem_of_getElem? (i := 3) rfl); omega
      have n0 : x ≠ 0 := fun e_ => z5 (([(0, 1)], 0), ([], 0)) (List.mem_of_getElem? (i := 0) rfl) (by show (1 * x + 0) + 0 = 0 + 0; omega)
      have n1 : x ≠ 1 := fun e_ => z5 (([(0, 1)], 0), ([], 1)) (List.mem_of_getElem? (i := 1) rfl) (by show (1 * x + 0) + 0 = 0 + 1; omega)
      have n2 : x ≠ 2 := fun e_ => z5 (([(0, 1)], 0), ([], 2)) (List.mem_of_getElem? (i := 2) rfl) (by show (1 * x + 0) + 0 = 0 + 2; omega)
      have n3 : x ≠ 3 := fun e_ => z5 (([(0, 1)], 0), ([], 3)) (List.mem_of_getElem? (i := 3) rfl) (by show (1 * x + 0) + 0 = 0 + 3; omega)
      have n4 : x ≠ 4 := fun e_ => z5 (([(0, 1)], 0), ([], 4)) (List.mem_of_getElem? (i := 4) rfl) (by show (1 * x + 0) + 0 = 0 + 4; omega)
      have n5 : x ≠ 5 := fun e_ => z5 (([(0, 1)], 0), ([], 5)) (List.mem_of_getElem? (i := 5) rfl) (by show (1 * x + 0) + 0 = 0 + 5; omega)
      have n6 : x ≠ 6 := fun e_ => z5 (([(0, 1)], 0), ([], 6)) (List.mem_of_getElem? (i := 6) rfl) (by show (1 * x + 0) + 0 = 0 + 6; omega)
      have n7 : x ≠ 7 := fun e_ => z5 (([(0, 1)], 0), ([], 7)) (List.mem_of_getElem? (i := 7) rfl) (by show (1 * x + 0) + 0 = 0 + 7; omega)
      have n8 : x ≠ 8 := fun e_ => z5 (([(0, 1)], 0), ([], 8)) (List.mem_of_getElem? (i := 8) rfl) (by show (1 * x + 0) + 0 = 0 + 8; omega)
      have n9 : x ≠ 9 := fun e_ => z5 (([(0, 1)], 0), ([], 9)) (List.mem_of_getElem? (i := 9) rfl) (by show (1 * x + 0) + 0 = 0 + 9; omega)
      have n10 : x ≠ 10 := fun e_ => z5 (([(0, 1)], 0), ([], 10)) (List.mem_of_getElem? (i := 10) rfl) (by show (1 * x + 0) + 0 = 0 + 10; omega)
      have n11 : x ≠ 11 := fun e_ => z5 (([(0, 1)], 0), ([], 11)) (List.mem_of_getElem? (i := 11) rfl) (by show (1 * x + 0) + 0 = 0 + 11; omega)
      obtain ⟨r_, rfl, hv⟩ := ansI p1 (z2 (0, ([(8, 1)], 0)) (List.mem_of_getElem? (i := 0) rfl))
      have s0 : r_.toInt = sz := (show r_.toInt = (1 * sz + 0) + 0 from hv).trans (by omega)
      exact hR8 h' r_ hi' hm c0 c2 n0 n1 n2 n3 n4 n5 n6 n7 n8 n9 n10 n11 s0
    rcases List.mem_cons.mp he with rfl | he
    · obtain ⟨p1, -, hz⟩ := hp
      obtain ⟨⟨z1, z2, z3, z4⟩, z5, z6⟩ := hz
      have c0 : x = 12 := by have q_ : (0 : Int) ≤ (1 * x + 0) + (-12) := z4 ([(0, 1)], (-12)) (List.mem_of_getElem? (i := 0) rfl); have q2_ : (0 : Int) ≤ ((-1) * x + 0) + 12 := z4 ([(0, (-1))], 12) (List.mem_of_getElem? (i := 1) rfl); omega
      have n0 : x ≠ 0 := fun e_ => z5 (([(0, 1)], 0), ([], 0)) (List.mem_of_getElem? (i := 0) rfl) (by show (1 * x + 0) + 0 = 0 + 0; omega)
      have n1 : x ≠ 1 := fun e_ => z5 (([(0, 1)], 0), ([], 1)) (List.mem_of_getElem? (i := 1) rfl) (by show (1 * x + 0) + 0 = 0 + 1; omega)
      have n2 : x ≠ 2 := fun e_ => z5 (([(0, 1)], 0), ([], 2)) (List.mem_of_getElem? (i := 2) rfl) (by show (1 * x + 0) + 0 = 0 + 2; omega)
      have n3 : x ≠ 3 := fun e_ => z5 (([(0, 1)], 0), ([], 3)) (List.mem_of_getElem? (i := 3) rfl) (by show (1 * x + 0) + 0 = 0 + 3; omega)
      have n4 : x ≠ 4 := fun e_ => z5 (([(0, 1)], 0), ([], 4)) (List.mem_of_getElem? (i := 4) rfl) (by show (1 * x + 0) + 0 = 0 + 4; omega)
      have n5 : x ≠ 5 := fun e_ => z5 (([(0, 1)], 0), ([], 5)) (List.mem_of_getElem? (i := 5) rfl) (by show (1 * x + 0) + 0 = 0 + 5; omega)
      have n6 : x ≠ 6 := fun e_ => z5 (([(0, 1)], 0), ([], 6)) (List.mem_of_getElem? (i := 6) rfl) (by show (1 * x + 0) + 0 = 0 + 6; omega)
      have n7 : x ≠ 7 := fun e_ => z5 (([(0, 1)], 0), ([], 7)) (List.mem_of_getElem? (i := 7) rfl) (by show (1 * x + 0) + 0 = 0 + 7; omega)
      have n8 : x ≠ 8 := fun e_ => z5 (([(0, 1)], 0), ([], 8)) (List.mem_of_getElem? (i := 8) rfl) (by show (1 * x + 0) + 0 = 0 + 8; omega)
      have n9 : x ≠ 9 := fun e_ => z5 (([(0, 1)], 0), ([], 9)) (List.mem_of_getElem? (i := 9) rfl) (by show (1 * x + 0) + 0 = 0 + 9; omega)
      have n10 : x ≠ 10 := fun e_ => z5 (([(0, 1)], 0), ([], 10)) (List.mem_of_getElem? (i := 10) rfl) (by show (1 * x + 0) + 0 = 0 + 10; omega)
      have n11 : x ≠ 11 := fun e_ => z5 (([(0, 1)], 0), ([], 11)) (List.mem_of_getElem? (i := 11) rfl) (by show (1 * x + 0) + 0 = 0 + 11; omega)
      have n12 : kb ≠ (-1) := fun e_ => z5 (([(9, 1)], 0), ([], (-1))) (List.mem_of_getElem? (i := 12) rfl) (by show (1 * kb + 0) + 0 = 0 + (-1); omega)
      obtain ⟨r_, rfl, hv⟩ := ansI p1 (z2 (0, ([(9, 1)], 0)) (List.mem_of_getElem? (i := 0) rfl))
      have s0 : r_.toInt = kb := (show r_.toInt = (1 * kb + 0) + 0 from hv).trans (by omega)
      exact hR9 h' r_ hi' hm c0 n0 n1 n2 n3 n4 n5 n6 n7 n8 n9 n10 n11 n12 s0
    rcases List.mem_cons.mp he with rfl | he
    · obtain ⟨p1, -, hz⟩ := hp
      obtain ⟨⟨z1, z2, z3, z4⟩, z5, z6⟩ := hz
      have c0 : x = 13 := by have q_ : (0 : Int) ≤ (1 * x + 0) + (-13) := z4 ([(0, 1)], (-13)) (List.mem_of_getElem? (i := 0) rfl); have q2_ : (0 : Int) ≤ ((-1) * x + 0) + 13 := z4 ([(0, (-1))], 13) (List.mem_of_getElem? (i := 1) rfl); omega
      have n0 : x ≠ 0 := fun e_ => z5 (([(0, 1)], 0), ([], 0)) (List.mem_of_getElem? (i := 0) rfl) (by show (1 * x + 0) + 0 = 0 + 0; omega)
      have n1 : x ≠ 1 := fun e_ => z5 (([(0, 1)], 0), ([], 1)) (List.mem_of_getElem? (i := 1) rfl) (by show (1 * x + 0) + 0 = 0 + 1; omega)
      have n2 : x ≠ 2 := fun e_ => z5 (([(0, 1)], 0), ([], 2)) (List.mem_of_getElem? (i := 2) rfl) (by show (1 * x + 0) + 0 = 0 + 2; omega)
      have n3 : x ≠ 3 := fun e_ => z5 (([(0, 1)], 0), ([], 3)) (List.mem_of_getElem? (i := 3) rfl) (by show (1 * x + 0) + 0 = 0 + 3; omega)
      have n4 : x ≠ 4 := fun e_ => z5 (([(0, 1)], 0), ([], 4)) (List.mem_of_getElem? (i := 4) rfl) (by show (1 * x + 0) + 0 = 0 + 4; omega)
      have n5 : x ≠ 5 := fun e_ => z5 (([(0, 1)], 0), ([], 5)) (List.mem_of_getElem? (i := 5) rfl) (by show (1 * x + 0) + 0 = 0 + 5; omega)
      have n6 : x ≠ 6 := fun e_ => z5 (([(0, 1)], 0), ([], 6)) (List.mem_of_getElem? (i := 6) rfl) (by show (1 * x + 0) + 0 = 0 + 6; omega)
      have n7 : x ≠ 7 := fun e_ => z5 (([(0, 1)], 0), ([], 7)) (List.mem_of_getElem? (i := 7) rfl) (by show (1 * x + 0) + 0 = 0 + 7; omega)
      have n8 : x ≠ 8 := fun e_ => z5 (([(0, 1)], 0), ([], 8)) (List.mem_of_getElem? (i := 8) rfl) (by show (1 * x + 0) + 0 = 0 + 8; omega)
      have n9 : x ≠ 9 := fun e_ => z5 (([(0, 1)], 0), ([], 9)) (List.mem_of_getElem? (i := 9) rfl) (by show (1 * x + 0) + 0 = 0 + 9; omega)
      have n10 : x ≠ 10 := fun e_ => z5 (([(0, 1)], 0), ([], 10)) (List.mem_of_getElem? (i := 10) rfl) (by show (1 * x + 0) + 0 = 0 + 10; omega)
      have n11 : x ≠ 11 := fun e_ => z5 (([(0, 1)], 0), ([], 11)) (List.mem_of_getElem? (i := 11) rfl) (by show (1 * x + 0) + 0 = 0 + 11; omega)
      have n12 : x ≠ 12 := fun e_ => z5 (([(0, 1)], 0), ([], 12)) (List.mem_of_getElem? (i := 12) rfl) (by show (1 * x + 0) + 0 = 0 + 12; omega)
      obtain ⟨r_, rfl, hv⟩ := ansI p1 (z2 (0, ([(10, 1)], 0)) (List.mem_of_getElem? (i := 0) rfl))
      have s0 : r_.toInt = un := (show r_.toInt = (1 * un + 0) + 0 from hv).trans (by omega)
      exact hR10 h' r_ hi' hm c0 n0 n1 n2 n3 n4 n5 n6 n7 n8 n9 n10 n11 n12 s0
    rcases List.mem_cons.mp he with rfl | he
    · obtain ⟨p1, -, hz⟩ := hp
      obtain ⟨⟨z1, z2, z3, z4⟩, z5, z6⟩ := hz
      have n0 : x ≠ 0 := fun e_ => z5 (([(0, 1)], 0), ([], 0)) (List.mem_of_getElem? (i := 0) rfl) (by show (1 * x + 0) + 0 = 0 + 0; omega)
      have n1 : x ≠ 1 := fun e_ => z5 (([(0, 1)], 0), ([], 1)) (List.mem_of_getElem? (i := 1) rfl) (by show (1 * x + 0) + 0 = 0 + 1; omega)
      have n2 : x ≠ 2 := fun e_ => z5 (([(0, 1)], 0), ([], 2)) (List.mem_of_getElem? (i := 2) rfl) (by show (1 * x + 0) + 0 = 0 + 2; omega)
      have n3 : x ≠ 3 := fun e_ => z5 (([(0, 1)], 0), ([], 3)) (List.mem_of_getElem? (i := 3) rfl) (by show (1 * x + 0) + 0 = 0 + 3; omega)
      have n4 : x ≠ 4 := fun e_ => z5 (([(0, 1)], 0), ([], 4)) (List.mem_of_getElem? (i := 4) rfl) (by show (1 * x + 0) + 0 = 0 + 4; omega)
      have n5 : x ≠ 5 := fun e_ => z5 (([(0, 1)], 0), ([], 5)) (List.mem_of_getElem? (i := 5) rfl) (by show (1 * x + 0) + 0 = 0 + 5; omega)
      have n6 : x ≠ 6 := fun e_ => z5 (([(0, 1)], 0), ([], 6)) (List.mem_of_getElem? (i := 6) rfl) (by show (1 * x + 0) + 0 = 0 + 6; omega)
      have n7 : x ≠ 7 := fun e_ => z5 (([(0, 1)], 0), ([], 7)) (List.mem_of_getElem? (i := 7) rfl) (by show (1 * x + 0) + 0 = 0 + 7; omega)
      have n8 : x ≠ 8 := fun e_ => z5 (([(0, 1)], 0), ([], 8)) (List.mem_of_getElem? (i := 8) rfl) (by show (1 * x + 0) + 0 = 0 + 8; omega)
      have n9 : x ≠ 9 := fun e_ => z5 (([(0, 1)], 0), ([], 9)) (List.mem_of_getElem? (i := 9) rfl) (by show (1 * x + 0) + 0 = 0 + 9; omega)
      have n10 : x ≠ 10 := fun e_ => z5 (([(0, 1)], 0), ([], 10)) (List.mem_of_getElem? (i := 10) rfl) (by show (1 * x + 0) + 0 = 0 + 10; omega)
      have n11 : x ≠ 11 := fun e_ => z5 (([(0, 1)], 0), ([], 11)) (List.mem_of_getElem? (i := 11) rfl) (by show (1 * x + 0) + 0 = 0 + 11; omega)
      have n12 : x ≠ 12 := fun e_ => z5 (([(0, 1)], 0), ([], 12)) (List.mem_of_getElem? (i := 12) rfl) (by show (1 * x + 0) + 0 = 0 + 12; omega)
      have n13 : x ≠ 13 := fun e_ => z5 (([(0, 1)], 0), ([], 13)) (List.mem_of_getElem? (i := 13) rfl) (by show (1 * x + 0) + 0 = 0 + 13; omega)
      obtain ⟨r_, rfl, hv⟩ := ansI p1 (z2 (0, ([], (-1))) (List.mem_of_getElem? (i := 0) rfl))
      have s0 : r_.toInt = (-1) := (show r_.toInt = 0 + (-1) from hv).trans (by omega)
      exact hR11 h' r_ hi' hm n0 n1 n2 n3 n4 n5 n6 n7 n8 n9 n10 n11 n12 n13 s0
    cases he
def ksC1a_L : List (Nat × sT) := []
def ksC1a_S : List sT := [.inl (0, 1900000000)]
def ksC1a_A : sAs := ([], [], [], [])
def ksC1a_P : List sP0 := []
def ksC1a_G : List sP0 := []
def ksC1a_B : List (Nat × Nat × Int) := []
def ksC1a_m : sM := []
def ksC1a_r0 : sXr := (some (.inl sf32), sA0, [], ([], [(0, ([(0, 1)], 0))], [], []), [], [])
theorem ksC1a_b : syeB swC sT0 ksC1a_m 400 0 175 ksC1a_L ksC1a_S ksC1a_A ksC1a_P ksC1a_G ksC1a_B 142 [] [ksC1a_r0] = true := by decide +kernel
theorem ksC1a {l : Launch} {Γ : zG} {d : Nat} (hd : 0 ≤ d) {Kp : Option Value → zH → Prop} {lo : zL} {h : zH} {v : Int} (hi : sInv swC h) (b_v : 0 ≤ v ∧ v ≤ 1900000000) {x_v : Int32} (e_v : x_v.toInt = v)
    (hR0 : ∀ (h' : zH) (r_ : Int32), sInv swC h' → sMd ksC1a_m h h' → r_.toInt = v → Kp (some (.int r_)) h') : zX l Γ false (d + 1) (zhd 175) (zMQ' Γ false (zhd 175) Kp) 0 0 142 lo [.int x_v] h := by
  refine sye_ok (mi := 175) (pc := 142) (fun i => [v].getD i 0) ksC1a_b (fun _ _ hc _ => nomatch hc) hd trivial ⟨x_v, _, rfl, e_v, ⟨by show 0 ≤ v; omega, by show v ≤ 1900000000; omega⟩, rfl⟩ ⟨(fun _ hc => nomatch hc), (fun _ hc => nomatch hc), (fun _ hc => nomatch hc), Or.inl rfl⟩ trivial trivial (fun _ hc => nomatch hc) hi ?_ ?_
  · intro e he lo' st' h' hp hi' hm
    cases he
  · intro e he r' h' hp hi' hm
    rcases List.mem_cons.mp he with rfl | he
    · obtain ⟨p1, -, hz⟩ := hp
      obtain ⟨⟨z1, z2, z3, z4⟩, z5, z6⟩ := hz
      obtain ⟨r_, rfl, hv⟩ := ansI p1 (z2 (0, ([(0, 1)], 0)) (List.mem_of_getElem? (i := 0) rfl))
      have s0 : r_.toInt = v := (show r_.toInt = (1 * v + 0) + 0 from hv).trans (by omega)
      exact hR0 h' r_ hi' hm s0
    cases he
def ksC1b_L : List (Nat × sT) := []
def ksC1b_S : List sT := [.inl (0, 1900000000)]
def ksC1b_A : sAs := ([], [], [], [])
def ksC1b_P : List sP0 := []
def ksC1b_G : List sP0 := []
def ksC1b_B : List (Nat × Nat × Int) := []
def ksC1b_m : sM := []
def ksC1b_r0 : sXr := (some (.inl sf32), sA0, [], ([], [(0, ([(0, 1)], 0))], [], []), [], [])
theorem ksC1b_b : syeB swC sT0 ksC1b_m 400 0 175 ksC1b_L ksC1b_S ksC1b_A ksC1b_P ksC1b_G ksC1b_B 150 [] [ksC1b_r0] = true := by decide +kernel
theorem ksC1b {l : Launch} {Γ : zG} {d : Nat} (hd : 0 ≤ d) {Kp : Option Value → zH → Prop} {lo : zL} {h : zH} {v : Int} (hi : sInv swC h) (b_v : 0 ≤ v ∧ v ≤ 1900000000) {x_v : Int32} (e_v : x_v.toInt = v)
    (hR0 : ∀ (h' : zH) (r_ : Int32), sInv swC h' → sMd ksC1b_m h h' → r_.toInt = v → Kp (some (.int r_)) h') : zX l Γ false (d + 1) (zhd 175) (zMQ' Γ false (zhd 175) Kp) 0 0 150 lo [.int x_v] h := by
  refine sye_ok (mi := 175) (pc := 150) (fun i => [v].getD i 0) ksC1b_b (fun _ _ hc _ => nomatch hc) hd trivial ⟨x_v, _, rfl, e_v, ⟨by show 0 ≤ v; omega, by show v ≤ 1900000000; omega⟩, rfl⟩ ⟨(fun _ hc => nomatch hc), (fun _ hc => nomatch hc), (fun _ hc => nomatch hc), Or.inl rfl⟩ trivial trivial (fun _ hc => nomatch hc) hi ?_ ?_
  · intro e he lo' st' h' hp hi' hm
    cases he
  · intro e he r' h' hp hi' hm
    rcases List.mem_cons.mp he with rfl | he
    · obtain ⟨p1, -, hz⟩ := hp
      obtain ⟨⟨z1, z2, z3, z4⟩, z5, z6⟩ := hz
      obtain ⟨r_, rfl, hv⟩ := ansI p1 (z2 (0, ([(0, 1)], 0)) (List.mem_of_getElem? (i := 0) rfl))
      have s0 : r_.toInt = v := (show r_.toInt = (1 * v + 0) + 0 from hv).trans (by omega)
      exact hR0 h' r_ hi' hm s0
    cases he
def ksC1c_L : List (Nat × sT) := []
def ksC1c_S : List sT := [.inl (0, 1900000000)]
def ksC1c_A : sAs := ([], [], [], [])
def ksC1c_P : List sP0 := []
def ksC1c_G : List sP0 := []
def ksC1c_B : List (Nat × Nat × Int) := []
def ksC1c_m : sM := []
def ksC1c_r0 : sXr := (some (.inl sf32), sA0, [], ([], [(0, ([(0, 1)], 0))], [], []), [], [])
theorem ksC1c_b : syeB swC sT0 ksC1c_m 400 0 175 ksC1c_L ksC1c_S ksC1c_A ksC1c_P ksC1c_G ksC1c_B 166 [] [ksC1c_r0] = true := by decide +kernel
theorem ksC1c {l : Launch} {Γ : zG} {d : Nat} (hd : 0 ≤ d) {Kp : Option Value → zH → Prop} {lo : zL} {h : zH} {v : Int} (hi : sInv swC h) (b_v : 0 ≤ v ∧ v ≤ 1900000000) {x_v : Int32} (e_v : x_v.toInt = v)
    (hR0 : ∀ (h' : zH) (r_ : Int32), sInv swC h' → sMd ksC1c_m h h' → r_.toInt = v → Kp (some (.int r_)) h') : zX l Γ false (d + 1) (zhd 175) (zMQ' Γ false (zhd 175) Kp) 0 0 166 lo [.int x_v] h := by
  refine sye_ok (mi := 175) (pc := 166) (fun i => [v].getD i 0) ksC1c_b (fun _ _ hc _ => nomatch hc) hd trivial ⟨x_v, _, rfl, e_v, ⟨by show 0 ≤ v; omega, by show v ≤ 1900000000; omega⟩, rfl⟩ ⟨(fun _ hc => nomatch hc), (fun _ hc => nomatch hc), (fun _ hc => nomatch hc), Or.inl rfl⟩ trivial trivial (fun _ hc => nomatch hc) hi ?_ ?_
  · intro e he lo' st' h' hp hi' hm
    cases he
  · intro e he r' h' hp hi' hm
    rcases List.mem_cons.mp he with rfl | he
    · obtain ⟨p1, -, hz⟩ := hp
      obtain ⟨⟨z1, z2, z3, z4⟩, z5, z6⟩ := hz
      obtain ⟨r_, rfl, hv⟩ := ansI p1 (z2 (0, ([(0, 1)], 0)) (List.mem_of_getElem? (i := 0) rfl))
      have s0 : r_.toInt = v := (show r_.toInt = (1 * v + 0) + 0 from hv).trans (by omega)
      exact hR0 h' r_ hi' hm s0
    cases he
def ksC1d_L : List (Nat × sT) := []
def ksC1d_S : List sT := [.inl (0, 1900000000)]
def ksC1d_A : sAs := ([], [], [], [])
def ksC1d_P : List sP0 := []
def ksC1d_G : List sP0 := []
def ksC1d_B : List (Nat × Nat × Int) := []
def ksC1d_m : sM := []
def ksC1d_r0 : sXr := (some (.inl sf32), sA0, [], ([], [(0, ([(0, 1)], 0))], [], []), [], [])
theorem ksC1d_b : syeB swC sT0 ksC1d_m 400 0 175 ksC1d_L ksC1d_S ksC1d_A ksC1d_P ksC1d_G ksC1d_B 174 [] [ksC1d_r0] = true := by decide +kernel
theorem ksC1d {l : Launch} {Γ : zG} {d : Nat} (hd : 0 ≤ d) {Kp : Option Value → zH → Prop} {lo : zL} {h : zH} {v : Int} (hi : sInv swC h) (b_v : 0 ≤ v ∧ v ≤ 1900000000) {x_v : Int32} (e_v : x_v.toInt = v)
    (hR0 : ∀ (h' : zH) (r_ : Int32), sInv swC h' → sMd ksC1d_m h h' → r_.toInt = v → Kp (some (.int r_)) h') : zX l Γ false (d + 1) (zhd 175) (zMQ' Γ false (zhd 175) Kp) 0 0 174 lo [.int x_v] h := by
  refine sye_ok (mi := 175) (pc := 174) (fun i => [v].getD i 0) ksC1d_b (fun _ _ hc _ => nomatch hc) hd trivial ⟨x_v, _, rfl, e_v, ⟨by show 0 ≤ v; omega, by show v ≤ 1900000000; omega⟩, rfl⟩ ⟨(fun _ hc => nomatch hc), (fun _ hc => nomatch hc), (fun _ hc => nomatch hc), Or.inl rfl⟩ trivial trivial (fun _ hc => nomatch hc) hi ?_ ?_
  · intro e he lo' st' h' hp hi' hm
    cases he
  · intro e he r' h' hp hi' hm
    rcases List.mem_cons.mp he with rfl | he
    · obtain ⟨p1, -, hz⟩ := hp
      obtain ⟨⟨z1, z2, z3, z4⟩, z5, z6⟩ := hz
      obtain ⟨r_, rfl, hv⟩ := ansI p1 (z2 (0, ([(0, 1)], 0)) (List.mem_of_getElem? (i := 0) rfl))
      have s0 : r_.toInt = v := (show r_.toInt = (1 * v + 0) + 0 from hv).trans (by omega)
      exact hR0 h' r_ hi' hm s0
    cases he
def ktA0_L (k : Nat) : List sT := [.inr (.inl 0), .inl ((k : Int), (k : Int))]
def ktA0_A (k : Nat) : sAs := ([], [], [], [])
def ktA0_P (k : Nat) : List sP0 := []
def ktA0_G (k : Nat) : List sP0 := []
def ktA0_B (k : Nat) : List (Nat × Nat × Int) := []
def ktA0_m (k : Nat) : sM := []
def ktA0_e0 (k : Nat) : sXe := (4, [], [(0, .inr (.inl 0)), (1, .inl sf32), (2, .inl sf32), (3, .inl sf32)], sA0, [], ([], [], [(1, ([], (k : Int))), (2, ([], 0)), (3, ([], 0))], []), [], [])
theorem ktA0_b : ((List.range 2).all fun k => syfB swM sT0 (ktA0_m k) 400 0 305 (ktA0_L k) (ktA0_A k) (ktA0_P k) (ktA0_G k) (ktA0_B k) [ktA0_e0 k] []) = true := by decide +kernel
theorem ktA0 {l : Launch} {Γ : zG} {d : Nat} (hd : 0 ≤ d) {Kp : Option Value → zH → Prop} {h : zH} {k : Nat} (h_k : k < 2) (hi : sInv swM h) {x_hh : Int32} (e_hh : x_hh.toInt = (k : Int))
    (hE0 : ∀ (lo' : zL) (h' : zH), sInv swM h' → sMd (ktA0_m k) h h' → zget lo' 0 = some (.ref 0) → zI lo' 1 (k : Int) → zI lo' 2 0 → zI lo' 3 0 → zX l Γ false (d + 1) (zhd 305) (zMQ' Γ false (zhd 305) Kp) 0 0 4 lo' [] h') : zSem l Γ false (d + 1) (zhd 305) [.ref 0, .int x_hh] h Kp := by
  refine syf_ok (mi := 305) (fun i => [(k : Int)].getD i 0) (zall_r ktA0_b h_k) (fun _ _ hc _ => nomatch hc) hd ⟨_, _, rfl, rfl, ⟨_, _, rfl, ⟨x_hh, rfl, by show (k : Int) ≤ x_hh.toInt; omega, by show x_hh.toInt ≤ (k : Int); omega⟩, rfl⟩⟩ ⟨rfl, ⟨x_hh, rfl, e_hh, by show (k : Int) ≤ (k : Int); omega, by show (k : Int) ≤ (k : Int); omega⟩, trivial⟩ ⟨(fun _ hc => nomatch hc), (fun _ hc => nomatch hc), (fun _ hc => nomatch hc), Or.inl rfl⟩ trivial trivial (fun _ hc => nomatch hc) hi ?_ ?_
  · intro e he lo' st' h' hp hi' hm
    rcases List.mem_cons.mp he with rfl | he
    · obtain ⟨p1, p2, -, hz⟩ := hp
      obtain ⟨⟨z1, z2, z3, z4⟩, z5, z6⟩ := hz
      have o0 : zget lo' 0 = some (.ref 0) := locR (p2 (0, .inr (.inl 0)) (List.mem_of_getElem? (i := 0) rfl))
      have o1 : zI lo' 1 (k : Int) := zI_of (p2 (1, .inl sf32) (List.mem_of_getElem? (i := 1) rfl)) (z3 (1, ([], (k : Int))) (List.mem_of_getElem? (i := 0) rfl)) (show 0 + (k : Int) = (k : Int) from by omega)
      have o2 : zI lo' 2 0 := zI_of (p2 (2, .inl sf32) (List.mem_of_getElem? (i := 2) rfl)) (z3 (2, ([], 0)) (List.mem_of_getElem? (i := 1) rfl)) (show 0 + 0 = 0 from by omega)
      have o3 : zI lo' 3 0 := zI_of (p2 (3, .inl sf32) (List.mem_of_getElem? (i := 3) rfl)) (z3 (3, ([], 0)) (List.mem_of_getElem? (i := 2) rfl)) (show 0 + 0 = 0 from by omega)
      have p1 : _ = [] := p1
      subst p1
      exact hE0 lo' h' hi' hm o0 o1 o2 o3
    cases he
  · intro e he r' h' hp hi' hm
    cases he
def ktA1_L (g : Nat) (k : Nat) : List (Nat × sT) := [(0, .inr (.inl 0)), (1, .inl ((k : Int), (k : Int))), (2, .inl (0, 1900000000)), (3, .inl ((g : Int), (g : Int)))]
def ktA1_S (g : Nat) (k : Nat) : List sT := []
def ktA1_A (g : Nat) (k : Nat) : sAs := ([], [], [], [])
def ktA1_P (g : Nat) (k : Nat) : List sP0 := [(0, (none, 13), (((g : Int) + 1), 8)), (29, (none, (((g + 8 * k) : Nat) : Int)), (0, 999)), (30, (none, (((g + 8 * k) : Nat) : Int)), (0, 999))]
def ktA1_G (g : Nat) (k : Nat) : List sP0 := []
def ktA1_B (g : Nat) (k : Nat) : List (Nat × Nat × Int) := []
def ktA1_m (g : Nat) (k : Nat) : sM := []
def ktA1_e0 (g : Nat) (k : Nat) : sXe := (4, [], [(0, .inr (.inl 0)), (1, .inl sf32), (2, .inl sf32), (3, .inl sf32)], sA0, [], ([], [], [(1, ([], (k : Int))), (2, ([(1, 1), (4, 1), (5, 1)], 0)), (3, ([], ((g : Int) + 1)))], []), [], [])
theorem ktA1_b : ((List.range 8).all fun g => ((List.range 2).all fun k => syeB swM sT0 (ktA1_m g k) 400 0 305 (ktA1_L g k) (ktA1_S g k) (ktA1_A g k) (ktA1_P g k) (ktA1_G g k) (ktA1_B g k) 4 [ktA1_e0 g k] [])) = true := by decide +kernel
theorem ktA1 {l : Launch} {Γ : zG} {d : Nat} (hd : 0 ≤ d) {Kp : Option Value → zH → Prop} {lo : zL} {h : zH} {g : Nat} (h_g : g < 8) {k : Nat} (h_k : k < 2) {ac n ab bl : Int} (hi : sInv swM h) (b_ac : 0 ≤ ac ∧ ac ≤ 1900000000) (b_n : ((g : Int) + 1) ≤ n ∧ n ≤ 8) (b_ab : 0 ≤ ab ∧ ab ≤ 999) (b_bl : 0 ≤ bl ∧ bl ≤ 999) (l0 : zget lo 0 = some (.ref 0)) (l1 : zI lo 1 (k : Int)) (l2 : zI lo 2 ac) (l3 : zI lo 3 (g : Int)) (p_n : pI h 0 13 = n) (p_ab : pI h 29 (g + 8 * k) = ab) (p_bl : pI h 30 (g + 8 * k) = bl)
    (hE0 : ∀ (lo' : zL) (h' : zH), sInv swM h' → sMd (ktA1_m g k) h h' → zget lo' 0 = some (.ref 0) → zI lo' 1 (k : Int) → zI lo' 2 (ac + ab + bl) → zI lo' 3 ((g : Int) + 1) → zX l Γ false (d + 1) (zhd 305) (zMQ' Γ false (zhd 305) Kp) 0 0 4 lo' [] h') : zX l Γ false (d + 1) (zhd 305) (zMQ' Γ false (zhd 305) Kp) 0 0 4 lo [] h := by
  refine sye_ok (mi := 305) (pc := 4) (fun i => [(k : Int), ac, (g : Int), n, ab, bl].getD i 0) (zall_r (zall_r ktA1_b h_g) h_k) (fun _ _ hc _ => nomatch hc) hd ⟨l0, zIm l1 (by show (k : Int) ≤ (k : Int); omega) (by show (k : Int) ≤ (k : Int); omega), zIm l2 (by show 0 ≤ ac; omega) (by show ac ≤ 1900000000; omega), zIm l3 (by show (g : Int) ≤ (g : Int); omega) (by show (g : Int) ≤ (g : Int); omega), trivial⟩ rfl ⟨(fun _ hc => nomatch hc), (fun _ hc => nomatch hc), (fun _ hc => nomatch hc), Or.inl rfl⟩ ⟨⟨p_n, by show ((g : Int) + 1) ≤ n; omega, by show n ≤ 8; omega⟩, ⟨p_ab, by show 0 ≤ ab; omega, by show ab ≤ 999; omega⟩, ⟨p_bl, by show 0 ≤ bl; omega, by show bl ≤ 999; omega⟩, trivial⟩ trivial (fun _ hc => nomatch hc) hi ?_ ?_
  · intro e he lo' st' h' hp hi' hm
    rcases List.mem_cons.mp he with rfl | he
    · obtain ⟨p1, p2, -, hz⟩ := hp
      obtain ⟨⟨z1, z2, z3, z4⟩, z5, z6⟩ := hz
      have o0 : zget lo' 0 = some (.ref 0) := locR (p2 (0, .inr (.inl 0)) (List.mem_of_getElem? (i := 0) rfl))
      have o1 : zI lo' 1 (k : Int) := zI_of (p2 (1, .inl sf32) (List.mem_of_getElem? (i := 1) rfl)) (z3 (1, ([], (k : Int))) (List.mem_of_getElem? (i := 0) rfl)) (show 0 + (k : Int) = (k : Int) from by omega)
      have o2 : zI lo' 2 (ac + ab + bl) := zI_of (p2 (2, .inl sf32) (List.mem_of_getElem? (i := 2) rfl)) (z3 (2, ([(1, 1), (4, 1), (5, 1)], 0)) (List.mem_of_getElem? (i := 1) rfl)) (show (1 * ac + (1 * ab + (1 * bl + 0))) + 0 = ac + ab + bl from by omega)
      have o3 : zI lo' 3 ((g : Int) + 1) := zI_of (p2 (3, .inl sf32) (List.mem_of_getElem? (i := 3) rfl)) (z3 (3, ([], ((g : Int) + 1))) (List.mem_of_getElem? (i := 2) rfl)) (show 0 + ((g : Int) + 1) = ((g : Int) + 1) from by omega)
      have p1 : _ = [] := p1
      subst p1
      exact hE0 lo' h' hi' hm o0 o1 o2 o3
    cases he
  · intro e he r' h' hp hi' hm
    cases he
def ktA2_L (g : Nat) (k : Nat) : List (Nat × sT) := [(0, .inr (.inl 0)), (1, .inl ((k : Int), (k : Int))), (2, .inl (0, 1900000000)), (3, .inl ((g : Int), (g : Int)))]
def ktA2_S (g : Nat) (k : Nat) : List sT := []
def ktA2_A (g : Nat) (k : Nat) : sAs := ([], [], [], [])
def ktA2_P (g : Nat) (k : Nat) : List sP0 := [(0, (none, 13), (0, (g : Int)))]
def ktA2_G (g : Nat) (k : Nat) : List sP0 := []
def ktA2_B (g : Nat) (k : Nat) : List (Nat × Nat × Int) := []
def ktA2_m (g : Nat) (k : Nat) : sM := []
def ktA2_r0 (g : Nat) (k : Nat) : sXr := (some (.inl sf32), sA0, [], ([], [(0, ([(1, 1)], 0))], [], []), [], [])
theorem ktA2_b : ((List.range 9).all fun g => ((List.range 2).all fun k => syeB swM sT0 (ktA2_m g k) 400 0 305 (ktA2_L g k) (ktA2_S g k) (ktA2_A g k) (ktA2_P g k) (ktA2_G g k) (ktA2_B g k) 4 [] [ktA2_r0 g k])) = true := by decide +kernel
theorem ktA2 {l : Launch} {Γ : zG} {d : Nat} (hd : 0 ≤ d) {Kp : Option Value → zH → Prop} {lo : zL} {h : zH} {g : Nat} (h_g : g < 9) {k : Nat} (h_k : k < 2) {ac n : Int} (hi : sInv swM h) (b_ac : 0 ≤ ac ∧ ac ≤ 1900000000) (b_n : 0 ≤ n ∧ n ≤ (g : Int)) (l0 : zget lo 0 = some (.ref 0)) (l1 : zI lo 1 (k : Int)) (l2 : zI lo 2 ac) (l3 : zI lo 3 (g : Int)) (p_n : pI h 0 13 = n)
    (hR0 : ∀ (h' : zH) (r_ : Int32), sInv swM h' → sMd (ktA2_m g k) h h' → r_.toInt = ac → Kp (some (.int r_)) h') : zX l Γ false (d + 1) (zhd 305) (zMQ' Γ false (zhd 305) Kp) 0 0 4 lo [] h := by
  refine sye_ok (mi := 305) (pc := 4) (fun i => [(k : Int), ac, (g : Int), n].getD i 0) (zall_r (zall_r ktA2_b h_g) h_k) (fun _ _ hc _ => nomatch hc) hd ⟨l0, zIm l1 (by show (k : Int) ≤ (k : Int); omega) (by show (k : Int) ≤ (k : Int); omega), zIm l2 (by show 0 ≤ ac; omega) (by show ac ≤ 1900000000; omega), zIm l3 (by show (g : Int) ≤ (g : Int); omega) (by show (g : Int) ≤ (g : Int); omega), trivial⟩ rfl ⟨(fun _ hc => nomatch hc), (fun _ hc => nomatch hc), (fun _ hc => nomatch hc), Or.inl rfl⟩ ⟨⟨p_n, by show 0 ≤ n; omega, by show n ≤ (g : Int); omega⟩, trivial⟩ trivial (fun _ hc => nomatch hc) hi ?_ ?_
  · intro e he lo' st' h' hp hi' hm
    cases he
  · intro e he r' h' hp hi' hm
    rcases List.mem_cons.mp he with rfl | he
    · obtain ⟨p1, -, hz⟩ := hp
      obtain ⟨⟨z1, z2, z3, z4⟩, z5, z6⟩ := hz
      obtain ⟨r_, rfl, hv⟩ := ansI p1 (z2 (0, ([(1, 1)], 0)) (List.mem_of_getElem? (i := 0) rfl))
      have s0 : r_.toInt = ac := (show r_.toInt = (1 * ac + 0) + 0 from hv).trans (by omega)
      exact hR0 h' r_ hi' hm s0
    cases he
def ktE0_L (k : Nat) : List sT := [.inr (.inl 0), .inl ((k : Int), (k : Int))]
def ktE0_A (k : Nat) : sAs := ([], [], [], [])
def ktE0_P (k : Nat) : List sP0 := []
def ktE0_G (k : Nat) : List sP0 := []
def ktE0_B (k : Nat) : List (Nat × Nat × Int) := []
def ktE0_m (k : Nat) : sM := []
def ktE0_e0 (k : Nat) : sXe := (4, [], [(0, .inr (.inl 0)), (1, .inl sf32), (2, .inl sf32), (3, .inl sf32)], sA0, [], ([], [], [(1, ([], (k : Int))), (2, ([], 0)), (3, ([], 0))], []), [], [])
theorem ktE0_b : ((List.range 2).all fun k => syfB swM sT0 (ktE0_m k) 400 0 265 (ktE0_L k) (ktE0_A k) (ktE0_P k) (ktE0_G k) (ktE0_B k) [ktE0_e0 k] []) = true := by decide +kernel
theorem ktE0 {l : Launch} {Γ : zG} {d : Nat} (hd : 0 ≤ d) {Kp : Option Value → zH → Prop} {h : zH} {k : Nat} (h_k : k < 2) (hi : sInv swM h) {x_hh : Int32} (e_hh : x_hh.toInt = (k : Int))
    (hE0 : ∀ (lo' : zL) (h' : zH), sInv swM h' → sMd (ktE0_m k) h h' → zget lo' 0 = some (.ref 0) → zI lo' 1 (k : Int) → zI lo' 2 0 → zI lo' 3 0 → zX l Γ false (d + 1) (zhd 265) (zMQ' Γ false (zhd 265) Kp) 0 0 4 lo' [] h') : zSem l Γ false (d + 1) (zhd 265) [.ref 0, .int x_hh] h Kp := by
  refine syf_ok (mi := 265) (fun i => [(k : Int)].getD i 0) (zall_r ktE0_b h_k) (fun _ _ hc _ => nomatch hc) hd ⟨_, _, rfl, rfl, ⟨_, _, rfl, ⟨x_hh, rfl, by show (k : Int) ≤ x_hh.toInt; omega, by show x_hh.toInt ≤ (k : Int); omega⟩, rfl⟩⟩ ⟨rfl, ⟨x_hh, rfl, e_hh, by show (k : Int) ≤ (k : Int); omega, by show (k : Int) ≤ (k : Int); omega⟩, trivial⟩ ⟨(fun _ hc => nomatch hc), (fun _ hc => nomatch hc), (fun _ hc => nomatch hc), Or.inl rfl⟩ trivial trivial (fun _ hc => nomatch hc) hi ?_ ?_
  · intro e he lo' st' h' hp hi' hm
    rcases List.mem_cons.mp he with rfl | he
    · obtain ⟨p1, p2, -, hz⟩ := hp
      obtain ⟨⟨z1, z2, z3, z4⟩, z5, z6⟩ := hz
      have o0 : zget lo' 0 = some (.ref 0) := locR (p2 (0, .inr (.inl 0)) (List.mem_of_getElem? (i := 0) rfl))
      have o1 : zI lo' 1 (k : Int) := zI_of (p2 (1, .inl sf32) (List.mem_of_getElem? (i := 1) rfl)) (z3 (1, ([], (k : Int))) (List.mem_of_getElem? (i := 0) rfl)) (show 0 + (k : Int) = (k : Int) from by omega)
      have o2 : zI lo' 2 0 := zI_of (p2 (2, .inl sf32) (List.mem_of_getElem? (i := 2) rfl)) (z3 (2, ([], 0)) (List.mem_of_getElem? (i := 1) rfl)) (show 0 + 0 = 0 from by omega)
      have o3 : zI lo' 3 0 := zI_of (p2 (3, .inl sf32) (List.mem_of_getElem? (i := 3) rfl)) (z3 (3, ([], 0)) (List.mem_of_getElem? (i := 2) rfl)) (show 0 + 0 = 0 from by omega)
      have p1 : _ = [] := p1
      subst p1
      exact hE0 lo' h' hi' hm o0 o1 o2 o3
    cases he
  · intro e he r' h' hp hi' hm
    cases he
def ktE1_L (g : Nat) (k : Nat) : List (Nat × sT) := [(0, .inr (.inl 0)), (1, .inl ((k : Int), (k : Int))), (2, .inl (0, 1900000000)), (3, .inl ((g : Int), (g : Int)))]
def ktE1_S (g : Nat) (k : Nat) : List sT := []
def ktE1_A (g : Nat) (k : Nat) : sAs := ([], [], [], [])
def ktE1_P (g : Nat) (k : Nat) : List sP0 := [(0, (none, 13), (((g : Int) + 1), 8)), (32, (none, (((g + 8 * k) : Nat) : Int)), (0, 210000000))]
def ktE1_G (g : Nat) (k : Nat) : List sP0 := []
def ktE1_B (g : Nat) (k : Nat) : List (Nat × Nat × Int) := []
def ktE1_m (g : Nat) (k : Nat) : sM := []
def ktE1_e0 (g : Nat) (k : Nat) : sXe := (4, [], [(0, .inr (.inl 0)), (1, .inl sf32), (2, .inl sf32), (3, .inl sf32)], sA0, [], ([], [], [(1, ([], (k : Int))), (2, ([(1, 1), (4, 1)], 0)), (3, ([], ((g : Int) + 1)))], []), [], [])
theorem ktE1_b : ((List.range 8).all fun g => ((List.range 2).all fun k => syeB swM sT0 (ktE1_m g k) 400 0 265 (ktE1_L g k) (ktE1_S g k) (ktE1_A g k) (ktE1_P g k) (ktE1_G g k) (ktE1_B g k) 4 [ktE1_e0 g k] [])) = true := by decide +kernel
theorem ktE1 {l : Launch} {Γ : zG} {d : Nat} (hd : 0 ≤ d) {Kp : Option Value → zH → Prop} {lo : zL} {h : zH} {g : Nat} (h_g : g < 8) {k : Nat} (h_k : k < 2) {ac n v : Int} (hi : sInv swM h) (b_ac : 0 ≤ ac ∧ ac ≤ 1900000000) (b_n : ((g : Int) + 1) ≤ n ∧ n ≤ 8) (b_v : 0 ≤ v ∧ v ≤ 210000000) (l0 : zget lo 0 = some (.ref 0)) (l1 : zI lo 1 (k : Int)) (l2 : zI lo 2 ac) (l3 : zI lo 3 (g : Int)) (p_n : pI h 0 13 = n) (p_v : pI h 32 (g + 8 * k) = v)
    (hE0 : ∀ (lo' : zL) (h' : zH), sInv swM h' → sMd (ktE1_m g k) h h' → zget lo' 0 = some (.ref 0) → zI lo' 1 (k : Int) → zI lo' 2 (ac + v) → zI lo' 3 ((g : Int) + 1) → zX l Γ false (d + 1) (zhd 265) (zMQ' Γ false (zhd 265) Kp) 0 0 4 lo' [] h') : zX l Γ false (d + 1) (zhd 265) (zMQ' Γ false (zhd 265) Kp) 0 0 4 lo [] h := by
  refine sye_ok (mi := 265) (pc := 4) (fun i => [(k : Int), ac, (g : Int), n, v].getD i 0) (zall_r (zall_r ktE1_b h_g) h_k) (fun _ _ hc _ => nomatch hc) hd ⟨l0, zIm l1 (by show (k : Int) ≤ (k : Int); omega) (by show (k : Int) ≤ (k : Int); omega), zIm l2 (by show 0 ≤ ac; omega) (by show ac ≤ 1900000000; omega), zIm l3 (by show (g : Int) ≤ (g : Int); omega) (by show (g : Int) ≤ (g : Int); omega), trivial⟩ rfl ⟨(fun _ hc => nomatch hc), (fun _ hc => nomatch hc), (fun _ hc => nomatch hc), Or.inl rfl⟩ ⟨⟨p_n, by show ((g : Int) + 1) ≤ n; omega, by show n ≤ 8; omega⟩, ⟨p_v, by show 0 ≤ v; omega, by show v ≤ 210000000; omega⟩, trivial⟩ trivial (fun _ hc => nomatch hc) hi ?_ ?_
  · intro e he lo' st' h' hp hi' hm
    rcases List.mem_cons.mp he with rfl | he
    · obtain ⟨p1, p2, -, hz⟩ := hp
      obtain ⟨⟨z1, z2, z3, z4⟩, z5, z6⟩ := hz
      have o0 : zget lo' 0 = some (.ref 0) := locR (p2 (0, .inr (.inl 0)) (List.mem_of_getElem? (i := 0) rfl))
      have o1 : zI lo' 1 (k : Int) := zI_of (p2 (1, .inl sf32) (List.mem_of_getElem? (i := 1) rfl)) (z3 (1, ([], (k : Int))) (List.mem_of_getElem? (i := 0) rfl)) (show 0 + (k : Int) = (k : Int) from by omega)
      have o2 : zI lo' 2 (ac + v) := zI_of (p2 (2, .inl sf32) (List.mem_of_getElem? (i := 2) rfl)) (z3 (2, ([(1, 1), (4, 1)], 0)) (List.mem_of_getElem? (i := 1) rfl)) (show (1 * ac + (1 * v + 0)) + 0 = ac + v from by omega)
      have o3 : zI lo' 3 ((g : Int) + 1) := zI_of (p2 (3, .inl sf32) (List.mem_of_getElem? (i := 3) rfl)) (z3 (3, ([], ((g : Int) + 1))) (List.mem_of_getElem? (i := 2) rfl)) (show 0 + ((g : Int) + 1) = ((g : Int) + 1) from by omega)
      have p1 : _ = [] := p1
      subst p1
      exact hE0 lo' h' hi' hm o0 o1 o2 o3
    cases he
  · intro e he r' h' hp hi' hm
    cases he
def ktE2_L (g : Nat) (k : Nat) : List (Nat × sT) := [(0, .inr (.inl 0)), (1, .inl ((k : Int), (k : Int))), (2, .inl (0, 1900000000)), (3, .inl ((g : Int), (g : Int)))]
def ktE2_S (g : Nat) (k : Nat) : List sT := []
def ktE2_A (g : Nat) (k : Nat) : sAs := ([], [], [], [])
def ktE2_P (g : Nat) (k : Nat) : List sP0 := [(0, (none, 13), (0, (g : Int)))]
def ktE2_G (g : Nat) (k : Nat) : List sP0 := []
def ktE2_B (g : Nat) (k : Nat) : List (Nat × Nat × Int) := []
def ktE2_m (g : Nat) (k : Nat) : sM := []
def ktE2_r0 (g : Nat) (k : Nat) : sXr := (some (.inl sf32), sA0, [], ([], [(0, ([(1, 1)], 0))], [], []), [], [])
theorem ktE2_b : ((List.range 9).all fun g => ((List.range 2).all fun k => syeB swM sT0 (ktE2_m g k) 400 0 265 (ktE2_L g k) (ktE2_S g k) (ktE2_A g k) (ktE2_P g k) (ktE2_G g k) (ktE2_B g k) 4 [] [ktE2_r0 g k])) = true := by decide +kernel
theorem ktE2 {l : Launch} {Γ : zG} {d : Nat} (hd : 0 ≤ d) {Kp : Option Value → zH → Prop} {lo : zL} {h : zH} {g : Nat} (h_g : g < 9) {k : Nat} (h_k : k < 2) {ac n : Int} (hi : sInv swM h) (b_ac : 0 ≤ ac ∧ ac ≤ 1900000000) (b_n : 0 ≤ n ∧ n ≤ (g : Int)) (l0 : zget lo 0 = some (.ref 0)) (l1 : zI lo 1 (k : Int)) (l2 : zI lo 2 ac) (l3 : zI lo 3 (g : Int)) (p_n : pI h 0 13 = n)
    (hR0 : ∀ (h' : zH) (r_ : Int32), sInv swM h' → sMd (ktE2_m g k) h h' → r_.toInt = ac → Kp (some (.int r_)) h') : zX l Γ false (d + 1) (zhd 265) (zMQ' Γ false (zhd 265) Kp) 0 0 4 lo [] h := by
  refine sye_ok (mi := 265) (pc := 4) (fun i => [(k : Int), ac, (g : Int), n].getD i 0) (zall_r (zall_r ktE2_b h_g) h_k) (fun _ _ hc _ => nomatch hc) hd ⟨l0, zIm l1 (by show (k : Int) ≤ (k : Int); omega) (by show (k : Int) ≤ (k : Int); omega), zIm l2 (by show 0 ≤ ac; omega) (by show ac ≤ 1900000000; omega), zIm l3 (by show (g : Int) ≤ (g : Int); omega) (by show (g : Int) ≤ (g : Int); omega), trivial⟩ rfl ⟨(fun _ hc => nomatch hc), (fun _ hc => nomatch hc), (fun _ hc => nomatch hc), Or.inl rfl⟩ ⟨⟨p_n, by show 0 ≤ n; omega, by show n ≤ (g : Int); omega⟩, trivial⟩ trivial (fun _ hc => nomatch hc) hi ?_ ?_
  · intro e he lo' st' h' hp hi' hm
    cases he
  · intro e he r' h' hp hi' hm
    rcases List.mem_cons.mp he with rfl | he
    · obtain ⟨p1, -, hz⟩ := hp
      obtain ⟨⟨z1, z2, z3, z4⟩, z5, z6⟩ := hz
      obtain ⟨r_, rfl, hv⟩ := ansI p1 (z2 (0, ([(1, 1)], 0)) (List.mem_of_getElem? (i := 0) rfl))
      have s0 : r_.toInt = ac := (show r_.toInt = (1 * ac + 0) + 0 from hv).trans (by omega)
      exact hR0 h' r_ hi' hm s0
    cases he
def ktD0_L (k : Nat) : List sT := [.inr (.inl 0), .inl ((k : Int), (k : Int))]
def ktD0_A (k : Nat) : sAs := ([], [], [], [])
def ktD0_P (k : Nat) : List sP0 := []
def ktD0_G (k : Nat) : List sP0 := []
def ktD0_B (k : Nat) : List (Nat × Nat × Int) := []
def ktD0_m (k : Nat) : sM := []
def ktD0_e0 (k : Nat) : sXe := (4, [], [(0, .inr (.inl 0)), (1, .inl sf32), (2, .inl sf32), (3, .inl sf32)], sA0, [], ([], [], [(1, ([], (k : Int))), (2, ([], 0)), (3, ([], 0))], []), [], [])
theorem ktD0_b : ((List.range 2).all fun k => syfB swM sT0 (ktD0_m k) 400 0 266 (ktD0_L k) (ktD0_A k) (ktD0_P k) (ktD0_G k) (ktD0_B k) [ktD0_e0 k] []) = true := by decide +kernel
theorem ktD0 {l : Launch} {Γ : zG} {d : Nat} (hd : 0 ≤ d) {Kp : Option Value → zH → Prop} {h : zH} {k : Nat} (h_k : k < 2) (hi : sInv swM h) {x_hh : Int32} (e_hh : x_hh.toInt = (k : Int))
    (hE0 : ∀ (lo' : zL) (h' : zH), sInv swM h' → sMd (ktD0_m k) h h' → zget lo' 0 = some (.ref 0) → zI lo' 1 (k : Int) → zI lo' 2 0 → zI lo' 3 0 → zX l Γ false (d + 1) (zhd 266) (zMQ' Γ false (zhd 266) Kp) 0 0 4 lo' [] h') : zSem l Γ false (d + 1) (zhd 266) [.ref 0, .int x_hh] h Kp := by
  refine syf_ok (mi := 266) (fun i => [(k : Int)].getD i 0) (zall_r ktD0_b h_k) (fun _ _ hc _ => nomatch hc) hd ⟨_, _, rfl, rfl, ⟨_, _, rfl, ⟨x_hh, rfl, by show (k : Int) ≤ x_hh.toInt; omega, by show x_hh.toInt ≤ (k : Int); omega⟩, rfl⟩⟩ ⟨rfl, ⟨x_hh, rfl, e_hh, by show (k : Int) ≤ (k : Int); omega, by show (k : Int) ≤ (k : Int); omega⟩, trivial⟩ ⟨(fun _ hc => nomatch hc), (fun _ hc => nomatch hc), (fun _ hc => nomatch hc), Or.inl rfl⟩ trivial trivial (fun _ hc => nomatch hc) hi ?_ ?_
  · intro e he lo' st' h' hp hi' hm
    rcases List.mem_cons.mp he with rfl | he
    · obtain ⟨p1, p2, -, hz⟩ := hp
      obtain ⟨⟨z1, z2, z3, z4⟩, z5, z6⟩ := hz
      have o0 : zget lo' 0 = some (.ref 0) := locR (p2 (0, .inr (.inl 0)) (List.mem_of_getElem? (i := 0) rfl))
      have o1 : zI lo' 1 (k : Int) := zI_of (p2 (1, .inl sf32) (List.mem_of_getElem? (i := 1) rfl)) (z3 (1, ([], (k : Int))) (List.mem_of_getElem? (i := 0) rfl)) (show 0 + (k : Int) = (k : Int) from by omega)
      have o2 : zI lo' 2 0 := zI_of (p2 (2, .inl sf32) (List.mem_of_getElem? (i := 2) rfl)) (z3 (2, ([], 0)) (List.mem_of_getElem? (i := 1) rfl)) (show 0 + 0 = 0 from by omega)
      have o3 : zI lo' 3 0 := zI_of (p2 (3, .inl sf32) (List.mem_of_getElem? (i := 3) rfl)) (z3 (3, ([], 0)) (List.mem_of_getElem? (i := 2) rfl)) (show 0 + 0 = 0 from by omega)
      have p1 : _ = [] := p1
      subst p1
      exact hE0 lo' h' hi' hm o0 o1 o2 o3
    cases he
  · intro e he r' h' hp hi' hm
    cases he
def ktD1_L (k : Nat) (p : Nat) : List (Nat × sT) := [(0, .inr (.inl 0)), (1, .inl ((k : Int), (k : Int))), (2, .inl (0, 10)), (3, .inl ((p : Int), (p : Int)))]
def ktD1_S (k : Nat) (p : Nat) : List sT := []
def ktD1_A (k : Nat) (p : Nat) : sAs := ([], [], [], [])
def ktD1_P (k : Nat) (p : Nat) : List sP0 := [(0, (none, 15), (((p : Int) + 1), 10)), (34, (none, (((10 * k + p) : Nat) : Int)), (0, 2))]
def ktD1_G (k : Nat) (p : Nat) : List sP0 := []
def ktD1_B (k : Nat) (p : Nat) : List (Nat × Nat × Int) := []
def ktD1_m (k : Nat) (p : Nat) : sM := []
def ktD1_e0 (k : Nat) (p : Nat) : sXe := (4, [], [(0, .inr (.inl 0)), (1, .inl sf32), (2, .inl sf32), (3, .inl sf32)], sA0, [], ([], [], [(1, ([], (k : Int))), (2, ([(1, 1)], 1)), (3, ([], ((p : Int) + 1)))], [([(4, 1)], (-2)), ([(4, (-1))], 2)]), [], [])
def ktD1_e1 (k : Nat) (p : Nat) : sXe := (4, [], [(0, .inr (.inl 0)), (1, .inl sf32), (2, .inl sf32), (3, .inl sf32)], sA0, [], ([], [], [(1, ([], (k : Int))), (2, ([(1, 1)], 0)), (3, ([], ((p : Int) + 1)))], []), [(([(4, 1)], 0), ([], 2))], [])
theorem ktD1_b : ((List.range 2).all fun k => ((List.range 10).all fun p => syeB swM sT0 (ktD1_m k p) 400 0 266 (ktD1_L k p) (ktD1_S k p) (ktD1_A k p) (ktD1_P k p) (ktD1_G k p) (ktD1_B k p) 4 [ktD1_e0 k p, ktD1_e1 k p] [])) = true := by decide +kernel
theorem ktD1 {l : Launch} {Γ : zG} {d : Nat} (hd : 0 ≤ d) {Kp : Option Value → zH → Prop} {lo : zL} {h : zH} {k : Nat} (h_k : k < 2) {p : Nat} (h_p : p < 10) {ac n dn : Int} (hi : sInv swM h) (b_ac : 0 ≤ ac ∧ ac ≤ 10) (b_n : ((p : Int) + 1) ≤ n ∧ n ≤ 10) (b_dn : 0 ≤ dn ∧ dn ≤ 2) (l0 : zget lo 0 = some (.ref 0)) (l1 : zI lo 1 (k : Int)) (l2 : zI lo 2 ac) (l3 : zI lo 3 (p : Int)) (p_n : pI h 0 15 = n) (p_dn : pI h 34 (10 * k + p) = dn)
    (hE0 : ∀ (lo' : zL) (h' : zH), sInv swM h' → sMd (ktD1_m k p) h h' → dn = 2 → zget lo' 0 = some (.ref 0) → zI lo' 1 (k : Int) → zI lo' 2 (ac + 1) → zI lo' 3 ((p : Int) + 1) → zX l Γ false (d + 1) (zhd 266) (zMQ' Γ false (zhd 266) Kp) 0 0 4 lo' [] h')
    (hE1 : ∀ (lo' : zL) (h' : zH), sInv swM h' → sMd (ktD1_m k p) h h' → dn ≠ 2 → zget lo' 0 = some (.ref 0) → zI lo' 1 (k : Int) → zI lo' 2 ac → zI lo' 3 ((p : Int) + 1) → zX l Γ false (d + 1) (zhd 266) (zMQ' Γ false (zhd 266) Kp) 0 0 4 lo' [] h') : zX l Γ false (d + 1) (zhd 266) (zMQ' Γ false (zhd 266) Kp) 0 0 4 lo [] h := by
  refine sye_ok (mi := 266) (pc := 4) (fun i => [(k : Int), ac, (p : Int), n, dn].getD i 0) (zall_r (zall_r ktD1_b h_k) h_p) (fun _ _ hc _ => nomatch hc) hd ⟨l0, zIm l1 (by show (k : Int) ≤ (k : Int); omega) (by show (k : Int) ≤ (k : Int); omega), zIm l2 (by show 0 ≤ ac; omega) (by show ac ≤ 10; omega), zIm l3 (by show (p : Int) ≤ (p : Int); omega) (by show (p : Int) ≤ (p : Int); omega), trivial⟩ rfl ⟨(fun _ hc => nomatch hc), (fun _ hc => nomatch hc), (fun _ hc => nomatch hc), Or.inl rfl⟩ ⟨⟨p_n, by show ((p : Int) + 1) ≤ n; omega, by show n ≤ 10; omega⟩, ⟨p_dn, by show 0 ≤ dn; omega, by show dn ≤ 2; omega⟩, trivial⟩ trivial (fun _ hc => nomatch hc) hi ?_ ?_
  · intro e he lo' st' h' hp hi' hm
    rcases List.mem_cons.mp he with rfl | he
    · obtain ⟨p1, p2, -, hz⟩ := hp
      obtain ⟨⟨z1, z2, z3, z4⟩, z5, z6⟩ := hz
      have c0 : dn = 2 := by have q_ : (0 : Int) ≤ (1 * dn + 0) + (-2) := z4 ([(4, 1)], (-2)) (List.mem_of_getElem? (i := 0) rfl); have q2_ : (0 : Int) ≤ ((-1) * dn + 0) + 2 := z4 ([(4, (-1))], 2) (List.mem_of_getElem? (i := 1) rfl); omega
      have o0 : zget lo' 0 = some (.ref 0) := locR (p2 (0, .inr (.inl 0)) (List.mem_of_getElem? (i := 0) rfl))
      have o1 : zI lo' 1 (k : Int) := zI_of (p2 (1, .inl sf32) (List.mem_of_getElem? (i := 1) rfl)) (z3 (1, ([], (k : Int))) (List.mem_of_getElem? (i := 0) rfl)) (show 0 + (k : Int) = (k : Int) from by omega)
      have o2 : zI lo' 2 (ac + 1) := zI_of (p2 (2, .inl sf32) (List.mem_of_getElem? (i := 2) rfl)) (z3 (2, ([(1, 1)], 1)) (List.mem_of_getElem? (i := 1) rfl)) (show (1 * ac + 0) + 1 = ac + 1 from by omega)
      have o3 : zI lo' 3 ((p : Int) + 1) := zI_of (p2 (3, .inl sf32) (List.mem_of_getElem? (i := 3) rfl)) (z3 (3, ([], ((p : Int) + 1))) (List.mem_of_getElem? (i := 2) rfl)) (show 0 + ((p : Int) + 1) = ((p : Int) + 1) from by omega)
      have p1 : _ = [] := p1
      subst p1
      exact hE0 lo' h' hi' hm c0 o0 o1 o2 o3
    rcases List.mem_cons.mp he with rfl | he
    · obtain ⟨p1, p2, -, hz⟩ := hp
      obtain ⟨⟨z1, z2, z3, z4⟩, z5, z6⟩ := hz
      have n0 : dn ≠ 2 := fun e_ => z5 (([(4, 1)], 0), ([], 2)) (List.mem_of_getElem? (i := 0) rfl) (by show (1 * dn + 0) + 0 = 0 + 2; omega)
      have o0 : zget lo' 0 = some (.ref 0) := locR (p2 (0, .inr (.inl 0)) (List.mem_of_getElem? (i := 0) rfl))
      have o1 : zI lo' 1 (k : Int) := zI_of (p2 (1, .inl sf32) (List.mem_of_getElem? (i := 1) rfl)) (z3 (1, ([], (k : Int))) (List.mem_of_getElem? (i := 0) rfl)) (show 0 + (k : Int) = (k : Int) from by omega)
      have o2 : zI lo' 2 ac := zI_of (p2 (2, .inl sf32) (List.mem_of_getElem? (i := 2) rfl)) (z3 (2, ([(1, 1)], 0)) (List.mem_of_getElem? (i := 1) rfl)) (show (1 * ac + 0) + 0 = ac from by omega)
      have o3 : zI lo' 3 ((p : Int) + 1) := zI_of (p2 (3, .inl sf32) (List.mem_of_getElem? (i := 3) rfl)) (z3 (3, ([], ((p : Int) + 1))) (List.mem_of_getElem? (i := 2) rfl)) (show 0 + ((p : Int) + 1) = ((p : Int) + 1) from by omega)
      have p1 : _ = [] := p1
      subst p1
      exact hE1 lo' h' hi' hm n0 o0 o1 o2 o3
    cases he
  · intro e he r' h' hp hi' hm
    cases he
def ktD2_L (k : Nat) (p : Nat) : List (Nat × sT) := [(0, .inr (.inl 0)), (1, .inl ((k : Int), (k : Int))), (2, .inl (0, 10)), (3, .inl ((p : Int), (p : Int)))]
def ktD2_S (k : Nat) (p : Nat) : List sT := []
def ktD2_A (k : Nat) (p : Nat) : sAs := ([], [], [], [])
def ktD2_P (k : Nat) (p : Nat) : List sP0 := [(0, (none, 15), (0, (p : Int)))]
def ktD2_G (k : Nat) (p : Nat) : List sP0 := []
def ktD2_B (k : Nat) (p : Nat) : List (Nat × Nat × Int) := []
def ktD2_m (k : Nat) (p : Nat) : sM := []
def ktD2_r0 (k : Nat) (p : Nat) : sXr := (some (.inl sf32), sA0, [], ([], [(0, ([(1, 1)], 0))], [], []), [], [])
theorem ktD2_b : ((List.range 2).all fun k => ((List.range 11).all fun p => syeB swM sT0 (ktD2_m k p) 400 0 266 (ktD2_L k p) (ktD2_S k p) (ktD2_A k p) (ktD2_P k p) (ktD2_G k p) (ktD2_B k p) 4 [] [ktD2_r0 k p])) = true := by decide +kernel
theorem ktD2 {l : Launch} {Γ : zG} {d : Nat} (hd : 0 ≤ d) {Kp : Option Value → zH → Prop} {lo : zL} {h : zH} {k : Nat} (h_k : k < 2) {p : Nat} (h_p : p < 11) {ac n : Int} (hi : sInv swM h) (b_ac : 0 ≤ ac ∧ ac ≤ 10) (b_n : 0 ≤ n ∧ n ≤ (p : Int)) (l0 : zget lo 0 = some (.ref 0)) (l1 : zI lo 1 (k : Int)) (l2 : zI lo 2 ac) (l3 : zI lo 3 (p : Int)) (p_n : pI h 0 15 = n)
    (hR0 : ∀ (h' : zH) (r_ : Int32), sInv swM h' → sMd (ktD2_m k p) h h' → r_.toInt = ac → Kp (some (.int r_)) h') : zX l Γ false (d + 1) (zhd 266) (zMQ' Γ false (zhd 266) Kp) 0 0 4 lo [] h := by
  refine sye_ok (mi := 266) (pc := 4) (fun i => [(k : Int), ac, (p : Int), n].getD i 0) (zall_r (zall_r ktD2_b h_k) h_p) (fun _ _ hc _ => nomatch hc) hd ⟨l0, zIm l1 (by show (k : Int) ≤ (k : Int); omega) (by show (k : Int) ≤ (k : Int); omega), zIm l2 (by show 0 ≤ ac; omega) (by show ac ≤ 10; omega), zIm l3 (by show (p : Int) ≤ (p : Int); omega) (by show (p : Int) ≤ (p : Int); omega), trivial⟩ rfl ⟨(fun _ hc => nomatch hc), (fun _ hc => nomatch hc), (fun _ hc => nomatch hc), Or.inl rfl⟩ ⟨⟨p_n, by show 0 ≤ n; omega, by show n ≤ (p : Int); omega⟩, trivial⟩ trivial (fun _ hc => nomatch hc) hi ?_ ?_
  · intro e he lo' st' h' hp hi' hm
    cases he
  · intro e he r' h' hp hi' hm
    rcases List.mem_cons.mp he with rfl | he
    · obtain ⟨p1, -, hz⟩ := hp
      obtain ⟨⟨z1, z2, z3, z4⟩, z5, z6⟩ := hz
      obtain ⟨r_, rfl, hv⟩ := ansI p1 (z2 (0, ([(1, 1)], 0)) (List.mem_of_getElem? (i := 0) rfl))
      have s0 : r_.toInt = ac := (show r_.toInt = (1 * ac + 0) + 0 from hv).trans (by omega)
      exact hR0 h' r_ hi' hm s0
    cases he
def ktC0_L : List sT := [.inr (.inl 0), .inl sf32]
def ktC0_A : sAs := ([], [], [], [])
def ktC0_P : List sP0 := [(0, (none, 12), (0, 5)), (0, (none, 13), (0, 8)), (0, (none, 15), (0, 10)), (0, (none, 16), (0, 6)), (0, (none, 17), (0, 64)), (36, (none, 0), sf32), (35, (none, 0), sf32)]
def ktC0_G : List sP0 := []
def ktC0_B : List (Nat × Nat × Int) := []
def ktC0_m : sM := [(0, 2, 3)]
def ktC0_e0 : sXe := (114, [.inl sf32, .inr (.inl 0)], [], sA0, [], ([(0, (none, 2), ([], 0))], [(0, ([], 0))], [], [([(0, 1)], (-6)), ([(0, (-1))], 6)]), [(([(0, 1)], 0), ([], 0)), (([(0, 1)], 0), ([], 1)), (([(0, 1)], 0), ([], 2)), (([(0, 1)], 0), ([], 3)), (([(0, 1)], 0), ([], 4)), (([(0, 1)], 0), ([], 5))], [])
def ktC0_e1 : sXe := (120, [], [(0, .inr (.inl 0)), (2, .inl sf32), (3, .inl sf32)], sA0, [], ([(0, (none, 2), ([], 0))], [], [(2, ([], 0)), (3, ([], 0))], [([(0, 1)], (-7)), ([(0, (-1))], 7)]), [(([(0, 1)], 0), ([], 0)), (([(0, 1)], 0), ([], 1)), (([(0, 1)], 0), ([], 2)), (([(0, 1)], 0), ([], 3)), (([(0, 1)], 0), ([], 4)), (([(0, 1)], 0), ([], 5)), (([(0, 1)], 0), ([], 6))], [])
def ktC0_e2 : sXe := (154, [.inl sf32, .inr (.inl 0)], [], sA0, [], ([(0, (none, 2), ([], 0))], [(0, ([], 0))], [], [([(0, 1)], (-9)), ([(0, (-1))], 9)]), [(([(0, 1)], 0), ([], 0)), (([(0, 1)], 0), ([], 1)), (([(0, 1)], 0), ([], 2)), (([(0, 1)], 0), ([], 3)), (([(0, 1)], 0), ([], 4)), (([(0, 1)], 0), ([], 5)), (([(0, 1)], 0), ([], 6)), (([(0, 1)], 0), ([], 7)), (([(0, 1)], 0), ([], 8))], [])
def ktC0_e3 : sXe := (160, [.inl sf32, .inr (.inl 0)], [], sA0, [], ([(0, (none, 2), ([], 0))], [(0, ([], 0))], [], [([(0, 1)], (-10)), ([(0, (-1))], 10)]), [(([(0, 1)], 0), ([], 0)), (([(0, 1)], 0), ([], 1)), (([(0, 1)], 0), ([], 2)), (([(0, 1)], 0), ([], 3)), (([(0, 1)], 0), ([], 4)), (([(0, 1)], 0), ([], 5)), (([(0, 1)], 0), ([], 6)), (([(0, 1)], 0), ([], 7)), (([(0, 1)], 0), ([], 8)), (([(0, 1)], 0), ([], 9))], [])
def ktC0_e4 : sXe := (164, [], [(0, .inr (.inl 0))], sA0, [], ([(0, (none, 2), ([], 0))], [], [], [([(0, 1)], (-11)), ([(0, (-1))], 11)]), [(([(0, 1)], 0), ([], 0)), (([(0, 1)], 0), ([], 1)), (([(0, 1)], 0), ([], 2)), (([(0, 1)], 0), ([], 3)), (([(0, 1)], 0), ([], 4)), (([(0, 1)], 0), ([], 5)), (([(0, 1)], 0), ([], 6)), (([(0, 1)], 0), ([], 7)), (([(0, 1)], 0), ([], 8)), (([(0, 1)], 0), ([], 9)), (([(0, 1)], 0), ([], 10))], [])
def ktC0_e5 : sXe := (169, [], [(0, .inr (.inl 0))], sA0, [], ([(0, (none, 2), ([], 0))], [], [], [([(0, 1)], (-12)), ([(0, (-1))], 12)]), [(([(0, 1)], 0), ([], 0)), (([(0, 1)], 0), ([], 1)), (([(0, 1)], 0), ([], 2)), (([(0, 1)], 0), ([], 3)), (([(0, 1)], 0), ([], 4)), (([(0, 1)], 0), ([], 5)), (([(0, 1)], 0), ([], 6)), (([(0, 1)], 0), ([], 7)), (([(0, 1)], 0), ([], 8)), (([(0, 1)], 0), ([], 9)), (([(0, 1)], 0), ([], 10)), (([(0, 1)], 0), ([], 11))], [])
def ktC0_e6 : sXe := (174, [], [(0, .inr (.inl 0))], sA0, [], ([(0, (none, 2), ([], 0))], [], [], [([(0, 1)], (-13)), ([(0, (-1))], 13)]), [(([(0, 1)], 0), ([], 0)), (([(0, 1)], 0), ([], 1)), (([(0, 1)], 0), ([], 2)), (([(0, 1)], 0), ([], 3)), (([(0, 1)], 0), ([], 4)), (([(0, 1)], 0), ([], 5)), (([(0, 1)], 0), ([], 6)), (([(0, 1)], 0), ([], 7)), (([(0, 1)], 0), ([], 8)), (([(0, 1)], 0), ([], 9)), (([(0, 1)], 0), ([], 10)), (([(0, 1)], 0), ([], 11)), (([(0, 1)], 0), ([], 12))], [])
def ktC0_r0 : sXr := (some (.inl sf32), sA0, [], ([(0, (none, 2), ([], 0))], [(0, ([(1, 1)], 0))], [], [([(0, 1)], 0), ([(0, (-1))], 0)]), [], [])
def ktC0_r1 : sXr := (some (.inl sf32), sA0, [], ([(0, (none, 2), ([], 0))], [(0, ([(2, 1)], 0))], [], [([(0, 1)], (-1)), ([(0, (-1))], 1)]), [(([(0, 1)], 0), ([], 0))], [])
def ktC0_r2 : sXr := (some (.inl sf32), sA0, [], ([(0, (none, 2), ([], 0))], [(0, ([(3, 1)], 0))], [], [([(0, 1)], (-2)), ([(0, (-1))], 2)]), [(([(0, 1)], 0), ([], 0)), (([(0, 1)], 0), ([], 1))], [])
def ktC0_r3 : sXr := (some (.inl sf32), sA0, [], ([(0, (none, 2), ([], 0))], [(0, ([(4, 1)], 0))], [], [([(0, 1)], (-3)), ([(0, (-1))], 3)]), [(([(0, 1)], 0), ([], 0)), (([(0, 1)], 0), ([], 1)), (([(0, 1)], 0), ([], 2))], [])
def ktC0_r4 : sXr := (some (.inl sf32), sA0, [], ([(0, (none, 2), ([], 0))], [(0, ([(5, 1)], 0))], [], [([(0, 1)], (-4)), ([(0, (-1))], 4)]), [(([(0, 1)], 0), ([], 0)), (([(0, 1)], 0), ([], 1)), (([(0, 1)], 0), ([], 2)), (([(0, 1)], 0), ([], 3))], [])
def ktC0_r5 : sXr := (some (.inl sf32), sA0, [], ([(0, (none, 2), ([], 0))], [(0, ([(6, 1)], 0))], [], [([(0, 1)], (-5)), ([(0, (-1))], 5)]), [(([(0, 1)], 0), ([], 0)), (([(0, 1)], 0), ([], 1)), (([(0, 1)], 0), ([], 2)), (([(0, 1)], 0), ([], 3)), (([(0, 1)], 0), ([], 4))], [])
def ktC0_r6 : sXr := (some (.inl sf32), sA0, [], ([(0, (none, 2), ([], 0))], [(0, ([(7, 1)], 0))], [], [([(0, 1)], (-8)), ([(0, (-1))], 8)]), [(([(0, 1)], 0), ([], 0)), (([(0, 1)], 0), ([], 1)), (([(0, 1)], 0), ([], 2)), (([(0, 1)], 0), ([], 3)), (([(0, 1)], 0), ([], 4)), (([(0, 1)], 0), ([], 5)), (([(0, 1)], 0), ([], 6)), (([(0, 1)], 0), ([], 7))], [])
def ktC0_r7 : sXr := (some (.inl sf32), sA0, [], ([(0, (none, 2), ([], 0))], [(0, ([], (-1)))], [], []), [(([(0, 1)], 0), ([], 0)), (([(0, 1)], 0), ([], 1)), (([(0, 1)], 0), ([], 2)), (([(0, 1)], 0), ([], 3)), (([(0, 1)], 0), ([], 4)), (([(0, 1)], 0), ([], 5)), (([(0, 1)], 0), ([], 6)), (([(0, 1)], 0), ([], 7)), (([(0, 1)], 0), ([], 8)), (([(0, 1)], 0), ([], 9)), (([(0, 1)], 0), ([], 10)), (([(0, 1)], 0), ([], 11)), (([(0, 1)], 0), ([], 12)), (([(0, 1)], 0), ([], 13))], [])
theorem ktC0_b : syfB swM sT0 ktC0_m 400 0 310 ktC0_L ktC0_A ktC0_P ktC0_G ktC0_B [ktC0_e0, ktC0_e1, ktC0_e2, ktC0_e3, ktC0_e4, ktC0_e5, ktC0_e6] [ktC0_r0, ktC0_r1, ktC0_r2, ktC0_r3, ktC0_r4, ktC0_r5, ktC0_r6, ktC0_r7] = true := by decide +kernel
theorem ktC0 {l : Launch} {Γ : zG} {d : Nat} (hd : 0 ≤ d) {Kp : Option Value → zH → Prop} {h : zH} {x n0 n1 n3 n4 kn mi tx : Int} (hi : sInv swM h) (b_x : (-2147483648) ≤ x ∧ x ≤ 2147483647) (b_n0 : 0 ≤ n0 ∧ n0 ≤ 5) (b_n1 : 0 ≤ n1 ∧ n1 ≤ 8) (b_n3 : 0 ≤ n3 ∧ n3 ≤ 10) (b_n4 : 0 ≤ n4 ∧ n4 ≤ 6) (b_kn : 0 ≤ kn ∧ kn ≤ 64) (b_mi : (-2147483648) ≤ mi ∧ mi ≤ 2147483647) (b_tx : (-2147483648) ≤ tx ∧ tx ≤ 2147483647) {x_x : Int32} (e_x : x_x.toInt = x) (p_n0 : pI h 0 12 = n0) (p_n1 : pI h 0 13 = n1) (p_n3 : pI h 0 15 = n3) (p_n4 : pI h 0 16 = n4) (p_kn : pI h 0 17 = kn) (p_mi : pI h 36 0 = mi) (p_tx : pI h 35 0 = tx)
    (hE0 : ∀ (lo' : zL) (h' : zH) (y0 : Int32), sInv swM h' → sMd ktC0_m h h' → x = 6 → x ≠ 0 → x ≠ 1 → x ≠ 2 → x ≠ 3 → x ≠ 4 → x ≠ 5 → pI h' 0 2 = 0 → y0.toInt = 0 → zX l Γ false (d + 1) (zhd 310) (zMQ' Γ false (zhd 310) Kp) 0 0 114 lo' [.int y0, .ref 0] h')
    (hE1 : ∀ (lo' : zL) (h' : zH), sInv swM h' → sMd ktC0_m h h' → x = 7 → x ≠ 0 → x ≠ 1 → x ≠ 2 → x ≠ 3 → x ≠ 4 → x ≠ 5 → x ≠ 6 → pI h' 0 2 = 0 → zget lo' 0 = some (.ref 0) → zI lo' 2 0 → zI lo' 3 0 → zX l Γ false (d + 1) (zhd 310) (zMQ' Γ false (zhd 310) Kp) 0 0 120 lo' [] h')
    (hE2 : ∀ (lo' : zL) (h' : zH) (y0 : Int32), sInv swM h' → sMd ktC0_m h h' → x = 9 → x ≠ 0 → x ≠ 1 → x ≠ 2 → x ≠ 3 → x ≠ 4 → x ≠ 5 → x ≠ 6 → x ≠ 7 → x ≠ 8 → pI h' 0 2 = 0 → y0.toInt = 0 → zX l Γ false (d + 1) (zhd 310) (zMQ' Γ false (zhd 310) Kp) 0 0 154 lo' [.int y0, .ref 0] h')
    (hE3 : ∀ (lo' : zL) (h' : zH) (y0 : Int32), sInv swM h' → sMd ktC0_m h h' → x = 10 → x ≠ 0 → x ≠ 1 → x ≠ 2 → x ≠ 3 → x ≠ 4 → x ≠ 5 → x ≠ 6 → x ≠ 7 → x ≠ 8 → x ≠ 9 → pI h' 0 2 = 0 → y0.toInt = 0 → zX l Γ false (d + 1) (zhd 310) (zMQ' Γ false (zhd 310) Kp) 0 0 160 lo' [.int y0, .ref 0] h')
    (hE4 : ∀ (lo' : zL) (h' : zH), sInv swM h' → sMd ktC0_m h h' → x = 11 → x ≠ 0 → x ≠ 1 → x ≠ 2 → x ≠ 3 → x ≠ 4 → x ≠ 5 → x ≠ 6 → x ≠ 7 → x ≠ 8 → x ≠ 9 → x ≠ 10 → pI h' 0 2 = 0 → zget lo' 0 = some (.ref 0) → zX l Γ false (d + 1) (zhd 310) (zMQ' Γ false (zhd 310) Kp) 0 0 164 lo' [] h')
    (hE5 : ∀ (lo' : zL) (h' : zH), sInv swM h' → sMd ktC0_m h h' → x = 12 → x ≠ 0 → x ≠ 1 → x ≠ 2 → x ≠ 3 → x ≠ 4 → x ≠ 5 → x ≠ 6 → x ≠ 7 → x ≠ 8 → x ≠ 9 → x ≠ 10 → x ≠ 11 → pI h' 0 2 = 0 → zget lo' 0 = some (.ref 0) → zX l Γ false (d + 1) (zhd 310) (zMQ' Γ false (zhd 310) Kp) 0 0 169 lo' [] h')
    (hE6 : ∀ (lo' : zL) (h' : zH), sInv swM h' → sMd ktC0_m h h' → x = 13 → x ≠ 0 → x ≠ 1 → x ≠ 2 → x ≠ 3 → x ≠ 4 → x ≠ 5 → x ≠ 6 → x ≠ 7 → x ≠ 8 → x ≠ 9 → x ≠ 10 → x ≠ 11 → x ≠ 12 → pI h' 0 2 = 0 → zget lo' 0 = some (.ref 0) → zX l Γ false (d + 1) (zhd 310) (zMQ' Γ false (zhd 310) Kp) 0 0 174 lo' [] h')
    (hR0 : ∀ (h' : zH) (r_ : Int32), sInv swM h' → sMd ktC0_m h h' → x = 0 → pI h' 0 2 = 0 → r_.toInt = n0 → Kp (some (.int r_)) h')
    (hR1 : ∀ (h' : zH) (r_ : Int32), sInv swM h' → sMd ktC0_m h h' → x = 1 → x ≠ 0 → pI h' 0 2 = 0 → r_.toInt = n1 → Kp (some (.int r_)) h')
    (hR2 : ∀ (h' : zH) (r_ : Int32), sInv swM h' → sMd ktC0_m h h' → x = 2 → x ≠ 0 → x ≠ 1 → pI h' 0 2 = 0 → r_.toInt = n3 → Kp (some (.int r_)) h')
    (hR3 : ∀ (h' : zH) (r_ : Int32), sInv swM h' → sMd ktC0_m h h' → x = 3 → x ≠ 0 → x ≠ 1 → x ≠ 2 → pI h' 0 2 = 0 → r_.toInt = n4 → Kp (some (.int r_)) h')
    (hR4 : ∀ (h' : zH) (r_ : Int32), sInv swM h' → sMd ktC0_m h h' → x = 4 → x ≠ 0 → x ≠ 1 → x ≠ 2 → x ≠ 3 → pI h' 0 2 = 0 → r_.toInt = kn → Kp (some (.int r_)) h')
    (hR5 : ∀ (h' : zH) (r_ : Int32), sInv swM h' → sMd ktC0_m h h' → x = 5 → x ≠ 0 → x ≠ 1 → x ≠ 2 → x ≠ 3 → x ≠ 4 → pI h' 0 2 = 0 → r_.toInt = mi → Kp (some (.int r_)) h')
    (hR6 : ∀ (h' : zH) (r_ : Int32), sInv swM h' → sMd ktC0_m h h' → x = 8 → x ≠ 0 → x ≠ 1 → x ≠ 2 → x ≠ 3 → x ≠ 4 → x ≠ 5 → x ≠ 6 → x ≠ 7 → pI h' 0 2 = 0 → r_.toInt = tx → Kp (some (.int r_)) h')
    (hR7 : ∀ (h' : zH) (r_ : Int32), sInv swM h' → sMd ktC0_m h h' → x ≠ 0 → x ≠ 1 → x ≠ 2 → x ≠ 3 → x ≠ 4 → x ≠ 5 → x ≠ 6 → x ≠ 7 → x ≠ 8 → x ≠ 9 → x ≠ 10 → x ≠ 11 → x ≠ 12 → x ≠ 13 → pI h' 0 2 = 0 → r_.toInt = (-1) → Kp (some (.int r_)) h') : zSem l Γ false (d + 1) (zhd 310) [.ref 0, .int x_x] h Kp := by
  refine syf_ok (mi := 310) (fun i => [x, n0, n1, n3, n4, kn, mi, tx].getD i 0) ktC0_b (fun _ _ hc _ => nomatch hc) hd ⟨_, _, rfl, rfl, ⟨_, _, rfl, ⟨x_x, rfl, by show (-2147483648) ≤ x_x.toInt; omega, by show x_x.toInt ≤ 2147483647; omega⟩, rfl⟩⟩ ⟨rfl, ⟨x_x, rfl, e_x, by show (-2147483648) ≤ x; omega, by show x ≤ 2147483647; omega⟩, trivial⟩ ⟨(fun _ hc => nomatch hc), (fun _ hc => nomatch hc), (fun _ hc => nomatch hc), Or.inl rfl⟩ ⟨⟨p_n0, by show 0 ≤ n0; omega, by show n0 ≤ 5; omega⟩, ⟨p_n1, by show 0 ≤ n1; omega, by show n1 ≤ 8; omega⟩, ⟨p_n3, by show 0 ≤ n3; omega, by show n3 ≤ 10; omega⟩, ⟨p_n4, by show 0 ≤ n4; omega, by show n4 ≤ 6; omega⟩, ⟨p_kn, by show 0 ≤ kn; omega, by show kn ≤ 64; omega⟩, ⟨p_mi, by show (-2147483648) ≤ mi; omega, by show mi ≤ 2147483647; omega⟩, ⟨p_tx, by show (-2147483648) ≤ tx; omega, by show tx ≤ 2147483647; omega⟩, trivial⟩ trivial (fun _ hc => nomatch hc) hi ?_ ?_
  · intro e he lo' st' h' hp hi' hm
    rcases List.mem_cons.mp he with rfl | he
    · obtain ⟨p1, p2, -, hz⟩ := hp
      obtain ⟨⟨z1, z2, z3, z4⟩, z5, z6⟩ := hz
      have c0 : x = 6 := by have q_ : (0 : Int) ≤ (1 * x + 0) + (-6) := z4 ([(0, 1)], (-6)) (List.mem_of_getElem? (i := 0) rfl); have q2_ : (0 : Int) ≤ ((-1) * x + 0) + 6 := z4 ([(0, (-1))], 6) (List.mem_of_getElem? (i := 1) rfl); omega
      have n0 : x ≠ 0 := fun e_ => z5 (([(0, 1)], 0), ([], 0)) (List.mem_of_getElem? (i := 0) rfl) (by show (1 * x + 0) + 0 = 0 + 0; omega)
      have n1 : x ≠ 1 := fun e_ => z5 (([(0, 1)], 0), ([], 1)) (List.mem_of_getElem? (i := 1) rfl) (by show (1 * x + 0) + 0 = 0 + 1; omega)
      have n2 : x ≠ 2 := fun e_ => z5 (([(0, 1)], 0), ([], 2)) (List.mem_of_getElem? (i := 2) rfl) (by show (1 * x + 0) + 0 = 0 + 2; omega)
      have n3 : x ≠ 3 := fun e_ => z5 (([(0, 1)], 0), ([], 3)) (List.mem_of_getElem? (i := 3) rfl) (by show (1 * x + 0) + 0 = 0 + 3; omega)
      have n4 : x ≠ 4 := fun e_ => z5 (([(0, 1)], 0), ([], 4)) (List.mem_of_getElem? (i := 4) rfl) (by show (1 * x + 0) + 0 = 0 + 4; omega)
      have n5 : x ≠ 5 := fun e_ => z5 (([(0, 1)], 0), ([], 5)) (List.mem_of_getElem? (i := 5) rfl) (by show (1 * x + 0) + 0 = 0 + 5; omega)
      have k0 : pI h' 0 2 = 0 := (show pI h' 0 2 = 0 + 0 from z1 (0, (none, 2), ([], 0)) (List.mem_of_getElem? (i := 0) rfl)).trans (by omega)
      obtain ⟨_, _, rfl, ⟨y0, rfl, -⟩, p1⟩ := p1
      obtain ⟨_, _, rfl, hr, p1⟩ := p1
      have hr : _ = Value.ref 0 := hr
      subst hr
      have p1 : _ = [] := p1
      subst p1
      obtain ⟨v_, ev, hv⟩ := z2 (0, ([], 0)) (List.mem_of_getElem? (i := 0) rfl)
      cases ev
      have s0 : y0.toInt = 0 := (show y0.toInt = 0 + 0 from hv).trans (by omega)
      exact hE0 lo' h' y0 hi' hm c0 n0 n1 n2 n3 n4 n5 k0 s0
    rcases List.mem_cons.mp he with rfl | he
    · obtain ⟨p1, p2, -, hz⟩ := hp
      obtain ⟨⟨z1, z2, z3, z4⟩, z5, z6⟩ := hz
      have c0 : x = 7 := by have q_ : (0 : Int) ≤ (1 * x + 0) + (-7) := z4 ([(0, 1)], (-7)) (List.mem_of_getElem? (i := 0) rfl); have q2_ : (0 : Int) ≤ ((-1) * x + 0) + 7 := z4 ([(0, (-1))], 7) (List.mem_of_getElem? (i := 1) rfl); omega
      have n0 : x ≠ 0 := fun e_ => z5 (([(0, 1)], 0), ([], 0)) (List.mem_of_getElem? (i := 0) rfl) (by show (1 * x + 0) + 0 = 0 + 0; omega)
      have n1 : x ≠ 1 := fun e_ => z5 (([(0, 1)], 0), ([], 1)) (List.mem_of_getElem? (i := 1) rfl) (by show (1 * x + 0) + 0 = 0 + 1; omega)
      have n2 : x ≠ 2 := fun e_ => z5 (([(0, 1)], 0), ([], 2)) (List.mem_of_getElem? (i := 2) rfl) (by show (1 * x + 0) + 0 = 0 + 2; omega)
      have n3 : x ≠ 3 := fun e_ => z5 (([(0, 1)], 0), ([], 3)) (List.mem_of_getElem? (i := 3) rfl) (by show (1 * x + 0) + 0 = 0 + 3; omega)
      have n4 : x ≠ 4 := fun e_ => z5 (([(0, 1)], 0), ([], 4)) (List.mem_of_getElem? (i := 4) rfl) (by show (1 * x + 0) + 0 = 0 + 4; omega)
      have n5 : x ≠ 5 := fun e_ => z5 (([(0, 1)], 0), ([], 5)) (List.mem_of_getElem? (i := 5) rfl) (by show (1 * x + 0) + 0 = 0 + 5; omega)
      have n6 : x ≠ 6 := fun e_ => z5 (([(0, 1)], 0), ([], 6)) (List.mem_of_getElem? (i := 6) rfl) (by show (1 * x + 0) + 0 = 0 + 6; omega)
      have k0 : pI h' 0 2 = 0 := (show pI h' 0 2 = 0 + 0 from z1 (0, (none, 2), ([], 0)) (List.mem_of_getElem? (i := 0) rfl)).trans (by omega)
      have o0 : zget lo' 0 = some (.ref 0) := locR (p2 (0, .inr (.inl 0)) (List.mem_of_getElem? (i := 0) rfl))
      have o2 : zI lo' 2 0 := zI_of (p2 (2, .inl sf32) (List.mem_of_getElem? (i := 1) rfl)) (z3 (2, ([], 0)) (List.mem_of_getElem? (i := 0) rfl)) (show 0 + 0 = 0 from by omega)
      have o3 : zI lo' 3 0 := zI_of (p2 (3, .inl sf32) (List.mem_of_getElem? (i := 2) rfl)) (z3 (3, ([], 0)) (List.mem_of_getElem? (i := 1) rfl)) (show 0 + 0 = 0 from by omega)
      have p1 : _ = [] := p1
      subst p1
      exact hE1 lo' h' hi' hm c0 n0 n1 n2 n3 n4 n5 n6 k0 o0 o2 o3
    rcases List.mem_cons.mp he with rfl | he
    · obtain ⟨p1, p2, -, hz⟩ := hp
      obtain ⟨⟨z1, z2, z3, z4⟩, z5, z6⟩ := hz
      have c0 : x = 9 := by have q_ : (0 : Int) ≤ (1 * x + 0) + (-9) := z4 ([(0, 1)], (-9)) (List.mem_of_getElem? (i := 0) rfl); have q2_ : (0 : Int) ≤ ((-1) * x + 0) + 9 := z4 ([(0, (-1))], 9) (List.mem_of_getElem? (i := 1) rfl); omega
      have n0 : x ≠ 0 := fun e_ => z5 (([(0, 1)], 0), ([], 0)) (List.mem_of_getElem? (i := 0) rfl) (by show (1 * x + 0) + 0 = 0 + 0; omega)
      have n1 : x ≠ 1 := fun e_ => z5 (([(0, 1)], 0), ([], 1)) (List.mem_of_getElem? (i := 1) rfl) (by show (1 * x + 0) + 0 = 0 + 1; omega)
      have n2 : x ≠ 2 := fun e_ => z5 (([(0, 1)], 0), ([], 2)) (List.mem_of_getElem? (i := 2) rfl) (by show (1 * x + 0) + 0 = 0 + 2; omega)
      have n3 : x ≠ 3 := fun e_ => z5 (([(0, 1)], 0), ([], 3)) (List.mem_of_getElem? (i := 3) rfl) (by show (1 * x + 0) + 0 = 0 + 3; omega)
      have n4 : x ≠ 4 := fun e_ => z5 (([(0, 1)], 0), ([], 4)) (List.mem_of_getElem? (i := 4) rfl) (by show (1 * x + 0) + 0 = 0 + 4; omega)
      have n5 : x ≠ 5 := fun e_ => z5 (([(0, 1)], 0), ([], 5)) (List.mem_of_getElem? (i := 5) rfl) (by show (1 * x + 0) + 0 = 0 + 5; omega)
      have n6 : x ≠ 6 := fun e_ => z5 (([(0, 1)], 0), ([], 6)) (List.mem_of_getElem? (i := 6) rfl) (by show (1 * x + 0) + 0 = 0 + 6; omega)
      have n7 : x ≠ 7 := fun e_ => z5 (([(0, 1)], 0), ([], 7)) (List.mem_of_getElem? (i := 7) rfl) (by show (1 * x + 0) + 0 = 0 + 7; omega)
      have n8 : x ≠ 8 := fun e_ => z5 (([(0, 1)], 0), ([], 8)) (List.mem_of_getElem? (i := 8) rfl) (by show (1 * x + 0) + 0 = 0 + 8; omega)
      have k0 : pI h' 0 2 = 0 := (show pI h' 0 2 = 0 + 0 from z1 (0, (none, 2), ([], 0)) (List.mem_of_getElem? (i := 0) rfl)).trans (by omega)
      obtain ⟨_, _, rfl, ⟨y0, rfl, -⟩, p1⟩ := p1
      obtain ⟨_, _, rfl, hr, p1⟩ := p1
      have hr : _ = Value.ref 0 := hr
      subst hr
      have p1 : _ = [] := p1
      subst p1
      obtain ⟨v_, ev, hv⟩ := z2 (0, ([], 0)) (List.mem_of_getElem? (i := 0) rfl)
      cases ev
      have s0 : y0.toInt = 0 := (show y0.toInt = 0 + 0 from hv).trans (by omega)
      exact hE2 lo' h' y0 hi' hm c0 n0 n1 n2 n3 n4 n5 n6 n7 n8 k0 s0
    rcases List.mem_cons.mp he with rfl | he
    · obtain ⟨p1, p2, -, hz⟩ := hp
      obtain ⟨⟨z1, z2, z3, z4⟩, z5, z6⟩ := hz
      have c0 : x = 10 := by have q_ : (0 : Int) ≤ (1 * x + 0) + (-10) := z4 ([(0, 1)], (-10)) (List.mem_of_getElem? (i := 0) rfl); have q2_ : (0 : Int) ≤ ((-1) * x + 0) + 10 := z4 ([(0, (-1))], 10) (List.mem_of_getElem? (i := 1) rfl); omega
      have n0 : x ≠ 0 := fun e_ => z5 (([(0, 1)], 0), ([], 0)) (List.mem_of_getElem? (i := 0) rfl) (by show (1 * x + 0) + 0 = 0 + 0; omega)
      have n1 : x ≠ 1 := fun e_ => z5 (([(0, 1)], 0), ([], 1)) (List.mem_of_getElem? (i := 1) rfl) (by show (1 * x + 0) + 0 = 0 + 1; omega)
      have n2 : x ≠ 2 := fun e_ => z5 (([(0, 1)], 0), ([], 2)) (List.mem_of_getElem? (i := 2) rfl) (by show (1 * x + 0) + 0 = 0 + 2; omega)
      have n3 : x ≠ 3 := fun e_ => z5 (([(0, 1)], 0), ([], 3)) (List.mem_of_getElem? (i := 3) rfl) (by show (1 * x + 0) + 0 = 0 + 3; omega)
      have n4 : x ≠ 4 := fun e_ => z5 (([(0, 1)], 0), ([], 4)) (List.mem_of_getElem? (i := 4) rfl) (by show (1 * x + 0) + 0 = 0 + 4; omega)
      have n5 : x ≠ 5 := fun e_ => z5 (([(0, 1)], 0), ([], 5)) (List.mem_of_getElem? (i := 5) rfl) (by show (1 * x + 0) + 0 = 0 + 5; omega)
      have n6 : x ≠ 6 := fun e_ => z5 (([(0, 1)], 0), ([], 6)) (List.mem_of_getElem? (i := 6) rfl) (by show (1 * x + 0) + 0 = 0 + 6; omega)
      have n7 : x ≠ 7 := fun e_ => z5 (([(0, 1)], 0), ([], 7)) (List.mem_of_getElem? (i := 7) rfl) (by show (1 * x + 0) + 0 = 0 + 7; omega)
      have n8 : x ≠ 8 := fun e_ => z5 (([(0, 1)], 0), ([], 8)) (List.mem_of_getElem? (i := 8) rfl) (by show (1 * x + 0) + 0 = 0 + 8; omega)
      have n9 : x ≠ 9 := fun e_ => z5 (([(0, 1)], 0), ([], 9)) (List.mem_of_getElem? (i := 9) rfl) (by show (1 * x + 0) + 0 = 0 + 9; omega)
      have k0 : pI h' 0 2 = 0 := (show pI h' 0 2 = 0 + 0 from z1 (0, (none, 2), ([], 0)) (List.mem_of_getElem? (i := 0) rfl)).trans (by omega)
      obtain ⟨_, _, rfl, ⟨y0, rfl, -⟩, p1⟩ := p1
      obtain ⟨_, _, rfl, hr, p1⟩ := p1
      have hr : _ = Value.ref 0 := hr
      subst hr
      have p1 : _ = [] := p1
      subst p1
      obtain ⟨v_, ev, hv⟩ := z2 (0, ([], 0)) (List.mem_of_getElem? (i := 0) rfl)
      cases ev
      have s0 : y0.toInt = 0 := (show y0.toInt = 0 + 0 from hv).trans (by omega)
      exact hE3 lo' h' y0 hi' hm c0 n0 n1 n2 n3 n4 n5 n6 n7 n8 n9 k0 s0
    rcases List.mem_cons.mp he with rfl | he
    · obtain ⟨p1, p2, -, hz⟩ := hp
      obtain ⟨⟨z1, z2, z3, z4⟩, z5, z6⟩ := hz
      have c0 : x = 11 := by have q_ : (0 : Int) ≤ (1 * x + 0) + (-11) := z4 ([(0, 1)], (-11)) (List.mem_of_getElem? (i := 0) rfl); have q2_ : (0 : Int) ≤ ((-1) * x + 0) + 11 := z4 ([(0, (-1))], 11) (List.mem_of_getElem? (i := 1) rfl); omega
      have n0 : x ≠ 0 := fun e_ => z5 (([(0, 1)], 0), ([], 0)) (List.mem_of_getElem? (i := 0) rfl) (by show (1 * x + 0) + 0 = 0 + 0; omega)
      have n1 : x ≠ 1 := fun e_ => z5 (([(0, 1)], 0), ([], 1)) (List.mem_of_getElem? (i := 1) rfl) (by show (1 * x + 0) + 0 = 0 + 1; omega)
      have n2 : x ≠ 2 := fun e_ => z5 (([(0, 1)], 0), ([], 2)) (List.mem_of_getElem? (i := 2) rfl) (by show (1 * x + 0) + 0 = 0 + 2; omega)
      have n3 : x ≠ 3 := fun e_ => z5 (([(0, 1)], 0), ([], 3)) (List.mem_of_getElem? (i := 3) rfl) (by show (1 * x + 0) + 0 = 0 + 3; omega)
      have n4 : x ≠ 4 := fun e_ => z5 (([(0, 1)], 0), ([], 4)) (List.mem_of_getElem? (i := 4) rfl) (by show (1 * x + 0) + 0 = 0 + 4; omega)
      have n5 : x ≠ 5 := fun e_ => z5 (([(0, 1)], 0), ([], 5)) (List.mem_of_getElem? (i := 5) rfl) (by show (1 * x + 0) + 0 = 0 + 5; omega)
      have n6 : x ≠ 6 := fun e_ => z5 (([(0, 1)], 0), ([], 6)) (List.mem_of_getElem? (i := 6) rfl) (by show (1 * x + 0) + 0 = 0 + 6; omega)
      have n7 : x ≠ 7 := fun e_ => z5 (([(0, 1)], 0), ([], 7)) (List.mem_of_getElem? (i := 7) rfl) (by show (1 * x + 0) + 0 = 0 + 7; omega)
      have n8 : x ≠ 8 := fun e_ => z5 (([(0, 1)], 0), ([], 8)) (List.mem_of_getElem? (i := 8) rfl) (by show (1 * x + 0) + 0 = 0 + 8; omega)
      have n9 : x ≠ 9 := fun e_ => z5 (([(0, 1)], 0), ([], 9)) (List.mem_of_getElem? (i := 9) rfl) (by show (1 * x + 0) + 0 = 0 + 9; omega)
      have n10 : x ≠ 10 := fun e_ => z5 (([(0, 1)], 0), ([], 10)) (List.mem_of_getElem? (i := 10) rfl) (by show (1 * x + 0) + 0 = 0 + 10; omega)
      have k0 : pI h' 0 2 = 0 := (show pI h' 0 2 = 0 + 0 from z1 (0, (none, 2), ([], 0)) (List.mem_of_getElem? (i := 0) rfl)).trans (by omega)
      have o0 : zget lo' 0 = some (.ref 0) := locR (p2 (0, .inr (.inl 0)) (List.mem_of_getElem? (i := 0) rfl))
      have p1 : _ = [] := p1
      subst p1
      exact hE4 lo' h' hi' hm c0 n0 n1 n2 n3 n4 n5 n6 n7 n8 n9 n10 k0 o0
    rcases List.mem_cons.mp he with rfl | he
    · obtain ⟨p1, p2, -, hz⟩ := hp
      obtain ⟨⟨z1, z2, z3, z4⟩, z5, z6⟩ := hz
      have c0 : x = 12 := by have q_ : (0 : Int) ≤ (1 * x + 0) + (-12) := z4 ([(0, 1)], (-12)) (List.mem_of_getElem? (i := 0) rfl); have q2_ : (0 : Int) ≤ ((-1) * x + 0) + 12 := z4 ([(0, (-1))], 12) (List.mem_of_getElem? (i := 1) rfl); omega
      have n0 : x ≠ 0 := fun e_ => z5 (([(0, 1)], 0), ([], 0)) (List.mem_of_getElem? (i := 0) rfl) (by show (1 * x + 0) + 0 = 0 + 0; omega)
      have n1 : x ≠ 1 := fun e_ => z5 (([(0, 1)], 0), ([], 1)) (List.mem_of_getElem? (i := 1) rfl) (by show (1 * x + 0) + 0 = 0 + 1; omega)
      have n2 : x ≠ 2 := fun e_ => z5 (([(0, 1)], 0), ([], 2)) (List.mem_of_getElem? (i := 2) rfl) (by show (1 * x + 0) + 0 = 0 + 2; omega)
      have n3 : x ≠ 3 := fun e_ => z5 (([(0, 1)], 0), ([], 3)) (List.mem_of_getElem? (i := 3) rfl) (by show (1 * x + 0) + 0 = 0 + 3; omega)
      have n4 : x ≠ 4 := fun e_ => z5 (([(0, 1)], 0), ([], 4)) (List.mem_of_getElem? (i := 4) rfl) (by show (1 * x + 0) + 0 = 0 + 4; omega)
      have n5 : x ≠ 5 := fun e_ => z5 (([(0, 1)], 0), ([], 5)) (List.mem_of_getElem? (i := 5) rfl) (by show (1 * x + 0) + 0 = 0 + 5; omega)
      have n6 : x ≠ 6 := fun e_ => z5 (([(0, 1)], 0), ([], 6)) (List.mem_of_getElem? (i := 6) rfl) (by show (1 * x + 0) + 0 = 0 + 6; omega)
      have n7 : x ≠ 7 := fun e_ => z5 (([(0, 1)], 0), ([], 7)) (List.mem_of_getElem? (i := 7) rfl) (by show (1 * x + 0) + 0 = 0 + 7; omega)
      have n8 : x ≠ 8 := fun e_ => z5 (([(0, 1)], 0), ([], 8)) (List.mem_of_getElem? (i := 8) rfl) (by show (1 * x + 0) + 0 = 0 + 8; omega)
      have n9 : x ≠ 9 := fun e_ => z5 (([(0, 1)], 0), ([], 9)) (List.mem_of_getElem? (i := 9) rfl) (by show (1 * x + 0) + 0 = 0 + 9; omega)
      have n10 : x ≠ 10 := fun e_ => z5 (([(0, 1)], 0), ([], 10)) (List.mem_of_getElem? (i := 10) rfl) (by show (1 * x + 0) + 0 = 0 + 10; omega)
      have n11 : x ≠ 11 := fun e_ => z5 (([(0, 1)], 0), ([], 11)) (List.mem_of_getElem? (i := 11) rfl) (by show (1 * x + 0) + 0 = 0 + 11; omega)
      have k0 : pI h' 0 2 = 0 := (show pI h' 0 2 = 0 + 0 from z1 (0, (none, 2), ([], 0)) (List.mem_of_getElem? (i := 0) rfl)).trans (by omega)
      have o0 : zget lo' 0 = some (.ref 0) := locR (p2 (0, .inr (.inl 0)) (List.mem_of_getElem? (i := 0) rfl))
      have p1 : _ = [] := p1
      subst p1
      exact hE5 lo' h' hi' hm c0 n0 n1 n2 n3 n4 n5 n6 n7 n8 n9 n10 n11 k0 o0
    rcases List.mem_cons.mp he with rfl | he
    · obtain ⟨p1, p2, -, hz⟩ := hp
      obtain ⟨⟨z1, z2, z3, z4⟩, z5, z6⟩ := hz
      have c0 : x = 13 := by have q_ : (0 : Int) ≤ (1 * x + 0) + (-13) := z4 ([(0, 1)], (-13)) (List.mem_of_getElem? (i := 0) rfl); have q2_ : (0 : Int) ≤ ((-1) * x + 0) + 13 := z4 ([(0, (-1))], 13) (List.mem_of_getElem? (i := 1) rfl); omega
      have n0 : x ≠ 0 := fun e_ => z5 (([(0, 1)], 0), ([], 0)) (List.mem_of_getElem? (i := 0) rfl) (by show (1 * x + 0) + 0 = 0 + 0; omega)
      have n1 : x ≠ 1 := fun e_ => z5 (([(0, 1)], 0), ([], 1)) (List.mem_of_getElem? (i := 1) rfl) (by show (1 * x + 0) + 0 = 0 + 1; omega)
      have n2 : x ≠ 2 := fun e_ => z5 (([(0, 1)], 0), ([], 2)) (List.mem_of_getElem? (i := 2) rfl) (by show (1 * x + 0) + 0 = 0 + 2; omega)
      have n3 : x ≠ 3 := fun e_ => z5 (([(0, 1)], 0), ([], 3)) (List.mem_of_getElem? (i := 3) rfl) (by show (1 * x + 0) + 0 = 0 + 3; omega)
      have n4 : x ≠ 4 := fun e_ => z5 (([(0, 1)], 0), ([], 4)) (List.mem_of_getElem? (i := 4) rfl) (by show (1 * x + 0) + 0 = 0 + 4; omega)
      have n5 : x ≠ 5 := fun e_ => z5 (([(0, 1)], 0), ([], 5)) (List.mem_of_getElem? (i := 5) rfl) (by show (1 * x + 0) + 0 = 0 + 5; omega)
      have n6 : x ≠ 6 := fun e_ => z5 (([(0, 1)], 0), ([], 6)) (List.mem_of_getElem? (i := 6) rfl) (by show (1 * x + 0) + 0 = 0 + 6; omega)
      have n7 : x ≠ 7 := fun e_ => z5 (([(0, 1)], 0), ([], 7)) (List.mem_of_getElem? (i := 7) rfl) (by show (1 * x + 0) + 0 = 0 + 7; omega)
      have n8 : x ≠ 8 := fun e_ => z5 (([(0, 1)], 0), ([], 8)) (List.mem_of_getElem? (i := 8) rfl) (by show (1 * x + 0) + 0 = 0 + 8; omega)
      have n9 : x ≠ 9 := fun e_ => z5 (([(0, 1)], 0), ([], 9)) (List.mem_of_getElem? (i := 9) rfl) (by show (1 * x + 0) + 0 = 0 + 9; omega)
      have n10 : x ≠ 10 := fun e_ => z5 (([(0, 1)], 0), ([], 10)) (List.mem_of_getElem? (i := 10) rfl) (by show (1 * x + 0) + 0 = 0 + 10; omega)
      have n11 : x ≠ 11 := fun e_ => z5 (([(0, 1)], 0), ([], 11)) (List.mem_of_getElem? (i := 11) rfl) (by show (1 * x + 0) + 0 = 0 + 11; omega)
      have n12 : x ≠ 12 := fun e_ => z5 (([(0, 1)], 0), ([], 12)) (List.mem_of_getElem? (i := 12) rfl) (by show (1 * x + 0) + 0 = 0 + 12; omega)
      have k0 : pI h' 0 2 = 0 := (show pI h' 0 2 = 0 + 0 from z1 (0, (none, 2), ([], 0)) (List.mem_of_getElem? (i := 0) rfl)).trans (by omega)
      have o0 : zget lo' 0 = some (.ref 0) := locR (p2 (0, .inr (.inl 0)) (List.mem_of_getElem? (i := 0) rfl))
      have p1 : _ = [] := p1
      subst p1
      exact hE6 lo' h' hi' hm c0 n0 n1 n2 n3 n4 n5 n6 n7 n8 n9 n10 n11 n12 k0 o0
    cases he
  · intro e he r' h' hp hi' hm
    rcases List.mem_cons.mp he with rfl | he
    · obtain ⟨p1, -, hz⟩ := hp
      obtain ⟨⟨z1, z2, z3, z4⟩, z5, z6⟩ := hz
      have c0 : x = 0 := by have q_ : (0 : Int) ≤ (1 * x + 0) + 0 := z4 ([(0, 1)], 0) (List.mem_of_getElem? (i := 0) rfl); have q2_ : (0 : Int) ≤ ((-1) * x + 0) + 0 := z4 ([(0, (-1))], 0) (List.mem_of_getElem? (i := 1) rfl); omega
      have k0 : pI h' 0 2 = 0 := (show pI h' 0 2 = 0 + 0 from z1 (0, (none, 2), ([], 0)) (List.mem_of_getElem? (i := 0) rfl)).trans (by omega)
      obtain ⟨r_, rfl, hv⟩ := ansI p1 (z2 (0, ([(1, 1)], 0)) (List.mem_of_getElem? (i := 0) rfl))
      have s0 : r_.toInt = n0 := (show r_.toInt = (1 * n0 + 0) + 0 from hv).trans (by omega)
      exact hR0 h' r_ hi' hm c0 k0 s0
    rcases List.mem_cons.mp he with rfl | he
    · obtain ⟨p1, -, hz⟩ := hp
      obtain ⟨⟨z1, z2, z3, z4⟩, z5, z6⟩ := hz
      have c0 : x = 1 := by have q_ : (0 : Int) ≤ (1 * x + 0) + (-1) := z4 ([(0, 1)], (-1)) (List.mem_of_getElem? (i := 0) rfl); have q2_ : (0 : Int) ≤ ((-1) * x + 0) + 1 := z4 ([(0, (-1))], 1) (List.mem_of_getElem? (i := 1) rfl); omega
      have n0 : x ≠ 0 := fun e_ => z5 (([(0, 1)], 0), ([], 0)) (List.mem_of_getElem? (i := 0) rfl) (by show (1 * x + 0) + 0 = 0 + 0; omega)
      have k0 : pI h' 0 2 = 0 := (show pI h' 0 2 = 0 + 0 from z1 (0, (none, 2), ([], 0)) (List.mem_of_getElem? (i := 0) rfl)).trans (by omega)
      obtain ⟨r_, rfl, hv⟩ := ansI p1 (z2 (0, ([(2, 1)], 0)) (List.mem_of_getElem? (i := 0) rfl))
      have s0 : r_.toInt = n1 := (show r_.toInt = (1 * n1 + 0) + 0 from hv).trans (by omega)
      exact hR1 h' r_ hi' hm c0 n0 k0 s0
    rcases List.mem_cons.mp he with rfl | he
    · obtain ⟨p1, -, hz⟩ := hp
      obtain ⟨⟨z1, z2, z3, z4⟩, z5, z6⟩ := hz
      have c0 : x = 2 := by have q_ : (0 : Int) ≤ (1 * x + 0) + (-2) := z4 ([(0, 1)], (-2)) (List.mem_of_getElem? (i := 0) rfl); have q2_ : (0 : Int) ≤ ((-1) * x + 0) + 2 := z4 ([(0, (-1))], 2) (List.mem_of_getElem? (i := 1) rfl); omega
      have n0 : x ≠ 0 := fun e_ => z5 (([(0, 1)], 0), ([], 0)) (List.mem_of_getElem? (i := 0) rfl) (by show (1 * x + 0) + 0 = 0 + 0; omega)
      have n1 : x ≠ 1 := fun e_ => z5 (([(0, 1)], 0), ([], 1)) (List.mem_of_getElem? (i := 1) rfl) (by show (1 * x + 0) + 0 = 0 + 1; omega)
      have k0 : pI h' 0 2 = 0 := (show pI h' 0 2 = 0 + 0 from z1 (0, (none, 2), ([], 0)) (List.mem_of_getElem? (i := 0) rfl)).trans (by omega)
      obtain ⟨r_, rfl, hv⟩ := ansI p1 (z2 (0, ([(3, 1)], 0)) (List.mem_of_getElem? (i := 0) rfl))
      have s0 : r_.toInt = n3 := (show r_.toInt = (1 * n3 + 0) + 0 from hv).trans (by omega)
      exact hR2 h' r_ hi' hm c0 n0 n1 k0 s0
    rcases List.mem_cons.mp he with rfl | he
    · obtain ⟨p1, -, hz⟩ := hp
      obtain ⟨⟨z1, z2, z3, z4⟩, z5, z6⟩ := hz
      have c0 : x = 3 := by have q_ : (0 : Int) ≤ (1 * x + 0) + (-3) := z4 ([(0, 1)], (-3)) (List.mem_of_getElem? (i := 0) rfl); have q2_ : (0 : Int) ≤ ((-1) * x + 0) + 3 := z4 ([(0, (-1))], 3) (List.mem_of_getElem? (i := 1) rfl); omega
      have n0 : x ≠ 0 := fun e_ => z5 (([(0, 1)], 0), ([], 0)) (List.mem_of_getElem? (i := 0) rfl) (by show (1 * x + 0) + 0 = 0 + 0; omega)
      have n1 : x ≠ 1 := fun e_ => z5 (([(0, 1)], 0), ([], 1)) (List.mem_of_getElem? (i := 1) rfl) (by show (1 * x + 0) + 0 = 0 + 1; omega)
      have n2 : x ≠ 2 := fun e_ => z5 (([(0, 1)], 0), ([], 2)) (List.mem_of_getElem? (i := 2) rfl) (by show (1 * x + 0) + 0 = 0 + 2; omega)
      have k0 : pI h' 0 2 = 0 := (show pI h' 0 2 = 0 + 0 from z1 (0, (none, 2), ([], 0)) (List.mem_of_getElem? (i := 0) rfl)).trans (by omega)
      obtain ⟨r_, rfl, hv⟩ := ansI p1 (z2 (0, ([(4, 1)], 0)) (List.mem_of_getElem? (i := 0) rfl))
      have s0 : r_.toInt = n4 := (show r_.toInt = (1 * n4 + 0) + 0 from hv).trans (by omega)
      exact hR3 h' r_ hi' hm c0 n0 n1 n2 k0 s0
    rcases List.mem_cons.mp he with rfl | he
    · obtain ⟨p1, -, hz⟩ := hp
      obtain ⟨⟨z1, z2, z3, z4⟩, z5, z6⟩ := hz
      have c0 : x = 4 := by have q_ : (0 : Int) ≤ (1 * x + 0) + (-4) := z4 ([(0, 1)], (-4)) (List.mem_of_getElem? (i := 0) rfl); have q2_ : (0 : Int) ≤ ((-1) * x + 0) + 4 := z4 ([(0, (-1))], 4) (List.mem_of_getElem? (i := 1) rfl); omega
      have n0 : x ≠ 0 := fun e_ => z5 (([(0, 1)], 0), ([], 0)) (List.mem_of_getElem? (i := 0) rfl) (by show (1 * x + 0) + 0 = 0 + 0; omega)
      have n1 : x ≠ 1 := fun e_ => z5 (([(0, 1)], 0), ([], 1)) (List.mem_of_getElem? (i := 1) rfl) (by show (1 * x + 0) + 0 = 0 + 1; omega)
      have n2 : x ≠ 2 := fun e_ => z5 (([(0, 1)], 0), ([], 2)) (List.mem_of_getElem? (i := 2) rfl) (by show (1 * x + 0) + 0 = 0 + 2; omega)
      have n3 : x ≠ 3 := fun e_ => z5 (([(0, 1)], 0), ([], 3)) (List.mem_of_getElem? (i := 3) rfl) (by show (1 * x + 0) + 0 = 0 + 3; omega)
      have k0 : pI h' 0 2 = 0 := (show pI h' 0 2 = 0 + 0 from z1 (0, (none, 2), ([], 0)) (List.mem_of_getElem? (i := 0) rfl)).trans (by omega)
      obtain ⟨r_, rfl, hv⟩ := ansI p1 (z2 (0, ([(5, 1)], 0)) (List.mem_of_getElem? (i := 0) rfl))
      have s0 : r_.toInt = kn := (show r_.toInt = (1 * kn + 0) + 0 from hv).trans (by omega)
      exact hR4 h' r_ hi' hm c0 n0 n1 n2 n3 k0 s0
    rcases List.mem_cons.mp he with rfl | he
    · obtain ⟨p1, -, hz⟩ := hp
      obtain ⟨⟨z1, z2, z3, z4⟩, z5, z6⟩ := hz
      have c0 : x = 5 := by have q_ : (0 : Int) ≤ (1 * x + 0) + (-5) := z4 ([(0, 1)], (-5)) (List.mem_of_getElem? (i := 0) rfl); have q2_ : (0 : Int) ≤ ((-1) * x + 0) + 5 := z4 ([(0, (-1))], 5) (List.mem_of_getElem? (i := 1) rfl); omega
      have n0 : x ≠ 0 := fun e_ => z5 (([(0, 1)], 0), ([], 0)) (List.mem_of_getElem? (i := 0) rfl) (by show (1 * x + 0) + 0 = 0 + 0; omega)
      have n1 : x ≠ 1 := fun e_ => z5 (([(0, 1)], 0), ([], 1)) (List.mem_of_getElem? (i := 1) rfl) (by show (1 * x + 0) + 0 = 0 + 1; omega)
      have n2 : x ≠ 2 := fun e_ => z5 (([(0, 1)], 0), ([], 2)) (List.mem_of_getElem? (i := 2) rfl) (by show (1 * x + 0) + 0 = 0 + 2; omega)
      have n3 : x ≠ 3 := fun e_ => z5 (([(0, 1)], 0), ([], 3)) (List.mem_of_getElem? (i := 3) rfl) (by show (1 * x + 0) + 0 = 0 + 3; omega)
      have n4 : x ≠ 4 := fun e_ => z5 (([(0, 1)], 0), ([], 4)) (List.mem_of_getElem? (i := 4) rfl) (by show (1 * x + 0) + 0 = 0 + 4; omega)
      have k0 : pI h' 0 2 = 0 := (show pI h' 0 2 = 0 + 0 from z1 (0, (none, 2), ([], 0)) (List.mem_of_getElem? (i := 0) rfl)).trans (by omega)
      obtain ⟨r_, rfl, hv⟩ := ansI p1 (z2 (0, ([(6, 1)], 0)) (List.mem_of_getElem? (i := 0) rfl))
      have s0 : r_.toInt = mi := (show r_.toInt = (1 * mi + 0) + 0 from hv).trans (by omega)
      exact hR5 h' r_ hi' hm c0 n0 n1 n2 n3 n4 k0 s0
    rcases List.mem_cons.mp he with rfl | he
    · obtain ⟨p1, -, hz⟩ := hp
      obtain ⟨⟨z1, z2, z3, z4⟩, z5, z6⟩ := hz
      have c0 : x = 8 := by have q_ : (0 : Int) ≤ (1 * x + 0) + (-8) := z4 ([(0, 1)], (-8)) (List.mem_of_getElem? (i := 0) rfl); have q2_ : (0 : Int) ≤ ((-1) * x + 0) + 8 := z4 ([(0, (-1))], 8) (List.mem_of_getElem? (i := 1) rfl); omega
      have n0 : x ≠ 0 := fun e_ => z5 (([(0, 1)], 0), ([], 0)) (List.mem_of_getElem? (i := 0) rfl) (by show (1 * x + 0) + 0 = 0 + 0; omega)
      have n1 : x ≠ 1 := fun e_ => z5 (([(0, 1)], 0), ([], 1)) (List.mem_of_getElem? (i := 1) rfl) (by show (1 * x + 0) + 0 = 0 + 1; omega)
      have n2 : x ≠ 2 := fun e_ => z5 (([(0, 1)], 0), ([], 2)) (List.mem_of_getElem? (i := 2) rfl) (by show (1 * x + 0) + 0 = 0 + 2; omega)
      have n3 : x ≠ 3 := fun e_ => z5 (([(0, 1)], 0), ([], 3)) (List.mem_of_getElem? (i := 3) rfl) (by show (1 * x + 0) + 0 = 0 + 3; omega)
      have n4 : x ≠ 4 := fun e_ => z5 (([(0, 1)], 0), ([], 4)) (List.mem_of_getElem? (i := 4) rfl) (by show (1 * x + 0) + 0 = 0 + 4; omega)
      have n5 : x ≠ 5 := fun e_ => z5 (([(0, 1)], 0), ([], 5)) (List.mem_of_getElem? (i := 5) rfl) (by show (1 * x + 0) + 0 = 0 + 5; omega)
      have n6 : x ≠ 6 := fun e_ => z5 (([(0, 1)], 0), ([], 6)) (List.mem_of_getElem? (i := 6) rfl) (by show (1 * x + 0) + 0 = 0 + 6; omega)
      have n7 : x ≠ 7 := fun e_ => z5 (([(0, 1)], 0), ([], 7)) (List.mem_of_getElem? (i := 7) rfl) (by show (1 * x + 0) + 0 = 0 + 7; omega)
      have k0 : pI h' 0 2 = 0 := (show pI h' 0 2 = 0 + 0 from z1 (0, (none, 2), ([], 0)) (List.mem_of_getElem? (i := 0) rfl)).trans (by omega)
      obtain ⟨r_, rfl, hv⟩ := ansI p1 (z2 (0, ([(7, 1)], 0)) (List.mem_of_getElem? (i := 0) rfl))
      have s0 : r_.toInt = tx := (show r_.toInt = (1 * tx + 0) + 0 from hv).trans (by omega)
      exact hR6 h' r_ hi' hm c0 n0 n1 n2 n3 n4 n5 n6 n7 k0 s0
    rcases List.mem_cons.mp he with rfl | he
    · obtain ⟨p1, -, hz⟩ := hp
      obtain ⟨⟨z1, z2, z3, z4⟩, z5, z6⟩ := hz
      have n0 : x ≠ 0 := fun e_ => z5 (([(0, 1)], 0), ([], 0)) (List.mem_of_getElem? (i := 0) rfl) (by show (1 * x + 0) + 0 = 0 + 0; omega)
      have n1 : x ≠ 1 := fun e_ => z5 (([(0, 1)], 0), ([], 1)) (List.mem_of_getElem? (i := 1) rfl) (by show (1 * x + 0) + 0 = 0 + 1; omega)
      have n2 : x ≠ 2 := fun e_ => z5 (([(0, 1)], 0), ([], 2)) (List.mem_of_getElem? (i := 2) rfl) (by show (1 * x + 0) + 0 = 0 + 2; omega)
      have n3 : x ≠ 3 := fun e_ => z5 (([(0, 1)], 0), ([], 3)) (List.mem_of_getElem? (i := 3) rfl) (by show (1 * x + 0) + 0 = 0 + 3; omega)
      have n4 : x ≠ 4 := fun e_ => z5 (([(0, 1)], 0), ([], 4)) (List.mem_of_getElem? (i := 4) rfl) (by show (1 * x + 0) + 0 = 0 + 4; omega)
      have n5 : x ≠ 5 := fun e_ => z5 (([(0, 1)], 0), ([], 5)) (List.mem_of_getElem? (i := 5) rfl) (by show (1 * x + 0) + 0 = 0 + 5; omega)
      have n6 : x ≠ 6 := fun e_ => z5 (([(0, 1)], 0), ([], 6)) (List.mem_of_getElem? (i := 6) rfl) (by show (1 * x + 0) + 0 = 0 + 6; omega)
      have n7 : x ≠ 7 := fun e_ => z5 (([(0, 1)], 0), ([], 7)) (List.mem_of_getElem? (i := 7) rfl) (by show (1 * x + 0) + 0 = 0 + 7; omega)
      have n8 : x ≠ 8 := fun e_ => z5 (([(0, 1)], 0), ([], 8)) (List.mem_of_getElem? (i := 8) rfl) (by show (1 * x + 0) + 0 = 0 + 8; omega)
      have n9 : x ≠ 9 := fun e_ => z5 (([(0, 1)], 0), ([], 9)) (List.mem_of_getElem? (i := 9) rfl) (by show (1 * x + 0) + 0 = 0 + 9; omega)
      have n10 : x ≠ 10 := fun e_ => z5 (([(0, 1)], 0), ([], 10)) (List.mem_of_getElem? (i := 10) rfl) (by show (1 * x + 0) + 0 = 0 + 10; omega)
      have n11 : x ≠ 11 := fun e_ => z5 (([(0, 1)], 0), ([], 11)) (List.mem_of_getElem? (i := 11) rfl) (by show (1 * x + 0) + 0 = 0 + 11; omega)
      have n12 : x ≠ 12 := fun e_ => z5 (([(0, 1)], 0), ([], 12)) (List.mem_of_getElem? (i := 12) rfl) (by show (1 * x + 0) + 0 = 0 + 12; omega)
      have n13 : x ≠ 13 := fun e_ => z5 (([(0, 1)], 0), ([], 13)) (List.mem_of_getElem? (i := 13) rfl) (by show (1 * x + 0) + 0 = 0 + 13; omega)
      have k0 : pI h' 0 2 = 0 := (show pI h' 0 2 = 0 + 0 from z1 (0, (none, 2), ([], 0)) (List.mem_of_getElem? (i := 0) rfl)).trans (by omega)
      obtain ⟨r_, rfl, hv⟩ := ansI p1 (z2 (0, ([], (-1))) (List.mem_of_getElem? (i := 0) rfl))
      have s0 : r_.toInt = (-1) := (show r_.toInt = 0 + (-1) from hv).trans (by omega)
      exact hR7 h' r_ hi' hm n0 n1 n2 n3 n4 n5 n6 n7 n8 n9 n10 n11 n12 n13 k0 s0
    cases he
def ktC5_L (k : Nat) : List (Nat × sT) := [(0, .inr (.inl 0))]
def ktC5_S (k : Nat) : List sT := []
def ktC5_A (k : Nat) : sAs := ([], [], [], [])
def ktC5_P (k : Nat) : List sP0 := [(0, (none, 80), ((k : Int), (k : Int)))]
def ktC5_G (k : Nat) : List sP0 := []
def ktC5_B (k : Nat) : List (Nat × Nat × Int) := []
def ktC5_m (k : Nat) : sM := []
def ktC5_r0 (k : Nat) : sXr := (some (.inl sf32), sA0, [], ([], [(0, ([], (k : Int)))], [], []), [], [])
theorem ktC5_b : ((List.range 21).all fun k => syeB swM sT0 (ktC5_m k) 400 0 310 (ktC5_L k) (ktC5_S k) (ktC5_A k) (ktC5_P k) (ktC5_G k) (ktC5_B k) 174 [] [ktC5_r0 k]) = true := by decide +kernel
theorem ktC5 {l : Launch} {Γ : zG} {d : Nat} (hd : 0 ≤ d) {Kp : Option Value → zH → Prop} {lo : zL} {h : zH} {k : Nat} (h_k : k < 21) (hi : sInv swM h) (l0 : zget lo 0 = some (.ref 0)) (p_un : pI h 0 80 = (k : Int))
    (hR0 : ∀ (h' : zH) (r_ : Int32), sInv swM h' → sMd (ktC5_m k) h h' → r_.toInt = (k : Int) → Kp (some (.int r_)) h') : zX l Γ false (d + 1) (zhd 310) (zMQ' Γ false (zhd 310) Kp) 0 0 174 lo [] h := by
  refine sye_ok (mi := 310) (pc := 174) (fun i => [(k : Int)].getD i 0) (zall_r ktC5_b h_k) (fun _ _ hc _ => nomatch hc) hd ⟨l0, trivial⟩ rfl ⟨(fun _ hc => nomatch hc), (fun _ hc => nomatch hc), (fun _ hc => nomatch hc), Or.inl rfl⟩ ⟨⟨p_un, by show (k : Int) ≤ (k : Int); omega, by show (k : Int) ≤ (k : Int); omega⟩, trivial⟩ trivial (fun _ hc => nomatch hc) hi ?_ ?_
  · intro e he lo' st' h' hp hi' hm
    cases he
  · intro e he r' h' hp hi' hm
    rcases List.mem_cons.mp he with rfl | he
    · obtain ⟨p1, -, hz⟩ := hp
      obtain ⟨⟨z1, z2, z3, z4⟩, z5, z6⟩ := hz
      obtain ⟨r_, rfl, hv⟩ := ansI p1 (z2 (0, ([], (k : Int))) (List.mem_of_getElem? (i := 0) rfl))
      have s0 : r_.toInt = (k : Int) := (show r_.toInt = 0 + (k : Int) from hv).trans (by omega)
      exact hR0 h' r_ hi' hm s0
    cases he
def ktC2_L (k : Nat) : List (Nat × sT) := [(0, .inr (.inl 0))]
def ktC2_S (k : Nat) : List sT := []
def ktC2_A (k : Nat) : sAs := ([], [], [], [])
def ktC2_P (k : Nat) : List sP0 := [(0, (none, 76), ((k : Int), (k : Int)))]
def ktC2_G (k : Nat) : List sP0 := []
def ktC2_B (k : Nat) : List (Nat × Nat × Int) := []
def ktC2_m (k : Nat) : sM := []
def ktC2_r0 (k : Nat) : sXr := (some (.inl sf32), sA0, [], ([], [(0, ([], (k : Int)))], [], []), [], [])
theorem ktC2_b : ((List.range 25).all fun k => syeB swM sT0 (ktC2_m k) 400 0 310 (ktC2_L k) (ktC2_S k) (ktC2_A k) (ktC2_P k) (ktC2_G k) (ktC2_B k) 164 [] [ktC2_r0 k]) = true := by decide +kernel
theorem ktC2 {l : Launch} {Γ : zG} {d : Nat} (hd : 0 ≤ d) {Kp : Option Value → zH → Prop} {lo : zL} {h : zH} {k : Nat} (h_k : k < 25) (hi : sInv swM h) (l0 : zget lo 0 = some (.ref 0)) (p_sz : pI h 0 76 = (k : Int))
    (hR0 : ∀ (h' : zH) (r_ : Int32), sInv swM h' → sMd (ktC2_m k) h h' → r_.toInt = (k : Int) → Kp (some (.int r_)) h') : zX l Γ false (d + 1) (zhd 310) (zMQ' Γ false (zhd 310) Kp) 0 0 164 lo [] h := by
  refine sye_ok (mi := 310) (pc := 164) (fun i => [(k : Int)].getD i 0) (zall_r ktC2_b h_k) (fun _ _ hc _ => nomatch hc) hd ⟨l0, trivial⟩ rfl ⟨(fun _ hc => nomatch hc), (fun _ hc => nomatch hc), (fun _ hc => nomatch hc), Or.inl rfl⟩ ⟨⟨p_sz, by show (k : Int) ≤ (k : Int); omega, by show (k : Int) ≤ (k : Int); omega⟩, trivial⟩ trivial (fun _ hc => nomatch hc) hi ?_ ?_
  · intro e he lo' st' h' hp hi' hm
    cases he
  · intro e he r' h' hp hi' hm
    rcases List.mem_cons.mp he with rfl | he
    · obtain ⟨p1, -, hz⟩ := hp
      obtain ⟨⟨z1, z2, z3, z4⟩, z5, z6⟩ := hz
      obtain ⟨r_, rfl, hv⟩ := ansI p1 (z2 (0, ([], (k : Int))) (List.mem_of_getElem? (i := 0) rfl))
      have s0 : r_.toInt = (k : Int) := (show r_.toInt = 0 + (k : Int) from hv).trans (by omega)
      exact hR0 h' r_ hi' hm s0
    cases he
def ktC3_L (k : Nat) : List (Nat × sT) := [(0, .inr (.inl 0))]
def ktC3_S (k : Nat) : List sT := []
def ktC3_A (k : Nat) : sAs := ([], [], [], [])
def ktC3_P (k : Nat) : List sP0 := [(0, (none, 77), ((-1), (-1))), (0, (none, 76), ((k : Int), (k : Int)))]
def ktC3_G (k : Nat) : List sP0 := []
def ktC3_B (k : Nat) : List (Nat × Nat × Int) := []
def ktC3_m (k : Nat) : sM := []
def ktC3_r0 (k : Nat) : sXr := (some (.inl sf32), sA0, [], ([], [(0, ([], (k : Int)))], [], []), [], [])
theorem ktC3_b : ((List.range 25).all fun k => syeB swM sT0 (ktC3_m k) 400 1 310 (ktC3_L k) (ktC3_S k) (ktC3_A k) (ktC3_P k) (ktC3_G k) (ktC3_B k) 169 [] [ktC3_r0 k]) = true := by decide +kernel
theorem ktC3 {l : Launch} {Γ : zG} {d : Nat} (hd : 1 ≤ d) {Kp : Option Value → zH → Prop} {lo : zL} {h : zH} {k : Nat} (h_k : k < 25) (hi : sInv swM h) (l0 : zget lo 0 = some (.ref 0)) (p_kb : pI h 0 77 = (-1)) (p_sz : pI h 0 76 = (k : Int))
    (hR0 : ∀ (h' : zH) (r_ : Int32), sInv swM h' → sMd (ktC3_m k) h h' → r_.toInt = (k : Int) → Kp (some (.int r_)) h') : zX l Γ false (d + 1) (zhd 310) (zMQ' Γ false (zhd 310) Kp) 0 0 169 lo [] h := by
  refine sye_ok (mi := 310) (pc := 169) (fun i => [(-1), (k : Int)].getD i 0) (zall_r ktC3_b h_k) (fun _ _ hc _ => nomatch hc) hd ⟨l0, trivial⟩ rfl ⟨(fun _ hc => nomatch hc), (fun _ hc => nomatch hc), (fun _ hc => nomatch hc), Or.inl rfl⟩ ⟨⟨p_kb, by show (-1) ≤ (-1); omega, by show (-1) ≤ (-1); omega⟩, ⟨p_sz, by show (k : Int) ≤ (k : Int); omega, by show (k : Int) ≤ (k : Int); omega⟩, trivial⟩ trivial (fun _ hc => nomatch hc) hi ?_ ?_
  · intro e he lo' st' h' hp hi' hm
    cases he
  · intro e he r' h' hp hi' hm
    rcases List.mem_cons.mp he with rfl | he
    · obtain ⟨p1, -, hz⟩ := hp
      obtain ⟨⟨z1, z2, z3, z4⟩, z5, z6⟩ := hz
      obtain ⟨r_, rfl, hv⟩ := ansI p1 (z2 (0, ([], (k : Int))) (List.mem_of_getElem? (i := 0) rfl))
      have s0 : r_.toInt = (k : Int) := (show r_.toInt = 0 + (k : Int) from hv).trans (by omega)
      exact hR0 h' r_ hi' hm s0
    cases he
def ktC4_L : List (Nat × sT) := [(0, .inr (.inl 0))]
def ktC4_S : List sT := []
def ktC4_A : sAs := ([], [], [], [])
def ktC4_P : List sP0 := [(0, (none, 77), (0, 24))]
def ktC4_G : List sP0 := []
def ktC4_B : List (Nat × Nat × Int) := []
def ktC4_m : sM := []
def ktC4_r0 : sXr := (some (.inl sf32), sA0, [], ([], [(0, ([(0, 1)], 0))], [], []), [], [])
theorem ktC4_b : syeB swM sT0 ktC4_m 400 1 310 ktC4_L ktC4_S ktC4_A ktC4_P ktC4_G ktC4_B 169 [] [ktC4_r0] = true := by decide +kernel
theorem ktC4 {l : Launch} {Γ : zG} {d : Nat} (hd : 1 ≤ d) {Kp : Option Value → zH → Prop} {lo : zL} {h : zH} {kb : Int} (hi : sInv swM h) (b_kb : 0 ≤ kb ∧ kb ≤ 24) (l0 : zget lo 0 = some (.ref 0)) (p_kb : pI h 0 77 = kb)
    (hR0 : ∀ (h' : zH) (r_ : Int32), sInv swM h' → sMd ktC4_m h h' → r_.toInt = kb → Kp (some (.int r_)) h') : zX l Γ false (d + 1) (zhd 310) (zMQ' Γ false (zhd 310) Kp) 0 0 169 lo [] h := by
  refine sye_ok (mi := 310) (pc := 169) (fun i => [kb].getD i 0) ktC4_b (fun _ _ hc _ => nomatch hc) hd ⟨l0, trivial⟩ rfl ⟨(fun _ hc => nomatch hc), (fun _ hc => nomatch hc), (fun _ hc => nomatch hc), Or.inl rfl⟩ ⟨⟨p_kb, by show 0 ≤ kb; omega, by show kb ≤ 24; omega⟩, trivial⟩ trivial (fun _ hc => nomatch hc) hi ?_ ?_
  · intro e he lo' st' h' hp hi' hm
    cases he
  · intro e he r' h' hp hi' hm
    rcases List.mem_cons.mp he with rfl | he
    · obtain ⟨p1, -, hz⟩ := hp
      obtain ⟨⟨z1, z2, z3, z4⟩, z5, z6⟩ := hz
      obtain ⟨r_, rfl, hv⟩ := ansI p1 (z2 (0, ([(0, 1)], 0)) (List.mem_of_getElem? (i := 0) rfl))
      have s0 : r_.toInt = kb := (show r_.toInt = (1 * kb + 0) + 0 from hv).trans (by omega)
      exact hR0 h' r_ hi' hm s0
    cases he
def ktC1a_L : List (Nat × sT) := []
def ktC1a_S : List sT := [.inl (0, 1900000000)]
def ktC1a_A : sAs := ([], [], [], [])
def ktC1a_P : List sP0 := []
def ktC1a_G : List sP0 := []
def ktC1a_B : List (Nat × Nat × Int) := []
def ktC1a_m : sM := []
def ktC1a_r0 : sXr := (some (.inl sf32), sA0, [], ([], [(0, ([(0, 1)], 0))], [], []), [], [])
theorem ktC1a_b : syeB swM sT0 ktC1a_m 400 0 310 ktC1a_L ktC1a_S ktC1a_A ktC1a_P ktC1a_G ktC1a_B 117 [] [ktC1a_r0] = true := by decide +kernel
theorem ktC1a {l : Launch} {Γ : zG} {d : Nat} (hd : 0 ≤ d) {Kp : Option Value → zH → Prop} {lo : zL} {h : zH} {v : Int} (hi : sInv swM h) (b_v : 0 ≤ v ∧ v ≤ 1900000000) {x_v : Int32} (e_v : x_v.toInt = v)
    (hR0 : ∀ (h' : zH) (r_ : Int32), sInv swM h' → sMd ktC1a_m h h' → r_.toInt = v → Kp (some (.int r_)) h') : zX l Γ false (d + 1) (zhd 310) (zMQ' Γ false (zhd 310) Kp) 0 0 117 lo [.int x_v] h := by
  refine sye_ok (mi := 310) (pc := 117) (fun i => [v].getD i 0) ktC1a_b (fun _ _ hc _ => nomatch hc) hd trivial ⟨x_v, _, rfl, e_v, ⟨by show 0 ≤ v; omega, by show v ≤ 1900000000; omega⟩, rfl⟩ ⟨(fun _ hc => nomatch hc), (fun _ hc => nomatch hc), (fun _ hc => nomatch hc), Or.inl rfl⟩ trivial trivial (fun _ hc => nomatch hc) hi ?_ ?_
  · intro e he lo' st' h' hp hi' hm
    cases he
  · intro e he r' h' hp hi' hm
    rcases List.mem_cons.mp he with rfl | he
    · obtain ⟨p1, -, hz⟩ := hp
      obtain ⟨⟨z1, z2, z3, z4⟩, z5, z6⟩ := hz
      obtain ⟨r_, rfl, hv⟩ := ansI p1 (z2 (0, ([(0, 1)], 0)) (List.mem_of_getElem? (i := 0) rfl))
      have s0 : r_.toInt = v := (show r_.toInt = (1 * v + 0) + 0 from hv).trans (by omega)
      exact hR0 h' r_ hi' hm s0
    cases he
def ktC1b_L : List (Nat × sT) := []
def ktC1b_S : List sT := [.inl (0, 1900000000)]
def ktC1b_A : sAs := ([], [], [], [])
def ktC1b_P : List sP0 := []
def ktC1b_G : List sP0 := []
def ktC1b_B : List (Nat × Nat × Int) := []
def ktC1b_m : sM := []
def ktC1b_r0 : sXr := (some (.inl sf32), sA0, [], ([], [(0, ([(0, 1)], 0))], [], []), [], [])
theorem ktC1b_b : syeB swM sT0 ktC1b_m 400 0 310 ktC1b_L ktC1b_S ktC1b_A ktC1b_P ktC1b_G ktC1b_B 157 [] [ktC1b_r0] = true := by decide +kernel
theorem ktC1b {l : Launch} {Γ : zG} {d : Nat} (hd : 0 ≤ d) {Kp : Option Value → zH → Prop} {lo : zL} {h : zH} {v : Int} (hi : sInv swM h) (b_v : 0 ≤ v ∧ v ≤ 1900000000) {x_v : Int32} (e_v : x_v.toInt = v)
    (hR0 : ∀ (h' : zH) (r_ : Int32), sInv swM h' → sMd ktC1b_m h h' → r_.toInt = v → Kp (some (.int r_)) h') : zX l Γ false (d + 1) (zhd 310) (zMQ' Γ false (zhd 310) Kp) 0 0 157 lo [.int x_v] h := by
  refine sye_ok (mi := 310) (pc := 157) (fun i => [v].getD i 0) ktC1b_b (fun _ _ hc _ => nomatch hc) hd trivial ⟨x_v, _, rfl, e_v, ⟨by show 0 ≤ v; omega, by show v ≤ 1900000000; omega⟩, rfl⟩ ⟨(fun _ hc => nomatch hc), (fun _ hc => nomatch hc), (fun _ hc => nomatch hc), Or.inl rfl⟩ trivial trivial (fun _ hc => nomatch hc) hi ?_ ?_
  · intro e he lo' st' h' hp hi' hm
    cases he
  · intro e he r' h' hp hi' hm
    rcases List.mem_cons.mp he with rfl | he
    · obtain ⟨p1, -, hz⟩ := hp
      obtain ⟨⟨z1, z2, z3, z4⟩, z5, z6⟩ := hz
      obtain ⟨r_, rfl, hv⟩ := ansI p1 (z2 (0, ([(0, 1)], 0)) (List.mem_of_getElem? (i := 0) rfl))
      have s0 : r_.toInt = v := (show r_.toInt = (1 * v + 0) + 0 from hv).trans (by omega)
      exact hR0 h' r_ hi' hm s0
    cases he
def ktC1c_L : List (Nat × sT) := []
def ktC1c_S : List sT := [.inl (0, 1900000000)]
def ktC1c_A : sAs := ([], [], [], [])
def ktC1c_P : List sP0 := []
def ktC1c_G : List sP0 := []
def ktC1c_B : List (Nat × Nat × Int) := []
def ktC1c_m : sM := []
def ktC1c_r0 : sXr := (some (.inl sf32), sA0, [], ([], [(0, ([(0, 1)], 0))], [], []), [], [])
theorem ktC1c_b : syeB swM sT0 ktC1c_m 400 0 310 ktC1c_L ktC1c_S ktC1c_A ktC1c_P ktC1c_G ktC1c_B 163 [] [ktC1c_r0] = true := by decide +kernel
theorem ktC1c {l : Launch} {Γ : zG} {d : Nat} (hd : 0 ≤ d) {Kp : Option Value → zH → Prop} {lo : zL} {h : zH} {v : Int} (hi : sInv swM h) (b_v : 0 ≤ v ∧ v ≤ 1900000000) {x_v : Int32} (e_v : x_v.toInt = v)
    (hR0 : ∀ (h' : zH) (r_ : Int32), sInv swM h' → sMd ktC1c_m h h' → r_.toInt = v → Kp (some (.int r_)) h') : zX l Γ false (d + 1) (zhd 310) (zMQ' Γ false (zhd 310) Kp) 0 0 163 lo [.int x_v] h := by
  refine sye_ok (mi := 310) (pc := 163) (fun i => [v].getD i 0) ktC1c_b (fun _ _ hc _ => nomatch hc) hd trivial ⟨x_v, _, rfl, e_v, ⟨by show 0 ≤ v; omega, by show v ≤ 1900000000; omega⟩, rfl⟩ ⟨(fun _ hc => nomatch hc), (fun _ hc => nomatch hc), (fun _ hc => nomatch hc), Or.inl rfl⟩ trivial trivial (fun _ hc => nomatch hc) hi ?_ ?_
  · intro e he lo' st' h' hp hi' hm
    cases he
  · intro e he r' h' hp hi' hm
    rcases List.mem_cons.mp he with rfl | he
    · obtain ⟨p1, -, hz⟩ := hp
      obtain ⟨⟨z1, z2, z3, z4⟩, z5, z6⟩ := hz
      obtain ⟨r_, rfl, hv⟩ := ansI p1 (z2 (0, ([(0, 1)], 0)) (List.mem_of_getElem? (i := 0) rfl))
      have s0 : r_.toInt = v := (show r_.toInt = (1 * v + 0) + 0 from hv).trans (by omega)
      exact hR0 h' r_ hi' hm s0
    cases he
def ktP1_L (g : Nat) : List (Nat × sT) := [(0, .inr (.inl 0)), (2, .inl (0, 1900000000)), (3, .inl ((g : Int), (g : Int)))]
def ktP1_S (g : Nat) : List sT := []
def ktP1_A (g : Nat) : sAs := ([], [], [], [])
def ktP1_P (g : Nat) : List sP0 := [(0, (none, 13), (((g : Int) + 1), 8)), (33, (none, ((g : Nat) : Int)), (0, 210000000))]
def ktP1_G (g : Nat) : List sP0 := []
def ktP1_B (g : Nat) : List (Nat × Nat × Int) := []
def ktP1_m (g : Nat) : sM := []
def ktP1_e0 (g : Nat) : sXe := (120, [], [(0, .inr (.inl 0)), (2, .inl sf32), (3, .inl sf32)], sA0, [], ([], [], [(2, ([(0, 1), (3, 1)], 0)), (3, ([], ((g : Int) + 1)))], []), [], [])
theorem ktP1_b : ((List.range 8).all fun g => syeB swM sT0 (ktP1_m g) 400 0 310 (ktP1_L g) (ktP1_S g) (ktP1_A g) (ktP1_P g) (ktP1_G g) (ktP1_B g) 120 [ktP1_e0 g] []) = true := by decide +kernel
theorem ktP1 {l : Launch} {Γ : zG} {d : Nat} (hd : 0 ≤ d) {Kp : Option Value → zH → Prop} {lo : zL} {h : zH} {g : Nat} (h_g : g < 8) {ac n v : Int} (hi : sInv swM h) (b_ac : 0 ≤ ac ∧ ac ≤ 1900000000) (b_n : ((g : Int) + 1) ≤ n ∧ n ≤ 8) (b_v : 0 ≤ v ∧ v ≤ 210000000) (l0 : zget lo 0 = some (.ref 0)) (l2 : zI lo 2 ac) (l3 : zI lo 3 (g : Int)) (p_n : pI h 0 13 = n) (p_v : pI h 33 g = v)
    (hE0 : ∀ (lo' : zL) (h' : zH), sInv swM h' → sMd (ktP1_m g) h h' → zget lo' 0 = some (.ref 0) → zI lo' 2 (ac + v) → zI lo' 3 ((g : Int) + 1) → zX l Γ false (d + 1) (zhd 310) (zMQ' Γ false (zhd 310) Kp) 0 0 120 lo' [] h') : zX l Γ false (d + 1) (zhd 310) (zMQ' Γ false (zhd 310) Kp) 0 0 120 lo [] h := by
  refine sye_ok (mi := 310) (pc := 120) (fun i => [ac, (g : Int), n, v].getD i 0) (zall_r ktP1_b h_g) (fun _ _ hc _ => nomatch hc) hd ⟨l0, zIm l2 (by show 0 ≤ ac; omega) (by show ac ≤ 1900000000; omega), zIm l3 (by show (g : Int) ≤ (g : Int); omega) (by show (g : Int) ≤ (g : Int); omega), trivial⟩ rfl ⟨(fun _ hc => nomatch hc), (fun _ hc => nomatch hc), (fun _ hc => nomatch hc), Or.inl rfl⟩ ⟨⟨p_n, by show ((g : Int) + 1) ≤ n; omega, by show n ≤ 8; omega⟩, ⟨p_v, by show 0 ≤ v; omega, by show v ≤ 210000000; omega⟩, trivial⟩ trivial (fun _ hc => nomatch hc) hi ?_ ?_
  · intro e he lo' st' h' hp hi' hm
    rcases List.mem_cons.mp he with rfl | he
    · obtain ⟨p1, p2, -, hz⟩ := hp
      obtain ⟨⟨z1, z2, z3, z4⟩, z5, z6⟩ := hz
      have o0 : zget lo' 0 = some (.ref 0) := locR (p2 (0, .inr (.inl 0)) (List.mem_of_getElem? (i := 0) rfl))
      have o2 : zI lo' 2 (ac + v) := zI_of (p2 (2, .inl sf32) (List.mem_of_getElem? (i := 1) rfl)) (z3 (2, ([(0, 1), (3, 1)], 0)) (List.mem_of_getElem? (i := 0) rfl)) (show (1 * ac + (1 * v + 0)) + 0 = ac + v from by omega)
      have o3 : zI lo' 3 ((g : Int) + 1) := zI_of (p2 (3, .inl sf32) (List.mem_of_getElem? (i := 2) rfl)) (z3 (3, ([], ((g : Int) + 1))) (List.mem_of_getElem? (i := 1) rfl)) (show 0 + ((g : Int) + 1) = ((g : Int) + 1) from by omega)
      have p1 : _ = [] := p1
      subst p1
      exact hE0 lo' h' hi' hm o0 o2 o3
    cases he
  · intro e he r' h' hp hi' hm
    cases he
def ktP2_L (g : Nat) : List (Nat × sT) := [(0, .inr (.inl 0)), (2, .inl (0, 1900000000)), (3, .inl ((g : Int), (g : Int)))]
def ktP2_S (g : Nat) : List sT := []
def ktP2_A (g : Nat) : sAs := ([], [], [], [])
def ktP2_P (g : Nat) : List sP0 := [(0, (none, 13), (0, (g : Int)))]
def ktP2_G (g : Nat) : List sP0 := []
def ktP2_B (g : Nat) : List (Nat × Nat × Int) := []
def ktP2_m (g : Nat) : sM := []
def ktP2_r0 (g : Nat) : sXr := (some (.inl sf32), sA0, [], ([], [(0, ([(0, 1)], 0))], [], []), [], [])
theorem ktP2_b : ((List.range 9).all fun g => syeB swM sT0 (ktP2_m g) 400 0 310 (ktP2_L g) (ktP2_S g) (ktP2_A g) (ktP2_P g) (ktP2_G g) (ktP2_B g) 120 [] [ktP2_r0 g]) = true := by decide +kernel
theorem ktP2 {l : Launch} {Γ : zG} {d : Nat} (hd : 0 ≤ d) {Kp : Option Value → zH → Prop} {lo : zL} {h : zH} {g : Nat} (h_g : g < 9) {ac n : Int} (hi : sInv swM h) (b_ac : 0 ≤ ac ∧ ac ≤ 1900000000) (b_n : 0 ≤ n ∧ n ≤ (g : Int)) (l0 : zget lo 0 = some (.ref 0)) (l2 : zI lo 2 ac) (l3 : zI lo 3 (g : Int)) (p_n : pI h 0 13 = n)
    (hR0 : ∀ (h' : zH) (r_ : Int32), sInv swM h' → sMd (ktP2_m g) h h' → r_.toInt = ac → Kp (some (.int r_)) h') : zX l Γ false (d + 1) (zhd 310) (zMQ' Γ false (zhd 310) Kp) 0 0 120 lo [] h := by
  refine sye_ok (mi := 310) (pc := 120) (fun i => [ac, (g : Int), n].getD i 0) (zall_r ktP2_b h_g) (fun _ _ hc _ => nomatch hc) hd ⟨l0, zIm l2 (by show 0 ≤ ac; omega) (by show ac ≤ 1900000000; omega), zIm l3 (by show (g : Int) ≤ (g : Int); omega) (by show (g : Int) ≤ (g : Int); omega), trivial⟩ rfl ⟨(fun _ hc => nomatch hc), (fun _ hc => nomatch hc), (fun _ hc => nomatch hc), Or.inl rfl⟩ ⟨⟨p_n, by show 0 ≤ n; omega, by show n ≤ (g : Int); omega⟩, trivial⟩ trivial (fun _ hc => nomatch hc) hi ?_ ?_
  · intro e he lo' st' h' hp hi' hm
    cases he
  · intro e he r' h' hp hi' hm
    rcases List.mem_cons.mp he with rfl | he
    · obtain ⟨p1, -, hz⟩ := hp
      obtain ⟨⟨z1, z2, z3, z4⟩, z5, z6⟩ := hz
      obtain ⟨r_, rfl, hv⟩ := ansI p1 (z2 (0, ([(0, 1)], 0)) (List.mem_of_getElem? (i := 0) rfl))
      have s0 : r_.toInt = ac := (show r_.toInt = (1 * ac + 0) + 0 from hv).trans (by omega)
      exact hR0 h' r_ hi' hm s0
    cases he
