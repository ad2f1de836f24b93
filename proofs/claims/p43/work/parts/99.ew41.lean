def kgT9_L : List (Nat × sT) := [(0, .inr (.inl 0))]
def kgT9_S : List sT := [.inl (0, 700)]
def kgT9_A : sAs := ([], [(0, 5, 26), (0, 6, 9)], [], [])
def kgT9_P : List sP0 := [(3, (none, 8), (0, 5)), (3, (none, 9), ((-1), 700))]
def kgT9_G : List sP0 := []
def kgT9_B : List (Nat × Nat × Int) := []
def kgT9_m : sM := [(0, 2, 3), (0, 3, 4), (0, 5, 6), (0, 6, 7)]
def kgT9_e0 : sXe := (98, [.inr (.inl 9), .inr (.inl 43)], [(0, .inr (.inl 0)), (2, .inl sf32)], ([], [(0, 5, 9), (0, 6, 26)], [], []), [], ([(0, (none, 3), ([(2, 1)], 0)), (0, (none, 2), ([(1, 1)], 0))], [], [(2, ([(0, 1)], 0))], []), [], [])
theorem kgT9_b : syeB swC sT0 kgT9_m 400 0 28 kgT9_L kgT9_S kgT9_A kgT9_P kgT9_G kgT9_B 36 [kgT9_e0] [] = true := by decide +kernel
theorem kgT9 {l : Launch} {Γ : zG} {d : Nat} (hd : 0 ≤ d) {Kp : Option Value → zH → Prop} {lo : zL} {h : zH} {y fk fp : Int} (hi : sInv swC h) (b_y : 0 ≤ y ∧ y ≤ 700) (b_fk : 0 ≤ fk ∧ fk ≤ 5) (b_fp : (-1) ≤ fp ∧ fp ≤ 700) (l0 : zget lo 0 = some (.ref 0)) {x_y : Int32} (e_y : x_y.toInt = y) (p_fk : pI h 3 8 = fk) (p_fp : pI h 3 9 = fp) (q0 : h.2.2.2 0 5 = some 26) (q1 : h.2.2.2 0 6 = some 9)
    (hE0 : ∀ (lo' : zL) (h' : zH), sInv swC h' → sMd kgT9_m h h' → h'.2.2.2 0 5 = some 9 → h'.2.2.2 0 6 = some 26 → pI h' 0 3 = fp → pI h' 0 2 = fk → zget lo' 0 = some (.ref 0) → zI lo' 2 y → zX l Γ false (d + 1) (zhd 28) (zMQ' Γ false (zhd 28) Kp) 0 0 98 lo' [.ref 9, .ref 43] h') : zX l Γ false (d + 1) (zhd 28) (zMQ' Γ false (zhd 28) Kp) 0 0 36 lo [.int x_y] h := by
  refine sye_ok (mi := 28) (pc := 36) (fun i => [y, fk, fp].getD i 0) kgT9_b (fun _ _ hc _ => nomatch hc) hd ⟨l0, trivial⟩ ⟨x_y, _, rfl, e_y, ⟨by show 0 ≤ y; omega, by show y ≤ 700; omega⟩, rfl⟩ ⟨(fun _ hc => nomatch hc), (sfm q0 (sfm q1 (fun _ hc => nomatch hc))), (fun _ hc => nomatch hc), Or.inl rfl⟩ ⟨⟨p_fk, by show 0 ≤ fk; omega, by show fk ≤ 5; omega⟩, ⟨p_fp, by show (-1) ≤ fp; omega, by show fp ≤ 700; omega⟩, trivial⟩ trivial (fun _ hc => nomatch hc) hi ?_ ?_
  · intro e he lo' st' h' hp hi' hm
    rcases List.mem_cons.mp he with rfl | he
    · obtain ⟨p1, p2, pa, hz⟩ := hp
      have t0 : h'.2.2.2 0 5 = some 9 := pa.2.1 (0, 5, 9) (List.mem_of_getElem? (i := 0) rfl)
      have t1 : h'.2.2.2 0 6 = some 26 := pa.2.1 (0, 6, 26) (List.mem_of_getElem? (i := 1) rfl)
      obtain ⟨⟨z1, z2, z3, z4⟩, z5, z6⟩ := hz
      have k0 : pI h' 0 3 = fp := (show pI h' 0 3 = (1 * fp + 0) + 0 from z1 (0, (none, 3), ([(2, 1)], 0)) (List.mem_of_getElem? (i := 0) rfl)).trans (by omega)
      have k1 : pI h' 0 2 = fk := (show pI h' 0 2 = (1 * fk + 0) + 0 from z1 (0, (none, 2), ([(1, 1)], 0)) (List.mem_of_getElem? (i := 1) rfl)).trans (by omega)
      have o0 : zget lo' 0 = some (.ref 0) := locR (p2 (0, .inr (.inl 0)) (List.mem_of_getElem? (i := 0) rfl))
      have o2 : zI lo' 2 y := zI_of (p2 (2, .inl sf32) (List.mem_of_getElem? (i := 1) rfl)) (z3 (2, ([(0, 1)], 0)) (List.mem_of_getElem? (i := 0) rfl)) (show (1 * y + 0) + 0 = y from by omega)
      obtain ⟨_, _, rfl, hr, p1⟩ := p1
      have hr : _ = Value.ref 9 := hr
      subst hr
      obtain ⟨_, _, rfl, hr, p1⟩ := p1
      have hr : _ = Value.ref 43 := hr
      subst hr
      have p1 : _ = [] := p1
      subst p1
      exact hE0 lo' h' hi' hm t0 t1 k0 k1 o0 o2
    cases he
  · intro e he r' h' hp hi' hm
    cases he
def kgT26_L : List (Nat × sT) := [(0, .inr (.inl 0))]
def kgT26_S : List sT := [.inl (0, 700)]
def kgT26_A : sAs := ([], [(0, 5, 9), (0, 6, 26)], [], [])
def kgT26_P : List sP0 := [(3, (none, 8), (0, 5)), (3, (none, 9), ((-1), 700))]
def kgT26_G : List sP0 := []
def kgT26_B : List (Nat × Nat × Int) := []
def kgT26_m : sM := [(0, 2, 3), (0, 3, 4), (0, 5, 6), (0, 6, 7)]
def kgT26_e0 : sXe := (98, [.inr (.inl 26), .inr (.inl 43)], [(0, .inr (.inl 0)), (2, .inl sf32)], ([], [(0, 5, 26), (0, 6, 9)], [], []), [], ([(0, (none, 3), ([(2, 1)], 0)), (0, (none, 2), ([(1, 1)], 0))], [], [(2, ([(0, 1)], 0))], []), [], [])
theorem kgT26_b : syeB swC sT0 kgT26_m 400 0 28 kgT26_L kgT26_S kgT26_A kgT26_P kgT26_G kgT26_B 36 [kgT26_e0] [] = true := by decide +kernel
theorem kgT26 {l : Launch} {Γ : zG} {d : Nat} (hd : 0 ≤ d) {Kp : Option Value → zH → Prop} {lo : zL} {h : zH} {y fk fp : Int} (hi : sInv swC h) (b_y : 0 ≤ y ∧ y ≤ 700) (b_fk : 0 ≤ fk ∧ fk ≤ 5) (b_fp : (-1) ≤ fp ∧ fp ≤ 700) (l0 : zget lo 0 = some (.ref 0)) {x_y : Int32} (e_y : x_y.toInt = y) (p_fk : pI h 3 8 = fk) (p_fp : pI h 3 9 = fp) (q0 : h.2.2.2 0 5 = some 9) (q1 : h.2.2.2 0 6 = some 26)
    (hE0 : ∀ (lo' : zL) (h' : zH), sInv swC h' → sMd kgT26_m h h' → h'.2.2.2 0 5 = some 26 → h'.2.2.2 0 6 = some 9 → pI h' 0 3 = fp → pI h' 0 2 = fk → zget lo' 0 = some (.ref 0) → zI lo' 2 y → zX l Γ false (d + 1) (zhd 28) (zMQ' Γ false (zhd 28) Kp) 0 0 98 lo' [.ref 26, .ref 43] h') : zX l Γ false (d + 1) (zhd 28) (zMQ' Γ false (zhd 28) Kp) 0 0 36 lo [.int x_y] h := by
  refine sye_ok (mi := 28) (pc := 36) (fun i => [y, fk, fp].getD i 0) kgT26_b (fun _ _ hc _ => nomatch hc) hd ⟨l0, trivial⟩ ⟨x_y, _, rfl, e_y, ⟨by show 0 ≤ y; omega, by show y ≤ 700; omega⟩, rfl⟩ ⟨(fun _ hc => nomatch hc), (sfm q0 (sfm q1 (fun _ hc => nomatch hc))), (fun _ hc => nomatch hc), Or.inl rfl⟩ ⟨⟨p_fk, by show 0 ≤ fk; omega, by show fk ≤ 5; omega⟩, ⟨p_fp, by show (-1) ≤ fp; omega, by show fp ≤ 700; omega⟩, trivial⟩ trivial (fun _ hc => nomatch hc) hi ?_ ?_
  · intro e he lo' st' h' hp hi' hm
    rcases List.mem_cons.mp he with rfl | he
    · obtain ⟨p1, p2, pa, hz⟩ := hp
      have t0 : h'.2.2.2 0 5 = some 26 := pa.2.1 (0, 5, 26) (List.mem_of_getElem? (i := 0) rfl)
      have t1 : h'.2.2.2 0 6 = some 9 := pa.2.1 (0, 6, 9) (List.mem_of_getElem? (i := 1) rfl)
      obtain ⟨⟨z1, z2, z3, z4⟩, z5, z6⟩ := hz
      have k0 : pI h' 0 3 = fp := (show pI h' 0 3 = (1 * fp + 0) + 0 from z1 (0, (none, 3), ([(2, 1)], 0)) (List.mem_of_getElem? (i := 0) rfl)).trans (by omega)
      have k1 : pI h' 0 2 = fk := (show pI h' 0 2 = (1 * fk + 0) + 0 from z1 (0, (none, 2), ([(1, 1)], 0)) (List.mem_of_getElem? (i := 1) rfl)).trans (by omega)
      have o0 : zget lo' 0 = some (.ref 0) := locR (p2 (0, .inr (.inl 0)) (List.mem_of_getElem? (i := 0) rfl))
      have o2 : zI lo' 2 y := zI_of (p2 (2, .inl sf32) (List.mem_of_getElem? (i := 1) rfl)) (z3 (2, ([(0, 1)], 0)) (List.mem_of_getElem? (i := 0) rfl)) (show (1 * y + 0) + 0 = y from by omega)
      obtain ⟨_, _, rfl, hr, p1⟩ := p1
      have hr : _ = Value.ref 26 := hr
      subst hr
      obtain ⟨_, _, rfl, hr, p1⟩ := p1
      have hr : _ = Value.ref 43 := hr
      subst hr
      have p1 : _ = [] := p1
      subst p1
      exact hE0 lo' h' hi' hm t0 t1 k0 k1 o0 o2
    cases he
  · intro e he r' h' hp hi' hm
    cases he
def kgF_L : List (Nat × sT) := [(0, .inr (.inl 0))]
def kgF_S : List sT := [.inl ((-1), (-1))]
def kgF_A : sAs := ([], [], [], [])
def kgF_P : List sP0 := [(3, (none, 8), (0, 5)), (3, (none, 9), ((-1), 700))]
def kgF_G : List sP0 := []
def kgF_B : List (Nat × Nat × Int) := []
def kgF_m : sM := [(0, 2, 3), (0, 3, 4)]
def kgF_r0 : sXr := (some (.inl sf32), sA0, [], ([(0, (none, 3), ([(2, 1)], 0)), (0, (none, 2), ([(1, 1)], 0))], [(0, ([], (-1)))], [], []), [], [])
theorem kgF_b : syeB swC sT0 kgF_m 400 0 28 kgF_L kgF_S kgF_A kgF_P kgF_G kgF_B 36 [] [kgF_r0] = true := by decide +kernel
theorem kgF {l : Launch} {Γ : zG} {d : Nat} (hd : 0 ≤ d) {Kp : Option Value → zH → Prop} {lo : zL} {h : zH} {fk fp : Int} (hi : sInv swC h) (b_fk : 0 ≤ fk ∧ fk ≤ 5) (b_fp : (-1) ≤ fp ∧ fp ≤ 700) (l0 : zget lo 0 = some (.ref 0)) {x_y : Int32} (e_y : x_y.toInt = (-1)) (p_fk : pI h 3 8 = fk) (p_fp : pI h 3 9 = fp)
    (hR0 : ∀ (h' : zH) (r_ : Int32), sInv swC h' → sMd kgF_m h h' → pI h' 0 3 = fp → pI h' 0 2 = fk → r_.toInt = (-1) → Kp (some (.int r_)) h') : zX l Γ false (d + 1) (zhd 28) (zMQ' Γ false (zhd 28) Kp) 0 0 36 lo [.int x_y] h := by
  refine sye_ok (mi := 28) (pc := 36) (fun i => [(-1), fk, fp].getD i 0) kgF_b (fun _ _ hc _ => nomatch hc) hd ⟨l0, trivial⟩ ⟨x_y, _, rfl, e_y, ⟨by show (-1) ≤ (-1); omega, by show (-1) ≤ (-1); omega⟩, rfl⟩ ⟨(fun _ hc => nomatch hc), (fun _ hc => nomatch hc), (fun _ hc => nomatch hc), Or.inl rfl⟩ ⟨⟨p_fk, by show 0 ≤ fk; omega, by show fk ≤ 5; omega⟩, ⟨p_fp, by show (-1) ≤ fp; omega, by show fp ≤ 700; omega⟩, trivial⟩ trivial (fun _ hc => nomatch hc) hi ?_ ?_
  · intro e he lo' st' h' hp hi' hm
    cases he
  · intro e he r' h' hp hi' hm
    rcases List.mem_cons.mp he with rfl | he
    · obtain ⟨p1, -, hz⟩ := hp
      obtain ⟨⟨z1, z2, z3, z4⟩, z5, z6⟩ := hz
      have k0 : pI h' 0 3 = fp := (show pI h' 0 3 = (1 * fp + 0) + 0 from z1 (0, (none, 3), ([(2, 1)], 0)) (List.mem_of_getElem? (i := 0) rfl)).trans (by omega)
      have k1 : pI h' 0 2 = fk := (show pI h' 0 2 = (1 * fk + 0) + 0 from z1 (0, (none, 2), ([(1, 1)], 0)) (List.mem_of_getElem? (i := 1) rfl)).trans (by omega)
      obtain ⟨r_, rfl, hv⟩ := ansI p1 (z2 (0, ([], (-1))) (List.mem_of_getElem? (i := 0) rfl))
      have s0 : r_.toInt = (-1) := (show r_.toInt = 0 + (-1) from hv).trans (by omega)
      exact hR0 h' r_ hi' hm k0 k1 s0
    cases he
def kgU_L : List (Nat × sT) := [(0, .inr (.inl 0)), (2, .inl (0, 700))]
def kgU_S : List sT := []
def kgU_A : sAs := ([], [], [], [])
def kgU_P : List sP0 := []
def kgU_G : List sP0 := []
def kgU_B : List (Nat × Nat × Int) := []
def kgU_m : sM := [(0, 9, 10), (86, 4, 5), (91, 6, 7), (91, 7, 8)]
def kgU_r0 : sXr := (some (.inl sf32), sA0, [], ([(0, (none, 9), ([], 0)), (86, (none, 4), ([], 0)), (91, (none, 7), ([], (-1))), (91, (none, 6), ([], 0))], [(0, ([(0, 1)], 0))], [], []), [], [])
theorem kgU_b : syeB swC sT0 kgU_m 400 1 28 kgU_L kgU_S kgU_A kgU_P kgU_G kgU_B 101 [] [kgU_r0] = true := by decide +kernel
theorem kgU {l : Launch} {Γ : zG} {d : Nat} (hd : 1 ≤ d) {Kp : Option Value → zH → Prop} {lo : zL} {h : zH} {y : Int} (hi : sInv swC h) (b_y : 0 ≤ y ∧ y ≤ 700) (l0 : zget lo 0 = some (.ref 0)) (l2 : zI lo 2 y)
    (hR0 : ∀ (h' : zH) (r_ : Int32), sInv swC h' → sMd kgU_m h h' → pI h' 0 9 = 0 → pI h' 86 4 = 0 → pI h' 91 7 = (-1) → pI h' 91 6 = 0 → r_.toInt = y → Kp (some (.int r_)) h') : zX l Γ false (d + 1) (zhd 28) (zMQ' Γ false (zhd 28) Kp) 0 0 101 lo [] h := by
  refine sye_ok (mi := 28) (pc := 101) (fun i => [y].getD i 0) kgU_b (fun _ _ hc _ => nomatch hc) hd ⟨l0, zIm l2 (by show 0 ≤ y; omega) (by show y ≤ 700; omega), trivial⟩ rfl ⟨(fun _ hc => nomatch hc), (fun _ hc => nomatch hc), (fun _ hc => nomatch hc), Or.inl rfl⟩ trivial trivial (fun _ hc => nomatch hc) hi ?_ ?_
  · intro e he lo' st' h' hp hi' hm
    cases he
  · intro e he r' h' hp hi' hm
    rcases List.mem_cons.mp he with rfl | he
    · obtain ⟨p1, -, hz⟩ := hp
      obtain ⟨⟨z1, z2, z3, z4⟩, z5, z6⟩ := hz
      have k0 : pI h' 0 9 = 0 := (show pI h' 0 9 = 0 + 0 from z1 (0, (none, 9), ([], 0)) (List.mem_of_getElem? (i := 0) rfl)).trans (by omega)
      have k1 : pI h' 86 4 = 0 := (show pI h' 86 4 = 0 + 0 from z1 (86, (none, 4), ([], 0)) (List.mem_of_getElem? (i := 1) rfl)).trans (by omega)
      have k2 : pI h' 91 7 = (-1) := (show pI h' 91 7 = 0 + (-1) from z1 (91, (none, 7), ([], (-1))) (List.mem_of_getElem? (i := 2) rfl)).trans (by omega)
      have k3 : pI h' 91 6 = 0 := (show pI h' 91 6 = 0 + 0 from z1 (91, (none, 6), ([], 0)) (List.mem_of_getElem? (i := 3) rfl)).trans (by omega)
      obtain ⟨r_, rfl, hv⟩ := ansI p1 (z2 (0, ([(0, 1)], 0)) (List.mem_of_getElem? (i := 0) rfl))
      have s0 : r_.toInt = y := (show r_.toInt = (1 * y + 0) + 0 from hv).trans (by omega)
      exact hR0 h' r_ hi' hm k0 k1 k2 k3 s0
    cases he
def khK_L : List (Nat × sT) := [(0, .inr (.inl 0))]
def khK_S : List sT := []
def khK_A : sAs := ([], [], [], [])
def khK_P : List sP0 := []
def khK_G : List sP0 := []
def khK_B : List (Nat × Nat × Int) := []
def khK_m : sM := []
def khK_e0 : sXe := (252, [.inr (.inl 0)], [], sA0, [], ([], [], [], []), [], [])
theorem khK_b : syeB swM sT0 khK_m 400 0 188 khK_L khK_S khK_A khK_P khK_G khK_B 251 [khK_e0] [] = true := by decide +kernel
theorem khK {l : Launch} {Γ : zG} {d : Nat} (hd : 0 ≤ d) {Kp : Option Value → zH → Prop} {lo : zL} {h : zH} (hi : sInv swM h) (l0 : zget lo 0 = some (.ref 0))
    (hE0 : ∀ (lo' : zL) (h' : zH), sInv swM h' → sMd khK_m h h' → zX l Γ false (d + 1) (zhd 188) (zMQ' Γ false (zhd 188) Kp) 0 0 252 lo' [.ref 0] h') : zX l Γ false (d + 1) (zhd 188) (zMQ' Γ false (zhd 188) Kp) 0 0 251 lo [] h := by
  refine sye_ok (mi := 188) (pc := 251) (fun i => [].getD i 0) khK_b (fun _ _ hc _ => nomatch hc) hd ⟨l0, trivial⟩ rfl ⟨(fun _ hc => nomatch hc), (fun _ hc => nomatch hc), (fun _ hc => nomatch hc), Or.inl rfl⟩ trivial trivial (fun _ hc => nomatch hc) hi ?_ ?_
  · intro e he lo' st' h' hp hi' hm
    rcases List.mem_cons.mp he with rfl | he
    · obtain ⟨p1, p2, -, hz⟩ := hp
      obtain ⟨⟨z1, z2, z3, z4⟩, z5, z6⟩ := hz
      obtain ⟨_, _, rfl, hr, p1⟩ := p1
      have hr : _ = Value.ref 0 := hr
      subst hr
      have p1 : _ = [] := p1
      subst p1
      exact hE0 lo' h' hi' hm
    cases he
  · intro e he r' h' hp hi' hm
    cases he
def khL_L : List (Nat × sT) := []
def khL_S : List sT := []
def khL_A : sAs := ([], [], [], [])
def khL_P : List sP0 := []
def khL_G : List sP0 := []
def khL_B : List (Nat × Nat × Int) := []
def khL_m : sM := []
def khL_r0 : sXr := (none, sA0, [], ([], [], [], []), [], [])
theorem khL_b : syeB swM sT0 khL_m 400 0 188 khL_L khL_S khL_A khL_P khL_G khL_B 255 [] [khL_r0] = true := by decide +kernel
theorem khL {l : Launch} {Γ : zG} {d : Nat} (hd : 0 ≤ d) {Kp : Option Value → zH → Prop} {lo : zL} {h : zH} (hi : sInv swM h) 
    (hR0 : ∀ (h' : zH), sInv swM h' → sMd khL_m h h' → Kp none h') : zX l Γ false (d + 1) (zhd 188) (zMQ' Γ false (zhd 188) Kp) 0 0 255 lo [] h := by
  refine sye_ok (mi := 188) (pc := 255) (fun i => [].getD i 0) khL_b (fun _ _ hc _ => nomatch hc) hd trivial rfl ⟨(fun _ hc => nomatch hc), (fun _ hc => nomatch hc), (fun _ hc => nomatch hc), Or.inl rfl⟩ trivial trivial (fun _ hc => nomatch hc) hi ?_ ?_
  · intro e he lo' st' h' hp hi' hm
    cases he
  · intro e he r' h' hp hi' hm
    rcases List.mem_cons.mp he with rfl | he
    · obtain ⟨p1, -, hz⟩ := hp
      obtain ⟨⟨z1, z2, z3, z4⟩, z5, z6⟩ := hz
      have p1 : r' = none := p1
      subst p1
      exact hR0 h' hi' hm
    cases he
def khB0_L : List sT := [.inr (.inl 0)]
def khB0_A : sAs := ([], [], [], [])
def khB0_P : List sP0 := []
def khB0_G : List sP0 := []
def khB0_B : List (Nat × Nat × Int) := []
def khB0_m : sM := []
def khB0_e0 : sXe := (2, [.inl sf32, .inr (.inl 0)], [(0, .inr (.inl 0))], sA0, [], ([], [(0, ([], 0))], [], []), [], [])
theorem khB0_b : syfB swM sT0 khB0_m 400 0 190 khB0_L khB0_A khB0_P khB0_G khB0_B [khB0_e0] [] = true := by decide +kernel
theorem khB0 {l : Launch} {Γ : zG} {d : Nat} (hd : 0 ≤ d) {Kp : Option Value → zH → Prop} {h : zH} (hi : sInv swM h) 
    (hE0 : ∀ (lo' : zL) (h' : zH) (y0 : Int32), sInv swM h' → sMd khB0_m h h' → zget lo' 0 = some (.ref 0) → y0.toInt = 0 → zX l Γ false (d + 1) (zhd 190) (zMQ' Γ false (zhd 190) Kp) 0 0 2 lo' [.int y0, .ref 0] h') : zSem l Γ false (d + 1) (zhd 190) [.ref 0] h Kp := by
  refine syf_ok (mi := 190) (fun i => [].getD i 0) khB0_b (fun _ _ hc _ => nomatch hc) hd ⟨_, _, rfl, rfl, rfl⟩ ⟨rfl, trivial⟩ ⟨(fun _ hc => nomatch hc), (fun _ hc => nomatch hc), (fun _ hc => nomatch hc), Or.inl rfl⟩ trivial trivial (fun _ hc => nomatch hc) hi ?_ ?_
  · intro e he lo' st' h' hp hi' hm
    rcases List.mem_cons.mp he with rfl | he
    · obtain ⟨p1, p2, -, hz⟩ := hp
      obtain ⟨⟨z1, z2, z3, z4⟩, z5, z6⟩ := hz
      have o0 : zget lo' 0 = some (.ref 0) := locR (p2 (0, .inr (.inl 0)) (List.mem_of_getElem? (i := 0) rfl))
      obtain ⟨_, _, rfl, ⟨y0, rfl, -⟩, p1⟩ := p1
      obtain ⟨_, _, rfl, hr, p1⟩ := p1
      have hr : _ = Value.ref 0 := hr
      subst hr
      have p1 : _ = [] := p1
      subst p1
      obtain ⟨v_, ev, hv⟩ := z2 (0, ([], 0)) (List.mem_of_getElem? (i := 0) rfl)
      cases ev
      have s0 : y0.toInt = 0 := (show y0.toInt = 0 + 0 from hv).trans (by omega)
      exact hE0 lo' h' y0 hi' hm o0 s0
    cases he
  · intro e he r' h' hp hi' hm
    cases he
def khB1_L : List (Nat × sT) := [(0, .inr (.inl 0))]
def khB1_S : List sT := []
def khB1_A : sAs := ([], [], [], [])
def khB1_P : List sP0 := [(4, (none, 1), sf32)]
def khB1_G : List sP0 := []
def khB1_B : List (Nat × Nat × Int) := []
def khB1_m : sM := [(0, 65, 66), (0, 66, 67), (0, 67, 68), (0, 68, 69), (0, 69, 70), (0, 70, 71), (0, 71, 72), (0, 72, 73), (0, 73, 74), (0, 76, 77), (0, 77, 78), (0, 80, 81), (0, 82, 83)]
def khB1_r0 : sXr := (none, sA0, [(2, 0, ([], 65), ([], 0))], ([(0, (none, 82), ([], 0)), (0, (none, 80), ([], 0)), (0, (none, 77), ([], (-1))), (0, (none, 76), ([], 0)), (0, (none, 73), ([], 0)), (0, (none, 72), ([], (-1))), (0, (none, 71), ([], (-1))), (0, (none, 70), ([], 0)), (0, (none, 69), ([], 0)), (0, (none, 68), ([], 0)), (0, (none, 67), ([], 0)), (0, (none, 66), ([], 0))], [], [], []), [], [(1, ([(0, 1)], 0))])
theorem khB1_b : syeB swM sT0 khB1_m 400 1 190 khB1_L khB1_S khB1_A khB1_P khB1_G khB1_B 5 [] [khB1_r0] = true := by decide +kernel
theorem khB1 {l : Launch} {Γ : zG} {d : Nat} (hd : 1 ≤ d) {Kp : Option Value → zH → Prop} {lo : zL} {h : zH} {sd : Int} (hi : sInv swM h) (b_sd : (-2147483648) ≤ sd ∧ sd ≤ 2147483647) (l0 : zget lo 0 = some (.ref 0)) (p_sd : pI h 4 1 = sd)
    (hR0 : ∀ (h' : zH) (u0 : Int), sInv swM h' → sMd khB1_m h h' → pL h' 0 65 = u0 → u0 = sd → pI h' 0 82 = 0 → pI h' 0 80 = 0 → pI h' 0 77 = (-1) → pI h' 0 76 = 0 → pI h' 0 73 = 0 → pI h' 0 72 = (-1) → pI h' 0 71 = (-1) → pI h' 0 70 = 0 → pI h' 0 69 = 0 → pI h' 0 68 = 0 → pI h' 0 67 = 0 → pI h' 0 66 = 0 → Kp none h') : zX l Γ false (d + 1) (zhd 190) (zMQ' Γ false (zhd 190) Kp) 0 0 5 lo [] h := by
  refine sye_ok (mi := 190) (pc := 5) (fun i => [sd].getD i 0) khB1_b (fun _ _ hc _ => nomatch hc) hd ⟨l0, trivial⟩ rfl ⟨(fun _ hc => nomatch hc), (fun _ hc => nomatch hc), (fun _ hc => nomatch hc), Or.inl rfl⟩ ⟨⟨p_sd, by show (-2147483648) ≤ sd; omega, by show sd ≤ 2147483647; omega⟩, trivial⟩ trivial (fun _ hc => nomatch hc) hi ?_ ?_
  · intro e he lo' st' h' hp hi' hm
    cases he
  · intro e he r' h' hp hi' hm
    rcases List.mem_cons.mp he with rfl | he
    · obtain ⟨p1, -, hz⟩ := hp
      obtain ⟨u0, f0, hz⟩ := hz
      obtain ⟨⟨z1, z2, z3, z4⟩, z5, z6⟩ := hz
      have g0 : pL h' 0 65 = u0 := by
        rw [← (show ((0 + 65 : Int)).toNat = 65 from by omega)]
        exact f0
      have j0 : u0 = sd := (show u0 = (1 * sd + 0) + 0 from z6 (1, ([(0, 1)], 0)) (List.mem_of_getElem? (i := 0) rfl)).trans (by omega)
      have k0 : pI h' 0 82 = 0 := (show pI h' 0 82 = 0 + 0 from z1 (0, (none, 82), ([], 0)) (List.mem_of_getElem? (i := 0) rfl)).trans (by omega)
      have k1 : pI h' 0 80 = 0 := (show pI h' 0 80 = 0 + 0 from z1 (0, (none, 80), ([], 0)) (List.mem_of_getElem? (i := 1) rfl)).trans (by omega)
      have k2 : pI h' 0 77 = (-1) := (show pI h' 0 77 = 0 + (-1) from z1 (0, (none, 77), ([], (-1))) (List.mem_of_getElem? (i := 2) rfl)).trans (by omega)
      have k3 : pI h' 0 76 = 0 := (show pI h' 0 76 = 0 + 0 from z1 (0, (none, 76), ([], 0)) (List.mem_of_getElem? (i := 3) rfl)).trans (by omega)
      have k4 : pI h' 0 73 = 0 := (show pI h' 0 73 = 0 + 0 from z1 (0, (none, 73), ([], 0)) (List.mem_of_getElem? (i := 4) rfl)).trans (by omega)
      have k5 : pI h' 0 72 = (-1) := (show pI h' 0 72 = 0 + (-1) from z1 (0, (none, 72), ([], (-1))) (List.mem_of_getElem? (i := 5) rfl)).trans (by omega)
      have k6 : pI h' 0 71 = (-1) := (show pI h' 0 71 = 0 + (-1) from z1 (0, (none, 71), ([], (-1))) (List.mem_of_getElem? (i := 6) rfl)).trans (by omega)
      have k7 : pI h' 0 70 = 0 := (show pI h' 0 70 = 0 + 0 from z1 (0, (none, 70), ([], 0)) (List.mem_of_getElem? (i := 7) rfl)).trans (by omega)
      have k8 : pI h' 0 69 = 0 := (show pI h' 0 69 = 0 + 0 from z1 (0, (none, 69), ([], 0)) (List.mem_of_getElem? (i := 8) rfl)).trans (by omega)
      have k9 : pI h' 0 68 = 0 := (show pI h' 0 68 = 0 + 0 from z1 (0, (none, 68), ([], 0)) (List.mem_of_getElem? (i := 9) rfl)).trans (by omega)
      have k10 : pI h' 0 67 = 0 := (show pI h' 0 67 = 0 + 0 from z1 (0, (none, 67), ([], 0)) (List.mem_of_getElem? (i := 10) rfl)).trans (by omega)
      have k11 : pI h' 0 66 = 0 := (show pI h' 0 66 = 0 + 0 from z1 (0, (none, 66), ([], 0)) (List.mem_of_getElem? (i := 11) rfl)).trans (by omega)
      have p1 : r' = none := p1
      subst p1
      exact hR0 h' u0 hi' hm g0 j0 k0 k1 k2 k3 k4 k5 k6 k7 k8 k9 k10 k11
    cases he
