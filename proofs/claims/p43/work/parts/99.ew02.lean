def em0_L : List sT := [.inr (.inl 0), .inl (0, 2)]
def em0_A : sAs := ([], [], [], [])
def em0_P : List sP0 := [(20, (some 0, 0), (0, 64))]
def em0_G : List sP0 := []
def em0_B : List (Nat × Nat × Int) := []
def em0_m : sM := [(0, 56, 57)]
def em0_e0 : sXe := (12, [], [(0, .inr (.inl 0)), (1, .inl sf32), (2, .inl sf32)], sA0, [], ([(0, (none, 56), ([], 0))], [], [(1, ([(0, 1)], 0)), (2, ([(1, 1)], 0))], []), [], [])
theorem em0_b : syfB swM sT0 em0_m 400 0 240 em0_L em0_A em0_P em0_G em0_B [em0_e0] [] = true := by decide +kernel
theorem em0 {l : Launch} {Γ : zG} {d : Nat} (hd : 0 ≤ d) {Kp : Option Value → zH → Prop} {h : zH} {la ff : Int} (hi : sInv swM h) (b_la : 0 ≤ la ∧ la ≤ 2) (b_ff : 0 ≤ ff ∧ ff ≤ 64) {x_la : Int32} (e_la : x_la.toInt = la) (p_ff : pI h 20 (la + 0).toNat = ff)
    (hE0 : ∀ (lo' : zL) (h' : zH), sInv swM h' → sMd em0_m h h' → pI h' 0 56 = 0 → zget lo' 0 = some (.ref 0) → zI lo' 1 la → zI lo' 2 ff → zX l Γ false (d + 1) (zhd 240) (zMQ' Γ false (zhd 240) Kp) 0 0 12 lo' [] h') : zSem l Γ false (d + 1) (zhd 240) [.ref 0, .int x_la] h Kp := by
  refine syf_ok (mi := 240) (fun i => [la, ff].getD i 0) em0_b (fun _ _ hc _ => nomatch hc) hd ⟨_, _, rfl, rfl, ⟨_, _, rfl, ⟨x_la, rfl, by show 0 ≤ x_la.toInt; omega, by show x_la.toInt ≤ 2; omega⟩, rfl⟩⟩ ⟨rfl, ⟨x_la, rfl, e_la, by show 0 ≤ la; omega, by show la ≤ 2; omega⟩, trivial⟩ ⟨(fun _ hc => nomatch hc), (fun _ hc => nomatch hc), (fun _ hc => nomatch hc), Or.inl rfl⟩ ⟨⟨p_ff, by show 0 ≤ ff; omega, by show ff ≤ 64; omega⟩, trivial⟩ trivial (fun _ hc => nomatch hc) hi ?_ ?_
  · intro e he lo' st' h' hp hi' hm
    rcases List.mem_cons.mp he with rfl | he
    · obtain ⟨p1, p2, -, hz⟩ := hp
      obtain ⟨⟨z1, z2, z3, z4⟩, z5, z6⟩ := hz
      have k0 : pI h' 0 56 = 0 := (show pI h' 0 56 = 0 + 0 from z1 (0, (none, 56), ([], 0)) (List.mem_of_getElem? (i := 0) rfl)).trans (by omega)
      have o0 : zget lo' 0 = some (.ref 0) := locR (p2 (0, .inr (.inl 0)) (List.mem_of_getElem? (i := 0) rfl))
      have o1 : zI lo' 1 la := zI_of (p2 (1, .inl sf32) (List.mem_of_getElem? (i := 1) rfl)) (z3 (1, ([(0, 1)], 0)) (List.mem_of_getElem? (i := 0) rfl)) (show (1 * la + 0) + 0 = la from by omega)
      have o2 : zI lo' 2 ff := zI_of (p2 (2, .inl sf32) (List.mem_of_getElem? (i := 2) rfl)) (z3 (2, ([(1, 1)], 0)) (List.mem_of_getElem? (i := 1) rfl)) (show (1 * ff + 0) + 0 = ff from by omega)
      have p1 : _ = [] := p1
      subst p1
      exact hE0 lo' h' hi' hm k0 o0 o1 o2
    cases he
  · intro e he r' h' hp hi' hm
    cases he
def emX_L : List (Nat × sT) := [(0, .inr (.inl 0)), (1, .inl (0, 2)), (2, .inl (0, 64))]
def emX_S : List sT := []
def emX_A : sAs := ([], [], [], [])
def emX_P : List sP0 := [(21, (some 0, 0), (0, 64))]
def emX_G : List sP0 := []
def emX_B : List (Nat × Nat × Int) := [(1, 2, 0)]
def emX_m : sM := []
def emX_e0 : sXe := (39, [], [(0, .inr (.inl 0)), (1, .inl sf32)], sA0, [], ([], [], [(1, ([(0, 1)], 0))], []), [], [])
theorem emX_b : syeB swM sT0 emX_m 400 0 240 emX_L emX_S emX_A emX_P emX_G emX_B 12 [emX_e0] [] = true := by decide +kernel
theorem emX {l : Launch} {Γ : zG} {d : Nat} (hd : 0 ≤ d) {Kp : Option Value → zH → Prop} {lo : zL} {h : zH} {la rr tt : Int} (hi : sInv swM h) (b_la : 0 ≤ la ∧ la ≤ 2) (b_rr : 0 ≤ rr ∧ rr ≤ 64) (b_tt : 0 ≤ tt ∧ tt ≤ 64) (l0 : zget lo 0 = some (.ref 0)) (l1 : zI lo 1 la) (l2 : zI lo 2 rr) (p_tt : pI h 21 (la + 0).toNat = tt) (d0 : 0 ≤ rr - tt)
    (hE0 : ∀ (lo' : zL) (h' : zH), sInv swM h' → sMd emX_m h h' → zget lo' 0 = some (.ref 0) → zI lo' 1 la → zX l Γ false (d + 1) (zhd 240) (zMQ' Γ false (zhd 240) Kp) 0 0 39 lo' [] h') : zX l Γ false (d + 1) (zhd 240) (zMQ' Γ false (zhd 240) Kp) 0 0 12 lo [] h := by
  refine sye_ok (mi := 240) (pc := 12) (fun i => [la, rr, tt].getD i 0) emX_b (fun _ _ hc _ => nomatch hc) hd ⟨l0, zIm l1 (by show 0 ≤ la; omega) (by show la ≤ 2; omega), zIm l2 (by show 0 ≤ rr; omega) (by show rr ≤ 64; omega), trivial⟩ rfl ⟨(fun _ hc => nomatch hc), (fun _ hc => nomatch hc), (fun _ hc => nomatch hc), Or.inl rfl⟩ ⟨⟨p_tt, by show 0 ≤ tt; omega, by show tt ≤ 64; omega⟩, trivial⟩ trivial (sfm d0 (fun _ hc => nomatch hc)) hi ?_ ?_
  · intro e he lo' st' h' hp hi' hm
    rcases List.mem_cons.mp he with rfl | he
    · obtain ⟨p1, p2, -, hz⟩ := hp
      obtain ⟨⟨z1, z2, z3, z4⟩, z5, z6⟩ := hz
      have o0 : zget lo' 0 = some (.ref 0) := locR (p2 (0, .inr (.inl 0)) (List.mem_of_getElem? (i := 0) rfl))
      have o1 : zI lo' 1 la := zI_of (p2 (1, .inl sf32) (List.mem_of_getElem? (i := 1) rfl)) (z3 (1, ([(0, 1)], 0)) (List.mem_of_getElem? (i := 0) rfl)) (show (1 * la + 0) + 0 = la from by omega)
      have p1 : _ = [] := p1
      subst p1
      exact hE0 lo' h' hi' hm o0 o1
    cases he
  · intro e he r' h' hp hi' hm
    cases he
def emP_L : List (Nat × sT) := [(0, .inr (.inl 0)), (1, .inl (0, 2))]
def emP_S : List sT := []
def emP_A : sAs := ([], [], [], [])
def emP_P : List sP0 := [(0, (none, 56), (1, 1))]
def emP_G : List sP0 := []
def emP_B : List (Nat × Nat × Int) := []
def emP_m : sM := []
def emP_r0 : sXr := (some (.inr (.inr sf64)), sA0, [], ([], [(0, ([], 0))], [], []), [], [])
theorem emP_b : syeB swM sT0 emP_m 400 0 240 emP_L emP_S emP_A emP_P emP_G emP_B 39 [] [emP_r0] = true := by decide +kernel
theorem emP {l : Launch} {Γ : zG} {d : Nat} (hd : 0 ≤ d) {Kp : Option Value → zH → Prop} {lo : zL} {h : zH} {la : Int} (hi : sInv swM h) (b_la : 0 ≤ la ∧ la ≤ 2) (l0 : zget lo 0 = some (.ref 0)) (l1 : zI lo 1 la) (p_er : pI h 0 56 = 1)
    (hR0 : ∀ (h' : zH) (r_ : Int64), sInv swM h' → sMd emP_m h h' → r_.toInt = 0 → Kp (some (.long r_)) h') : zX l Γ false (d + 1) (zhd 240) (zMQ' Γ false (zhd 240) Kp) 0 0 39 lo [] h := by
  refine sye_ok (mi := 240) (pc := 39) (fun i => [la, 1].getD i 0) emP_b (fun _ _ hc _ => nomatch hc) hd ⟨l0, zIm l1 (by show 0 ≤ la; omega) (by show la ≤ 2; omega), trivial⟩ rfl ⟨(fun _ hc => nomatch hc), (fun _ hc => nomatch hc), (fun _ hc => nomatch hc), Or.inl rfl⟩ ⟨⟨p_er, by show 1 ≤ 1; omega, by show 1 ≤ 1; omega⟩, trivial⟩ trivial (fun _ hc => nomatch hc) hi ?_ ?_
  · intro e he lo' st' h' hp hi' hm
    cases he
  · intro e he r' h' hp hi' hm
    rcases List.mem_cons.mp he with rfl | he
    · obtain ⟨p1, -, hz⟩ := hp
      obtain ⟨⟨z1, z2, z3, z4⟩, z5, z6⟩ := hz
      obtain ⟨r_, rfl, hv⟩ := ansJ p1 (z2 (0, ([], 0)) (List.mem_of_getElem? (i := 0) rfl))
      have s0 : r_.toInt = 0 := (show r_.toInt = 0 + 0 from hv).trans (by omega)
      exact hR0 h' r_ hi' hm s0
    cases he
def emQ_L : List (Nat × sT) := [(0, .inr (.inl 0)), (1, .inl (0, 2))]
def emQ_S : List sT := []
def emQ_A : sAs := ([], [], [], [])
def emQ_P : List sP0 := [(0, (none, 56), (0, 0)), (21, (some 0, 0), (1, 64))]
def emQ_G : List sP0 := [(28, (some 2, (-1)), sf64)]
def emQ_B : List (Nat × Nat × Int) := []
def emQ_m : sM := []
def emQ_r0 : sXr := (some (.inr (.inr sf64)), sA0, [], ([], [(0, ([(3, 1)], 0))], [], []), [], [])
theorem emQ_b : syeB swM sT0 emQ_m 400 0 240 emQ_L emQ_S emQ_A emQ_P emQ_G emQ_B 39 [] [emQ_r0] = true := by decide +kernel
theorem emQ {l : Launch} {Γ : zG} {d : Nat} (hd : 0 ≤ d) {Kp : Option Value → zH → Prop} {lo : zL} {h : zH} {la tt va : Int} (hi : sInv swM h) (b_la : 0 ≤ la ∧ la ≤ 2) (b_tt : 1 ≤ tt ∧ tt ≤ 64) (b_va : (-9223372036854775808) ≤ va ∧ va ≤ 9223372036854775807) (l0 : zget lo 0 = some (.ref 0)) (l1 : zI lo 1 la) (p_er : pI h 0 56 = 0) (p_tt : pI h 21 (la + 0).toNat = tt) (p_va : pL h 28 (tt + (-1)).toNat = va)
    (hR0 : ∀ (h' : zH) (r_ : Int64), sInv swM h' → sMd emQ_m h h' → r_.toInt = va → Kp (some (.long r_)) h') : zX l Γ false (d + 1) (zhd 240) (zMQ' Γ false (zhd 240) Kp) 0 0 39 lo [] h := by
  refine sye_ok (mi := 240) (pc := 39) (fun i => [la, 0, tt, va].getD i 0) emQ_b (fun _ _ hc _ => nomatch hc) hd ⟨l0, zIm l1 (by show 0 ≤ la; omega) (by show la ≤ 2; omega), trivial⟩ rfl ⟨(fun _ hc => nomatch hc), (fun _ hc => nomatch hc), (fun _ hc => nomatch hc), Or.inl rfl⟩ ⟨⟨p_er, by show 0 ≤ 0; omega, by show 0 ≤ 0; omega⟩, ⟨p_tt, by show 1 ≤ tt; omega, by show tt ≤ 64; omega⟩, trivial⟩ ⟨⟨p_va, by show (-9223372036854775808) ≤ va; omega, by show va ≤ 9223372036854775807; omega⟩, trivial⟩ (fun _ hc => nomatch hc) hi ?_ ?_
  · intro e he lo' st' h' hp hi' hm
    cases he
  · intro e he r' h' hp hi' hm
    rcases List.mem_cons.mp he with rfl | he
    · obtain ⟨p1, -, hz⟩ := hp
      obtain ⟨⟨z1, z2, z3, z4⟩, z5, z6⟩ := hz
      obtain ⟨r_, rfl, hv⟩ := ansJ p1 (z2 (0, ([(3, 1)], 0)) (List.mem_of_getElem? (i := 0) rfl))
      have s0 : r_.toInt = va := (show r_.toInt = (1 * va + 0) + 0 from hv).trans (by omega)
      exact hR0 h' r_ hi' hm s0
    cases he
