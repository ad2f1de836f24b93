def ev0_L (t : Nat) : List sT := [.inr (.inl (17 * t + 20)), .inl (0, 2)]
def ev0_A (t : Nat) : sAs := ([], [], [], [])
def ev0_P (t : Nat) : List sP0 := [((17 * t + 22), (some 0, 0), (0, 64))]
def ev0_G (t : Nat) : List sP0 := []
def ev0_B (t : Nat) : List (Nat × Nat × Int) := []
def ev0_m (t : Nat) : sM := []
def ev0_e0 (t : Nat) : sXe := (21, [], [(0, .inr (.inl (17 * t + 20))), (1, .inl sf32), (2, .inl sf32), (3, .inl sf32)], sA0, [], ([], [], [(1, ([(0, 1)], 0)), (2, ([], 0)), (3, ([(1, 1)], 0))], []), [], [])
theorem ev0_b : ((List.range 2).all fun t => syfB swC sT0 (ev0_m t) 400 1 89 (ev0_L t) (ev0_A t) (ev0_P t) (ev0_G t) (ev0_B t) [ev0_e0 t] []) = true := by decide +kernel
theorem ev0 {l : Launch} {Γ : zG} {d : Nat} (hd : 1 ≤ d) {Kp : Option Value → zH → Prop} {h : zH} {t : Nat} (h_t : t < 2) {la ff : Int} (hi : sInv swC h) (b_la : 0 ≤ la ∧ la ≤ 2) (b_ff : 0 ≤ ff ∧ ff ≤ 64) {x_la : Int32} (e_la : x_la.toInt = la) (p_ff : pI h (17 * t + 22) (la + 0).toNat = ff)
    (hE0 : ∀ (lo' : zL) (h' : zH), sInv swC h' → sMd (ev0_m t) h h' → zget lo' 0 = some (.ref (17 * t + 20)) → zI lo' 1 la → zI lo' 2 0 → zI lo' 3 ff → zX l Γ false (d + 1) (zhd 89) (zMQ' Γ false (zhd 89) Kp) 0 0 21 lo' [] h') : zSem l Γ false (d + 1) (zhd 89) [.ref (17 * t + 20), .int x_la] h Kp := by
  refine syf_ok (mi := 89) (fun i => [la, ff].getD i 0) (zall_r ev0_b h_t) (fun _ _ hc _ => nomatch hc) hd ⟨_, _, rfl, rfl, ⟨_, _, rfl, ⟨x_la, rfl, by show 0 ≤ x_la.toInt; omega, by show x_la.toInt ≤ 2; omega⟩, rfl⟩⟩ ⟨rfl, ⟨x_la, rfl, e_la, by show 0 ≤ la; omega, by show la ≤ 2; omega⟩, trivial⟩ ⟨(fun _ hc => nomatch hc), (fun _ hc => nomatch hc), (fun _ hc => nomatch hc), Or.inl rfl⟩ ⟨⟨p_ff, by show 0 ≤ ff; omega, by show ff ≤ 64; omega⟩, trivial⟩ trivial (fun _ hc => nomatch hc) hi ?_ ?_
  · intro e he lo' st' h' hp hi' hm
    rcases List.mem_cons.mp he with rfl | he
    · obtain ⟨p1, p2, -, hz⟩ := hp
      obtain ⟨⟨z1, z2, z3, z4⟩, z5, z6⟩ := hz
      have o0 : zget lo' 0 = some (.ref (17 * t + 20)) := locR (p2 (0, .inr (.inl (17 * t + 20))) (List.mem_of_getElem? (i := 0) rfl))
      have o1 : zI lo' 1 la := zI_of (p2 (1, .inl sf32) (List.mem_of_getElem? (i := 1) rfl)) (z3 (1, ([(0, 1)], 0)) (List.mem_of_getElem? (i := 0) rfl)) (show (1 * la + 0) + 0 = la from by omega)
      have o2 : zI lo' 2 0 := zI_of (p2 (2, .inl sf32) (List.mem_of_getElem? (i := 2) rfl)) (z3 (2, ([], 0)) (List.mem_of_getElem? (i := 1) rfl)) (show 0 + 0 = 0 from by omega)
      have o3 : zI lo' 3 ff := zI_of (p2 (3, .inl sf32) (List.mem_of_getElem? (i := 3) rfl)) (z3 (3, ([(1, 1)], 0)) (List.mem_of_getElem? (i := 2) rfl)) (show (1 * ff + 0) + 0 = ff from by omega)
      have p1 : _ = [] := p1
      subst p1
      exact hE0 lo' h' hi' hm o0 o1 o2 o3
    cases he
  · intro e he r' h' hp hi' hm
    cases he
def evM_L (t : Nat) : List sT := [.inr (.inl (17 * t + 20)), .inl (0, 2)]
def evM_A (t : Nat) : sAs := ([], [], [], [])
def evM_P (t : Nat) : List sP0 := [((17 * t + 22), (some 0, 0), ((-1), (-1)))]
def evM_G (t : Nat) : List sP0 := []
def evM_B (t : Nat) : List (Nat × Nat × Int) := []
def evM_m (t : Nat) : sM := []
def evM_r0 (t : Nat) : sXr := (some (.inr (.inr sf64)), sA0, [], ([], [(0, ([], (-9223372036854775808)))], [], []), [], [])
theorem evM_b : ((List.range 2).all fun t => syfB swC sT0 (evM_m t) 400 1 89 (evM_L t) (evM_A t) (evM_P t) (evM_G t) (evM_B t) [] [evM_r0 t]) = true := by decide +kernel
theorem evM {l : Launch} {Γ : zG} {d : Nat} (hd : 1 ≤ d) {Kp : Option Value → zH → Prop} {h : zH} {t : Nat} (h_t : t < 2) {la : Int} (hi : sInv swC h) (b_la : 0 ≤ la ∧ la ≤ 2) {x_la : Int32} (e_la : x_la.toInt = la) (p_ff : pI h (17 * t + 22) (la + 0).toNat = (-1))
    (hR0 : ∀ (h' : zH) (r_ : Int64), sInv swC h' → sMd (evM_m t) h h' → r_.toInt = (-9223372036854775808) → Kp (some (.long r_)) h') : zSem l Γ false (d + 1) (zhd 89) [.ref (17 * t + 20), .int x_la] h Kp := by
  refine syf_ok (mi := 89) (fun i => [la, (-1)].getD i 0) (zall_r evM_b h_t) (fun _ _ hc _ => nomatch hc) hd ⟨_, _, rfl, rfl, ⟨_, _, rfl, ⟨x_la, rfl, by show 0 ≤ x_la.toInt; omega, by show x_la.toInt ≤ 2; omega⟩, rfl⟩⟩ ⟨rfl, ⟨x_la, rfl, e_la, by show 0 ≤ la; omega, by show la ≤ 2; omega⟩, trivial⟩ ⟨(fun _ hc => nomatch hc), (fun _ hc => nomatch hc), (fun _ hc => nomatch hc), Or.inl rfl⟩ ⟨⟨p_ff, by show (-1) ≤ (-1); omega, by show (-1) ≤ (-1); omega⟩, trivial⟩ trivial (fun _ hc => nomatch hc) hi ?_ ?_
  · intro e he lo' st' h' hp hi' hm
    cases he
  · intro e he r' h' hp hi' hm
    rcases List.mem_cons.mp he with rfl | he
    · obtain ⟨p1, -, hz⟩ := hp
      obtain ⟨⟨z1, z2, z3, z4⟩, z5, z6⟩ := hz
      obtain ⟨r_, rfl, hv⟩ := ansJ p1 (z2 (0, ([], (-9223372036854775808))) (List.mem_of_getElem? (i := 0) rfl))
      have s0 : r_.toInt = (-9223372036854775808) := (show r_.toInt = 0 + (-9223372036854775808) from hv).trans (by omega)
      exact hR0 h' r_ hi' hm s0
    cases he
def evX_L (t : Nat) : List (Nat × sT) := [(0, .inr (.inl (17 * t + 20))), (1, .inl (0, 2)), (2, .inl (1, 1)), (3, .inl (0, 64))]
def evX_S (t : Nat) : List sT := []
def evX_A (t : Nat) : sAs := ([], [], [], [])
def evX_P (t : Nat) : List sP0 := [((17 * t + 23), (some 0, 0), (0, 64))]
def evX_G (t : Nat) : List sP0 := [((17 * t + 25), (none, 0), sf64)]
def evX_B (t : Nat) : List (Nat × Nat × Int) := [(2, 3, 0)]
def evX_m (t : Nat) : sM := []
def evX_r0 (t : Nat) : sXr := (some (.inr (.inr sf64)), sA0, [], ([], [(0, ([(4, 1)], 0))], [], []), [], [])
theorem evX_b : ((List.range 2).all fun t => syeB swC sT0 (evX_m t) 400 0 89 (evX_L t) (evX_S t) (evX_A t) (evX_P t) (evX_G t) (evX_B t) 21 [] [evX_r0 t]) = true := by decide +kernel
theorem evX {l : Launch} {Γ : zG} {d : Nat} (hd : 0 ≤ d) {Kp : Option Value → zH → Prop} {lo : zL} {h : zH} {t : Nat} (h_t : t < 2) {la kk tt va : Int} (hi : sInv swC h) (b_la : 0 ≤ la ∧ la ≤ 2) (b_kk : 0 ≤ kk ∧ kk ≤ 64) (b_tt : 0 ≤ tt ∧ tt ≤ 64) (b_va : (-9223372036854775808) ≤ va ∧ va ≤ 9223372036854775807) (l0 : zget lo 0 = some (.ref (17 * t + 20))) (l1 : zI lo 1 la) (l2 : zI lo 2 1) (l3 : zI lo 3 kk) (p_tt : pI h (17 * t + 23) (la + 0).toNat = tt) (p_va : pL h (17 * t + 25) 0 = va) (d0 : 0 ≤ kk - tt)
    (hR0 : ∀ (h' : zH) (r_ : Int64), sInv swC h' → sMd (evX_m t) h h' → r_.toInt = va → Kp (some (.long r_)) h') : zX l Γ false (d + 1) (zhd 89) (zMQ' Γ false (zhd 89) Kp) 0 0 21 lo [] h := by
  refine sye_ok (mi := 89) (pc := 21) (fun i => [la, 1, kk, tt, va].getD i 0) (zall_r evX_b h_t) (fun _ _ hc _ => nomatch hc) hd ⟨l0, zIm l1 (by show 0 ≤ la; omega) (by show la ≤ 2; omega), zIm l2 (by show 1 ≤ 1; omega) (by show 1 ≤ 1; omega), zIm l3 (by show 0 ≤ kk; omega) (by show kk ≤ 64; omega), trivial⟩ rfl ⟨(fun _ hc => nomatch hc), (fun _ hc => nomatch hc), (fun _ hc => nomatch hc), Or.inl rfl⟩ ⟨⟨p_tt, by show 0 ≤ tt; omega, by show tt ≤ 64; omega⟩, trivial⟩ ⟨⟨p_va, by show (-9223372036854775808) ≤ va; omega, by show va ≤ 9223372036854775807; omega⟩, trivial⟩ (sfm d0 (fun _ hc => nomatch hc)) hi ?_ ?_
  · intro e he lo' st' h' hp hi' hm
    cases he
  · intro e he r' h' hp hi' hm
    rcases List.mem_cons.mp he with rfl | he
    · obtain ⟨p1, -, hz⟩ := hp
      obtain ⟨⟨z1, z2, z3, z4⟩, z5, z6⟩ := hz
      obtain ⟨r_, rfl, hv⟩ := ansJ p1 (z2 (0, ([(4, 1)], 0)) (List.mem_of_getElem? (i := 0) rfl))
      have s0 : r_.toInt = va := (show r_.toInt = (1 * va + 0) + 0 from hv).trans (by omega)
      exact hR0 h' r_ hi' hm s0
    cases he
