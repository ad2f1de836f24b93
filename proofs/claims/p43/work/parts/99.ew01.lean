def emN_L : List sT := [.inr (.inl 0), .inl (0, 63)]
def emN_A : sAs := ([], [], [], [])
def emN_P : List sP0 := [(22, (some 0, 0), (0, 0)), (0, (none, 56), (0, 0)), (23, (some 0, 0), (0, 9999))]
def emN_G : List sP0 := []
def emN_B : List (Nat × Nat × Int) := []
def emN_m : sM := []
def emN_r0 : sXr := (some (.inr (.inr sf64)), sA0, [], ([], [(0, ([(3, 1)], 0))], [], []), [], [])
theorem emN_b : syfB swM sT0 emN_m 400 0 241 emN_L emN_A emN_P emN_G emN_B [] [emN_r0] = true := by decide +kernel
theorem emN {l : Launch} {Γ : zG} {d : Nat} (hd : 0 ≤ d) {Kp : Option Value → zH → Prop} {h : zH} {rr pv : Int} (hi : sInv swM h) (b_rr : 0 ≤ rr ∧ rr ≤ 63) (b_pv : 0 ≤ pv ∧ pv ≤ 9999) {x_rr : Int32} (e_rr : x_rr.toInt = rr) (p_kn : pI h 22 (rr + 0).toNat = 0) (p_er : pI h 0 56 = 0) (p_pv : pI h 23 (rr + 0).toNat = pv)
    (hR0 : ∀ (h' : zH) (r_ : Int64), sInv swM h' → sMd emN_m h h' → r_.toInt = pv → Kp (some (.long r_)) h') : zSem l Γ false (d + 1) (zhd 241) [.ref 0, .int x_rr] h Kp := by
  refine syf_ok (mi := 241) (fun i => [rr, 0, 0, pv].getD i 0) emN_b (fun _ _ hc _ => nomatch hc) hd ⟨_, _, rfl, rfl, ⟨_, _, rfl, ⟨x_rr, rfl, by show 0 ≤ x_rr.toInt; omega, by show x_rr.toInt ≤ 63; omega⟩, rfl⟩⟩ ⟨rfl, ⟨x_rr, rfl, e_rr, by show 0 ≤ rr; omega, by show rr ≤ 63; omega⟩, trivial⟩ ⟨(fun _ hc => nomatch hc), (fun _ hc => nomatch hc), (fun _ hc => nomatch hc), Or.inl rfl⟩ ⟨⟨p_kn, by show 0 ≤ 0; omega, by show 0 ≤ 0; omega⟩, ⟨p_er, by show 0 ≤ 0; omega, by show 0 ≤ 0; omega⟩, ⟨p_pv, by show 0 ≤ pv; omega, by show pv ≤ 9999; omega⟩, trivial⟩ trivial (fun _ hc => nomatch hc) hi ?_ ?_
  · intro e he lo' st' h' hp hi' hm
    cases he
  · intro e he r' h' hp hi' hm
    rcases List.mem_cons.mp he with rfl | he
    · obtain ⟨p1, -, hz⟩ := hp
      obtain ⟨⟨z1, z2, z3, z4⟩, z5, z6⟩ := hz
      obtain ⟨r_, rfl, hv⟩ := ansJ p1 (z2 (0, ([(3, 1)], 0)) (List.mem_of_getElem? (i := 0) rfl))
      have s0 : r_.toInt = pv := (show r_.toInt = (1 * pv + 0) + 0 from hv).trans (by omega)
      exact hR0 h' r_ hi' hm s0
    cases he
def emV_L : List sT := [.inr (.inl 0), .inl (0, 63)]
def emV_A : sAs := ([], [], [], [])
def emV_P : List sP0 := [(22, (some 0, 0), (1, 1)), (0, (none, 56), (0, 0)), (23, (some 0, 0), (0, 6))]
def emV_G : List sP0 := [(27, (some 3, 0), ((-1000000000000), 1000000000000))]
def emV_B : List (Nat × Nat × Int) := []
def emV_m : sM := []
def emV_r0 : sXr := (some (.inr (.inr sf64)), sA0, [], ([], [(0, ([(4, 1)], 0))], [], []), [], [])
theorem emV_b : syfB swM sT0 emV_m 400 0 241 emV_L emV_A emV_P emV_G emV_B [] [emV_r0] = true := by decide +kernel
theorem emV {l : Launch} {Γ : zG} {d : Nat} (hd : 0 ≤ d) {Kp : Option Value → zH → Prop} {h : zH} {rr pv nm : Int} (hi : sInv swM h) (b_rr : 0 ≤ rr ∧ rr ≤ 63) (b_pv : 0 ≤ pv ∧ pv ≤ 6) (b_nm : (-1000000000000) ≤ nm ∧ nm ≤ 1000000000000) {x_rr : Int32} (e_rr : x_rr.toInt = rr) (p_kn : pI h 22 (rr + 0).toNat = 1) (p_er : pI h 0 56 = 0) (p_pv : pI h 23 (rr + 0).toNat = pv) (p_nm : pL h 27 (pv + 0).toNat = nm)
    (hR0 : ∀ (h' : zH) (r_ : Int64), sInv swM h' → sMd emV_m h h' → r_.toInt = nm → Kp (some (.long r_)) h') : zSem l Γ false (d + 1) (zhd 241) [.ref 0, .int x_rr] h Kp := by
  refine syf_ok (mi := 241) (fun i => [rr, 1, 0, pv, nm].getD i 0) emV_b (fun _ _ hc _ => nomatch hc) hd ⟨_, _, rfl, rfl, ⟨_, _, rfl, ⟨x_rr, rfl, by show 0 ≤ x_rr.toInt; omega, by show x_rr.toInt ≤ 63; omega⟩, rfl⟩⟩ ⟨rfl, ⟨x_rr, rfl, e_rr, by show 0 ≤ rr; omega, by show rr ≤ 63; omega⟩, trivial⟩ ⟨(fun _ hc => nomatch hc), (fun _ hc => nomatch hc), (fun _ hc => nomatch hc), Or.inl rfl⟩ ⟨⟨p_kn, by show 1 ≤ 1; omega, by show 1 ≤ 1; omega⟩, ⟨p_er, by show 0 ≤ 0; omega, by show 0 ≤ 0; omega⟩, ⟨p_pv, by show 0 ≤ pv; omega, by show pv ≤ 6; omega⟩, trivial⟩ ⟨⟨p_nm, by show (-1000000000000) ≤ nm; omega, by show nm ≤ 1000000000000; omega⟩, trivial⟩ (fun _ hc => nomatch hc) hi ?_ ?_
  · intro e he lo' st' h' hp hi' hm
    cases he
  · intro e he r' h' hp hi' hm
    rcases List.mem_cons.mp he with rfl | he
    · obtain ⟨p1, -, hz⟩ := hp
      obtain ⟨⟨z1, z2, z3, z4⟩, z5, z6⟩ := hz
      obtain ⟨r_, rfl, hv⟩ := ansJ p1 (z2 (0, ([(4, 1)], 0)) (List.mem_of_getElem? (i := 0) rfl))
      have s0 : r_.toInt = nm := (show r_.toInt = (1 * nm + 0) + 0 from hv).trans (by omega)
      exact hR0 h' r_ hi' hm s0
    cases he
def emT_L : List sT := [.inr (.inl 0), .inl (0, 63)]
def emT_A : sAs := ([], [], [], [])
def emT_P : List sP0 := [(22, (some 0, 0), (2, 2)), (0, (none, 56), (0, 0)), (23, (some 0, 0), (0, 63))]
def emT_G : List sP0 := [(28, (some 3, 0), ((-1000000000000), 1000000000000))]
def emT_B : List (Nat × Nat × Int) := []
def emT_m : sM := []
def emT_r0 : sXr := (some (.inr (.inr sf64)), sA0, [], ([], [(0, ([], 1))], [], [([(4, 1)], 0), ([(4, (-1))], 0)]), [], [])
def emT_r1 : sXr := (some (.inr (.inr sf64)), sA0, [], ([], [(0, ([], 0))], [], [([(4, (-1))], (-1))]), [], [])
def emT_r2 : sXr := (some (.inr (.inr sf64)), sA0, [], ([], [(0, ([], 0))], [], [([(4, 1)], (-1))]), [], [])
theorem emT_b : syfB swM sT0 emT_m 400 0 241 emT_L emT_A emT_P emT_G emT_B [] [emT_r0, emT_r1, emT_r2] = true := by decide +kernel
theorem emT {l : Launch} {Γ : zG} {d : Nat} (hd : 0 ≤ d) {Kp : Option Value → zH → Prop} {h : zH} {rr pa va : Int} (hi : sInv swM h) (b_rr : 0 ≤ rr ∧ rr ≤ 63) (b_pa : 0 ≤ pa ∧ pa ≤ 63) (b_va : (-1000000000000) ≤ va ∧ va ≤ 1000000000000) {x_rr : Int32} (e_rr : x_rr.toInt = rr) (p_kn : pI h 22 (rr + 0).toNat = 2) (p_er : pI h 0 56 = 0) (p_pa : pI h 23 (rr + 0).toNat = pa) (p_va : pL h 28 (pa + 0).toNat = va)
    (hR0 : ∀ (h' : zH) (r_ : Int64), sInv swM h' → sMd emT_m h h' → va = 0 → r_.toInt = 1 → Kp (some (.long r_)) h')
    (hR1 : ∀ (h' : zH) (r_ : Int64), sInv swM h' → sMd emT_m h h' → 0 ≤ -va - 1 → r_.toInt = 0 → Kp (some (.long r_)) h')
    (hR2 : ∀ (h' : zH) (r_ : Int64), sInv swM h' → sMd emT_m h h' → 0 ≤ va - 1 → r_.toInt = 0 → Kp (some (.long r_)) h') : zSem l Γ false (d + 1) (zhd 241) [.ref 0, .int x_rr] h Kp := by
  refine syf_ok (mi := 241) (fun i => [rr, 2, 0, pa, va].getD i 0) emT_b (fun _ _ hc _ => nomatch hc) hd ⟨_, _, rfl, rfl, ⟨_, _, rfl, ⟨x_rr, rfl, by show 0 ≤ x_rr.toInt; omega, by show x_rr.toInt ≤ 63; omega⟩, rfl⟩⟩ ⟨rfl, ⟨x_rr, rfl, e_rr, by show 0 ≤ rr; omega, by show rr ≤ 63; omega⟩, trivial⟩ ⟨(fun _ hc => nomatch hc), (fun _ hc => nomatch hc), (fun _ hc => nomatch hc), Or.inl rfl⟩ ⟨⟨p_kn, by show 2 ≤ 2; omega, by show 2 ≤ 2; omega⟩, ⟨p_er, by show 0 ≤ 0; omega, by show 0 ≤ 0; omega⟩, ⟨p_pa, by show 0 ≤ pa; omega, by show pa ≤ 63; omega⟩, trivial⟩ ⟨⟨p_va, by show (-1000000000000) ≤ va; omega, by show va ≤ 1000000000000; omega⟩, trivial⟩ (fun _ hc => nomatch hc) hi ?_ ?_
  · intro e he lo' st' h' hp hi' hm
    cases he
  · intro e he r' h' hp hi' hm
    rcases List.mem_cons.mp he with rfl | he
    · obtain ⟨p1, -, hz⟩ := hp
      obtain ⟨⟨z1, z2, z3, z4⟩, z5, z6⟩ := hz
      have c0 : va = 0 := by have q_ : (0 : Int) ≤ (1 * va + 0) + 0 := z4 ([(4, 1)], 0) (List.mem_of_getElem? (i := 0) rfl); have q2_ : (0 : Int) ≤ ((-1) * va + 0) + 0 := z4 ([(4, (-1))], 0) (List.mem_of_getElem? (i := 1) rfl); omega
      obtain ⟨r_, rfl, hv⟩ := ansJ p1 (z2 (0, ([], 1)) (List.mem_of_getElem? (i := 0) rfl))
      have s0 : r_.toInt = 1 := (show r_.toInt = 0 + 1 from hv).trans (by omega)
      exact hR0 h' r_ hi' hm c0 s0
    rcases List.mem_cons.mp he with rfl | he
    · obtain ⟨p1, -, hz⟩ := hp
      obtain ⟨⟨z1, z2, z3, z4⟩, z5, z6⟩ := hz
      have c0 : 0 ≤ -va - 1 := by have q_ : (0 : Int) ≤ ((-1) * va + 0) + (-1) := z4 ([(4, (-1))], (-1)) (List.mem_of_getElem? (i := 0) rfl); omega
      obtain ⟨r_, rfl, hv⟩ := ansJ p1 (z2 (0, ([], 0)) (List.mem_of_getElem? (i := 0) rfl))
      have s0 : r_.toInt = 0 := (show r_.toInt = 0 + 0 from hv).trans (by omega)
      exact hR1 h' r_ hi' hm c0 s0
    rcases List.mem_cons.mp he with rfl | he
    · obtain ⟨p1, -, hz⟩ := hp
      obtain ⟨⟨z1, z2, z3, z4⟩, z5, z6⟩ := hz
      have c0 : 0 ≤ va - 1 := by have q_ : (0 : Int) ≤ (1 * va + 0) + (-1) := z4 ([(4, 1)], (-1)) (List.mem_of_getElem? (i := 0) rfl); omega
      obtain ⟨r_, rfl, hv⟩ := ansJ p1 (z2 (0, ([], 0)) (List.mem_of_getElem? (i := 0) rfl))
      have s0 : r_.toInt = 0 := (show r_.toInt = 0 + 0 from hv).trans (by omega)
      exact hR2 h' r_ hi' hm c0 s0
    cases he
def emAn_L : List sT := [.inr (.inl 0), .inl (0, 63)]
def emAn_A : sAs := ([], [], [], [])
def emAn_P : List sP0 := [(22, (some 0, 0), (3, 3)), (0, (none, 56), (0, 0)), (23, (some 0, 0), (0, 63)), (24, (some 0, 0), (0, 63))]
def emAn_G : List sP0 := [(28, (some 3, 0), ((-1000000000000), 1000000000000)), (28, (some 4, 0), ((-1000000000000), 1000000000000))]
def emAn_B : List (Nat × Nat × Int) := []
def emAn_m : sM := []
def emAn_r0 : sXr := (some (.inr (.inr sf64)), sA0, [], ([], [(0, ([], 0))], [], [([(5, 1)], 0), ([(5, (-1))], 0)]), [], [])
def emAn_r1 : sXr := (some (.inr (.inr sf64)), sA0, [], ([], [(0, ([], 0))], [], [([(5, (-1))], (-1)), ([(6, 1)], 0), ([(6, (-1))], 0)]), [], [])
def emAn_r2 : sXr := (some (.inr (.inr sf64)), sA0, [], ([], [(0, ([], 1))], [], [([(5, (-1))], (-1)), ([(6, (-1))], (-1))]), [], [])
def emAn_r3 : sXr := (some (.inr (.inr sf64)), sA0, [], ([], [(0, ([], 1))], [], [([(5, (-1))], (-1)), ([(6, 1)], (-1))]), [], [])
def emAn_r4 : sXr := (some (.inr (.inr sf64)), sA0, [], ([], [(0, ([], 0))], [], [([(5, 1)], (-1)), ([(6, 1)], 0), ([(6, (-1))], 0)]), [], [])
def emAn_r5 : sXr := (some (.inr (.inr sf64)), sA0, [], ([], [(0, ([], 1))], [], [([(5, 1)], (-1)), ([(6, (-1))], (-1))]), [], [])
def emAn_r6 : sXr := (some (.inr (.inr sf64)), sA0, [], ([], [(0, ([], 1))], [], [([(5, 1)], (-1)), ([(6, 1)], (-1))]), [], [])
theorem emAn_b : syfB swM sT0 emAn_m 400 0 241 emAn_L emAn_A emAn_P emAn_G emAn_B [] [emAn_r0, emAn_r1, emAn_r2, emAn_r3, emAn_r4, emAn_r5, emAn_r6] = true := by decide +kernel
theorem emAn {l : Launch} {Γ : zG} {d : Nat} (hd : 0 ≤ d) {Kp : Option Value → zH → Prop} {h : zH} {rr pa po va vb : Int} (hi : sInv swM h) (b_rr : 0 ≤ rr ∧ rr ≤ 63) (b_pa : 0 ≤ pa ∧ pa ≤ 63) (b_po : 0 ≤ po ∧ po ≤ 63) (b_va : (-1000000000000) ≤ va ∧ va ≤ 1000000000000) (b_vb : (-1000000000000) ≤ vb ∧ vb ≤ 1000000000000) {x_rr : Int32} (e_rr : x_rr.toInt = rr) (p_kn : pI h 22 (rr + 0).toNat = 3) (p_er : pI h 0 56 = 0) (p_pa : pI h 23 (rr + 0).toNat = pa) (p_po : pI h 24 (rr + 0).toNat = po) (p_va : pL h 28 (pa + 0).toNat = va) (p_vb : pL h 28 (po + 0).toNat = vb)
    (hR0 : ∀ (h' : zH) (r_ : Int64), sInv swM h' → sMd emAn_m h h' → va = 0 → r_.toInt = 0 → Kp (some (.long r_)) h')
    (hR1 : ∀ (h' : zH) (r_ : Int64), sInv swM h' → sMd emAn_m h h' → 0 ≤ -va - 1 → vb = 0 → r_.toInt = 0 → Kp (some (.long r_)) h')
    (hR2 : ∀ (h' : zH) (r_ : Int64), sInv swM h' → sMd emAn_m h h' → 0 ≤ -va - 1 → 0 ≤ -vb - 1 → r_.toInt = 1 → Kp (some (.long r_)) h')
    (hR3 : ∀ (h' : zH) (r_ : Int64), sInv swM h' → sMd emAn_m h h' → 0 ≤ -va - 1 → 0 ≤ vb - 1 → r_.toInt = 1 → Kp (some (.long r_)) h')
    (hR4 : ∀ (h' : zH) (r_ : Int64), sInv swM h' → sMd emAn_m h h' → 0 ≤ va - 1 → vb = 0 → r_.toInt = 0 → Kp (some (.long r_)) h')
    (hR5 : ∀ (h' : zH) (r_ : Int64), sInv swM h' → sMd emAn_m h h' → 0 ≤ va - 1 → 0 ≤ -vb - 1 → r_.toInt = 1 → Kp (some (.long r_)) h')
    (hR6 : ∀ (h' : zH) (r_ : Int64), sInv swM h' → sMd emAn_m h h' → 0 ≤ va - 1 → 0 ≤ vb - 1 → r_.toInt = 1 → Kp (some (.long r_)) h') : zSem l Γ false (d + 1) (zhd 241) [.ref 0, .int x_rr] h Kp := by
  refine syf_ok (mi := 241) (fun i => [rr, 3, 0, pa, po, va, vb].getD i 0) emAn_b (fun _ _ hc _ => nomatch hc) hd ⟨_, _, rfl, rfl, ⟨_, _, rfl, ⟨x_rr, rfl, by show 0 ≤ x_rr.toInt; omega, by show x_rr.toInt ≤ 63; omega⟩, rfl⟩⟩ ⟨rfl, ⟨x_rr, rfl, e_rr, by show 0 ≤ rr; omega, by show rr ≤ 63; omega⟩, trivial⟩ ⟨(fun _ hc => nomatch hc), (fun _ hc => nomatch hc), (fun _ hc => nomatch hc), Or.inl rfl⟩ ⟨⟨p_kn, by show 3 ≤ 3; omega, by show 3 ≤ 3; omega⟩, ⟨p_er, by show 0 ≤ 0; omega, by show 0 ≤ 0; omega⟩, ⟨p_pa, by show 0 ≤ pa; omega, by show pa ≤ 63; omega⟩, ⟨p_po, by show 0 ≤ po; omega, by show po ≤ 63; omega⟩, trivial⟩ ⟨⟨p_va, by show (-1000000000000) ≤ va; omega, by show va ≤ 1000000000000; omega⟩, ⟨p_vb, by show (-1000000000000) ≤ vb; omega, by show vb ≤ 1000000000000; omega⟩, trivial⟩ (fun _ hc => nomatch hc) hi ?_ ?_
  · intro e he lo' st' h' hp hi' hm
    cases he
  · intro e he r' h' hp hi' hm
    rcases List.mem_cons.mp he with rfl | he
    · obtain ⟨p1, -, hz⟩ := hp
      obtain ⟨⟨z1, z2, z3, z4⟩, z5, z6⟩ := hz
      have c0 : va = 0 := by have q_ : (0 : Int) ≤ (1 * va + 0) + 0 := z4 ([(5, 1)], 0) (List.mem_of_getElem? (i := 0) rfl); have q2_ : (0 : Int) ≤ ((-1) * va + 0) + 0 := z4 ([(5, (-1))], 0) (List.mem_of_getElem? (i := 1) rfl); omega
      obtain ⟨r_, rfl, hv⟩ := ansJ p1 (z2 (0, ([], 0)) (List.mem_of_getElem? (i := 0) rfl))
      have s0 : r_.toInt = 0 := (show r_.toInt = 0 + 0 from hv).trans (by omega)
      exact hR0 h' r_ hi' hm c0 s0
    rcases List.mem_cons.mp he with rfl | he
    · obtain ⟨p1, -, hz⟩ := hp
      obtain ⟨⟨z1, z2, z3, z4⟩, z5, z6⟩ := hz
      have c0 : 0 ≤ -va - 1 := by have q_ : (0 : Int) ≤ ((-1) * va + 0) + (-1) := z4 ([(5, (-1))], (-1)) (List.mem_of_getElem? (i := 0) rfl); omega
      have c1 : vb = 0 := by have q_ : (0 : Int) ≤ (1 * vb + 0) + 0 := z4 ([(6, 1)], 0) (List.mem_of_getElem? (i := 1) rfl); have q2_ : (0 : Int) ≤ ((-1) * vb + 0) + 0 := z4 ([(6, (-1))], 0) (List.mem_of_getElem? (i := 2) rfl); omega
      obtain ⟨r_, rfl, hv⟩ := ansJ p1 (z2 (0, ([], 0)) (List.mem_of_getElem? (i := 0) rfl))
      have s0 : r_.toInt = 0 := (show r_.toInt = 0 + 0 from hv).trans (by omega)
      exact hR1 h' r_ hi' hm c0 c1 s0
    rcases List.mem_cons.mp he with rfl | he
    · obtain ⟨p1, -, hz⟩ := hp
      obtain ⟨⟨z1, z2, z3, z4⟩, z5, z6⟩ := hz
      have c0 : 0 ≤ -va - 1 := by have q_ : (0 : Int) ≤ ((-1) * va + 0) + (-1) := z4 ([(5, (-1))], (-1)) (List.mem_of_getElem? (i := 0) rfl); omega
      have c1 : 0 ≤ -vb - 1 := by have q_ : (0 : Int) ≤ ((-1) * vb + 0) + (-1) := z4 ([(6, (-1))], (-1)) (List.mem_of_getElem? (i := 1) rfl); omega
      obtain ⟨r_, rfl, hv⟩ := ansJ p1 (z2 (0, ([], 1)) (List.mem_of_getElem? (i := 0) rfl))
      have s0 : r_.toInt = 1 := (show r_.toInt = 0 + 1 from hv).trans (by omega)
      exact hR2 h' r_ hi' hm c0 c1 s0
    rcases List.mem_cons.mp he with rfl | he
    · obtain ⟨p1, -, hz⟩ := hp
      obtain ⟨⟨z1, z2, z3, z4⟩, z5, z6⟩ := hz
      have c0 : 0 ≤ -va - 1 := by have q_ : (0 : Int) ≤ ((-1) * va + 0) + (-1) := z4 ([(5, (-1))], (-1)) (List.mem_of_getElem? (i := 0) rfl); omega
      have c1 : 0 ≤ vb - 1 := by have q_ : (0 : Int) ≤ (1 * vb + 0) + (-1) := z4 ([(6, 1)], (-1)) (List.mem_of_getElem? (i := 1) rfl); omega
      obtain ⟨r_, rfl, hv⟩ := ansJ p1 (z2 (0, ([], 1)) (List.mem_of_getElem? (i := 0) rfl))
      have s0 : r_.toInt = 1 := (show r_.toInt = 0 + 1 from hv).trans (by omega)
      exact hR3 h' r_ hi' hm c0 c1 s0
    rcases List.mem_cons.mp he with rfl | he
    · obtain ⟨p1, -, hz⟩ := hp
      obtain ⟨⟨z1, z2, z3, z4⟩, z5, z6⟩ := hz
      have c0 : 0 ≤ va - 1 := by have q_ : (0 : Int) ≤ (1 * va + 0) + (-1) := z4 ([(5, 1)], (-1)) (List.mem_of_getElem? (i := 0) rfl); omega
      have c1 : vb = 0 := by have q_ : (0 : Int) ≤ (1 * vb + 0) + 0 := z4 ([(6, 1)], 0) (List.mem_of_getElem? (i := 1) rfl); have q2_ : (0 : Int) ≤ ((-1) * vb + 0) + 0 := z4 ([(6, (-1))], 0) (List.mem_of_getElem? (i := 2) rfl); omega
      obtain ⟨r_, rfl, hv⟩ := ansJ p1 (z2 (0, ([], 0)) (List.mem_of_getElem? (i := 0) rfl))
      have s0 : r_.toInt = 0 := (show r_.toInt = 0 + 0 from hv).trans (by omega)
      exact hR4 h' r_ hi' hm c0 c1 s0
    rcases List.mem_cons.mp he with rfl | he
    · obtain ⟨p1, -, hz⟩ := hp
      obtain ⟨⟨z1, z2, z3, z4⟩, z5, z6⟩ := hz
      have c0 : 0 ≤ va - 1 := by have q_ : (0 : Int) ≤ (1 * va + 0) + (-1) := z4 ([(5, 1)], (-1)) (List.mem_of_getElem? (i := 0) rfl); omega
      have c1 : 0 ≤ -vb - 1 := by have q_ : (0 : Int) ≤ ((-1) * vb + 0) + (-1) := z4 ([(6, (-1))], (-1)) (List.mem_of_getElem? (i := 1) rfl); omega
      obtain ⟨r_, rfl, hv⟩ := ansJ p1 (z2 (0, ([], 1)) (List.mem_of_getElem? (i := 0) rfl))
      have s0 : r_.toInt = 1 := (show r_.toInt = 0 + 1 from hv).trans (by omega)
      exact hR5 h' r_ hi' hm c0 c1 s0
    rcases List.mem_cons.mp he with rfl | he
    · obtain ⟨p1, -, hz⟩ := hp
      obtain ⟨⟨z1, z2, z3, z4⟩, z5, z6⟩ := hz
      have c0 : 0 ≤ va - 1 := by have q_ : (0 : Int) ≤ (1 * va + 0) + (-1) := z4 ([(5, 1)], (-1)) (List.mem_of_getElem? (i := 0) rfl); omega
      have c1 : 0 ≤ vb - 1 := by have q_ : (0 : Int) ≤ (1 * vb + 0) + (-1) := z4 ([(6, 1)], (-1)) (List.mem_of_getElem? (i := 1) rfl); omega
      obtain ⟨r_, rfl, hv⟩ := ansJ p1 (z2 (0, ([], 1)) (List.mem_of_getElem? (i := 0) rfl))
      have s0 : r_.toInt = 1 := (show r_.toInt = 0 + 1 from hv).trans (by omega)
      exact hR6 h' r_ hi' hm c0 c1 s0
    cases he
def emOr_L : List sT := [.inr (.inl 0), .inl (0, 63)]
def emOr_A : sAs := ([], [], [], [])
def emOr_P : List sP0 := [(22, (some 0, 0), (4, 4)), (0, (none, 56), (0, 0)), (23, (some 0, 0), (0, 63)), (24, (some 0, 0), (0, 63))]
def emOr_G : List sP0 := [(28, (some 3, 0), ((-1000000000000), 1000000000000)), (28, (some 4, 0), ((-1000000000000), 1000000000000))]
def emOr_B : List (Nat × Nat × Int) := []
def emOr_m : sM := []
def emOr_r0 : sXr := (some (.inr (.inr sf64)), sA0, [], ([], [(0, ([], 0))], [], [([(5, 1)], 0), ([(5, (-1))], 0), ([(6, 1)], 0), ([(6, (-1))], 0)]), [], [])
def emOr_r1 : sXr := (some (.inr (.inr sf64)), sA0, [], ([], [(0, ([], 1))], [], [([(6, (-1))], (-1)), ([(5, 1)], 0), ([(5, (-1))], 0)]), [], [])
def emOr_r2 : sXr := (some (.inr (.inr sf64)), sA0, [], ([], [(0, ([], 1))], [], [([(6, 1)], (-1)), ([(5, 1)], 0), ([(5, (-1))], 0)]), [], [])
def emOr_r3 : sXr := (some (.inr (.inr sf64)), sA0, [], ([], [(0, ([], 1))], [], [([(5, (-1))], (-1))]), [], [])
def emOr_r4 : sXr := (some (.inr (.inr sf64)), sA0, [], ([], [(0, ([], 1))], [], [([(5, 1)], (-1))]), [], [])
theorem emOr_b : syfB swM sT0 emOr_m 400 0 241 emOr_L emOr_A emOr_P emOr_G emOr_B [] [emOr_r0, emOr_r1, emOr_r2, emOr_r3, emOr_r4] = true := by decide +kernel
theorem emOr {l : Launch} {Γ : zG} {d : Nat} (hd : 0 ≤ d) {Kp : Option Value → zH → Prop} {h : zH} {rr pa po va vb : Int} (hi : sInv swM h) (b_rr : 0 ≤ rr ∧ rr ≤ 63) (b_pa : 0 ≤ pa ∧ pa ≤ 63) (b_po : 0 ≤ po ∧ po ≤ 63) (b_va : (-1000000000000) ≤ va ∧ va ≤ 1000000000000) (b_vb : (-1000000000000) ≤ vb ∧ vb ≤ 1000000000000) {x_rr : Int32} (e_rr : x_rr.toInt = rr) (p_kn : pI h 22 (rr + 0).toNat = 4) (p_er : pI h 0 56 = 0) (p_pa : pI h 23 (rr + 0).toNat = pa) (p_po : pI h 24 (rr + 0).toNat = po) (p_va : pL h 28 (pa + 0).toNat = va) (p_vb : pL h 28 (po + 0).toNat = vb)
    (hR0 : ∀ (h' : zH) (r_ : Int64), sInv swM h' → sMd emOr_m h h' → va = 0 → vb = 0 → r_.toInt = 0 → Kp (some (.long r_)) h')
    (hR1 : ∀ (h' : zH) (r_ : Int64), sInv swM h' → sMd emOr_m h h' → 0 ≤ -vb - 1 → va = 0 → r_.toInt = 1 → Kp (some (.long r_)) h')
    (hR2 : ∀ (h' : zH) (r_ : Int64), sInv swM h' → sMd emOr_m h h' → 0 ≤ vb - 1 → va = 0 → r_.toInt = 1 → Kp (some (.long r_)) h')
    (hR3 : ∀ (h' : zH) (r_ : Int64), sInv swM h' → sMd emOr_m h h' → 0 ≤ -va - 1 → r_.toInt = 1 → Kp (some (.long r_)) h')
    (hR4 : ∀ (h' : zH) (r_ : Int64), sInv swM h' → sMd emOr_m h h' → 0 ≤ va - 1 → r_.toInt = 1 → Kp (some (.long r_)) h') : zSem l Γ false (d + 1) (zhd 241) [.ref 0, .int x_rr] h Kp := by
  refine syf_ok (mi := 241) (fun i => [rr, 4, 0, pa, po, va, vb].getD i 0) emOr_b (fun _ _ hc _ => nomatch hc) hd ⟨_, _, rfl, rfl, ⟨_, _, rfl, ⟨x_rr, rfl, by show 0 ≤ x_rr.toInt; omega, by show x_rr.toInt ≤ 63; omega⟩, rfl⟩⟩ ⟨rfl, ⟨x_rr, rfl, e_rr, by show 0 ≤ rr; omega, by show rr ≤ 63; omega⟩, trivial⟩ ⟨(fun _ hc => nomatch hc), (fun _ hc => nomatch hc), (fun _ hc => nomatch hc), Or.inl rfl⟩ ⟨⟨p_kn, by show 4 ≤ 4; omega, by show 4 ≤ 4; omega⟩, ⟨p_er, by show 0 ≤ 0; omega, by show 0 ≤ 0; omega⟩, ⟨p_pa, by show 0 ≤ pa; omega, by show pa ≤ 63; omega⟩, ⟨p_po, by show 0 ≤ po; omega, by show po ≤ 63; omega⟩, trivial⟩ ⟨⟨p_va, by show (-1000000000000) ≤ va; omega, by show va ≤ 1000000000000; omega⟩, ⟨p_vb, by show (-1000000000000) ≤ vb; omega, by show vb ≤ 1000000000000; omega⟩, trivial⟩ (fun _ hc => nomatch hc) hi ?_ ?_
  · intro e he lo' st' h' hp hi' hm
    cases he
  · intro e he r' h' hp hi' hm
    rcases List.mem_cons.mp he with rfl | he
    · obtain ⟨p1, -, hz⟩ := hp
      obtain ⟨⟨z1, z2, z3, z4⟩, z5, z6⟩ := hz
      have c0 : va = 0 := by have q_ : (0 : Int) ≤ (1 * va + 0) + 0 := z4 ([(5, 1)], 0) (List.mem_of_getElem? (i := 0) rfl); have q2_ : (0 : Int) ≤ ((-1) * va + 0) + 0 := z4 ([(5, (-1))], 0) (List.mem_of_getElem? (i := 1) rfl); omega
      have c2 : vb = 0 := by have q_ : (0 : Int) ≤ (1 * vb + 0) + 0 := z4 ([(6, 1)], 0) (List.mem_of_getElem? (i := 2) rfl); have q2_ : (0 : Int) ≤ ((-1) * vb + 0) + 0 := z4 ([(6, (-1))], 0) (List.mem_of_getElem? (i := 3) rfl); omega
      obtain ⟨r_, rfl, hv⟩ := ansJ p1 (z2 (0, ([], 0)) (List.mem_of_getElem? (i := 0) rfl))
      have s0 : r_.toInt = 0 := (show r_.toInt = 0 + 0 from hv).trans (by omega)
      exact hR0 h' r_ hi' hm c0 c2 s0
    rcases List.mem_cons.mp he with rfl | he
    · obtain ⟨p1, -, hz⟩ := hp
      obtain ⟨⟨z1, z2, z3, z4⟩, z5, z6⟩ := hz
      have c0 : 0 ≤ -vb - 1 := by have q_ : (0 : Int) ≤ ((-1) * vb + 0) + (-1) := z4 ([(6, (-1))], (-1)) (List.mem_of_getElem? (i := 0) rfl); omega
      have c1 : va = 0 := by have q_ : (0 : Int) ≤ (1 * va + 0) + 0 := z4 ([(5, 1)], 0) (List.mem_of_getElem? (i := 1) rfl); have q2_ : (0 : Int) ≤ ((-1) * va + 0) + 0 := z4 ([(5, (-1))], 0) (List.mem_of_getElem? (i := 2) rfl); omega
      obtain ⟨r_, rfl, hv⟩ := ansJ p1 (z2 (0, ([], 1)) (List.mem_of_getElem? (i := 0) rfl))
      have s0 : r_.toInt = 1 := (show r_.toInt = 0 + 1 from hv).trans (by omega)
      exact hR1 h' r_ hi' hm c0 c1 s0
    rcases List.mem_cons.mp he with rfl | he
    · obtain ⟨p1, -, hz⟩ := hp
      obtain ⟨⟨z1, z2, z3, z4⟩, z5, z6⟩ := hz
      have c0 : 0 ≤ vb - 1 := by have q_ : (0 : Int) ≤ (1 * vb + 0) + (-1) := z4 ([(6, 1)], (-1)) (List.mem_of_getElem? (i := 0) rfl); omega
      have c1 : va = 0 := by have q_ : (0 : Int) ≤ (1 * va + 0) + 0 := z4 ([(5, 1)], 0) (List.mem_of_getElem? (i := 1) rfl); have q2_ : (0 : Int) ≤ ((-1) * va + 0) + 0 := z4 ([(5, (-1))], 0) (List.mem_of_getElem? (i := 2) rfl); omega
      obtain ⟨r_, rfl, hv⟩ := ansJ p1 (z2 (0, ([], 1)) (List.mem_of_getElem? (i := 0) rfl))
      have s0 : r_.toInt = 1 := (show r_.toInt = 0 + 1 from hv).trans (by omega)
      exact hR2 h' r_ hi' hm c0 c1 s0
    rcases List.mem_cons.mp he with rfl | he
    · obtain ⟨p1, -, hz⟩ := hp
      obtain ⟨⟨z1, z2, z3, z4⟩, z5, z6⟩ := hz
      have c0 : 0 ≤ -va - 1 := by have q_ : (0 : Int) ≤ ((-1) * va + 0) + (-1) := z4 ([(5, (-1))], (-1)) (List.mem_of_getElem? (i := 0) rfl); omega
      obtain ⟨r_, rfl, hv⟩ := ansJ p1 (z2 (0, ([], 1)) (List.mem_of_getElem? (i := 0) rfl))
      have s0 : r_.toInt = 1 := (show r_.toInt = 0 + 1 from hv).trans (by omega)
      exact hR3 h' r_ hi' hm c0 s0
    rcases List.mem_cons.mp he with rfl | he
    · obtain ⟨p1, -, hz⟩ := hp
      obtain ⟨⟨z1, z2, z3, z4⟩, z5, z6⟩ := hz
      have c0 : 0 ≤ va - 1 := by have q_ : (0 : Int) ≤ (1 * va + 0) + (-1) := z4 ([(5, 1)], (-1)) (List.mem_of_getElem? (i := 0) rfl); omega
      obtain ⟨r_, rfl, hv⟩ := ansJ p1 (z2 (0, ([], 1)) (List.mem_of_getElem? (i := 0) rfl))
      have s0 : r_.toInt = 1 := (show r_.toInt = 0 + 1 from hv).trans (by omega)
      exact hR4 h' r_ hi' hm c0 s0
    cases he
def emLs_L : List sT := [.inr (.inl 0), .inl (0, 63)]
def emLs_A : sAs := ([], [], [], [])
def emLs_P : List sP0 := [(22, (some 0, 0), (5, 5)), (0, (none, 56), (0, 0)), (23, (some 0, 0), (0, 63)), (24, (some 0, 0), (0, 63))]
def emLs_G : List sP0 := [(28, (some 3, 0), ((-1000000000000), 1000000000000)), (28, (some 4, 0), ((-1000000000000), 1000000000000))]
def emLs_B : List (Nat × Nat × Int) := []
def emLs_m : sM := []
def emLs_r0 : sXr := (some (.inr (.inr sf64)), sA0, [], ([], [(0, ([], 0))], [], [([(5, 1), (6, (-1))], 0)]), [], [])
def emLs_r1 : sXr := (some (.inr (.inr sf64)), sA0, [], ([], [(0, ([], 1))], [], [([(5, (-1)), (6, 1)], (-1))]), [], [])
theorem emLs_b : syfB swM sT0 emLs_m 400 1 241 emLs_L emLs_A emLs_P emLs_G emLs_B [] [emLs_r0, emLs_r1] = true := by decide +kernel
theorem emLs {l : Launch} {Γ : zG} {d : Nat} (hd : 1 ≤ d) {Kp : Option Value → zH → Prop} {h : zH} {rr pa po va vb : Int} (hi : sInv swM h) (b_rr : 0 ≤ rr ∧ rr ≤ 63) (b_pa : 0 ≤ pa ∧ pa ≤ 63) (b_po : 0 ≤ po ∧ po ≤ 63) (b_va : (-1000000000000) ≤ va ∧ va ≤ 1000000000000) (b_vb : (-1000000000000) ≤ vb ∧ vb ≤ 1000000000000) {x_rr : Int32} (e_rr : x_rr.toInt = rr) (p_kn : pI h 22 (rr + 0).toNat = 5) (p_er : pI h 0 56 = 0) (p_pa : pI h 23 (rr + 0).toNat = pa) (p_po : pI h 24 (rr + 0).toNat = po) (p_va : pL h 28 (pa + 0).toNat = va) (p_vb : pL h 28 (po + 0).toNat = vb)
    (hR0 : ∀ (h' : zH) (r_ : Int64), sInv swM h' → sMd emLs_m h h' → 0 ≤ va - vb → r_.toInt = 0 → Kp (some (.long r_)) h')
    (hR1 : ∀ (h' : zH) (r_ : Int64), sInv swM h' → sMd emLs_m h h' → 0 ≤ -va + vb - 1 → r_.toInt = 1 → Kp (some (.long r_)) h') : zSem l Γ false (d + 1) (zhd 241) [.ref 0, .int x_rr] h Kp := by
  refine syf_ok (mi := 241) (fun i => [rr, 5, 0, pa, po, va, vb].getD i 0) emLs_b (fun _ _ hc _ => nomatch hc) hd ⟨_, _, rfl, rfl, ⟨_, _, rfl, ⟨x_rr, rfl, by show 0 ≤ x_rr.toInt; omega, by show x_rr.toInt ≤ 63; omega⟩, rfl⟩⟩ ⟨rfl, ⟨x_rr, rfl, e_rr, by show 0 ≤ rr; omega, by show rr ≤ 63; omega⟩, trivial⟩ ⟨(fun _ hc => nomatch hc), (fun _ hc => nomatch hc), (fun _ hc => nomatch hc), Or.inl rfl⟩ ⟨⟨p_kn, by show 5 ≤ 5; omega, by show 5 ≤ 5; omega⟩, ⟨p_er, by show 0 ≤ 0; omega, by show 0 ≤ 0; omega⟩, ⟨p_pa, by show 0 ≤ pa; omega, by show pa ≤ 63; omega⟩, ⟨p_po, by show 0 ≤ po; omega, by show po ≤ 63; omega⟩, trivial⟩ ⟨⟨p_va, by show (-1000000000000) ≤ va; omega, by show va ≤ 1000000000000; omega⟩, ⟨p_vb, by show (-1000000000000) ≤ vb; omega, by show vb ≤ 1000000000000; omega⟩, trivial⟩ (fun _ hc => nomatch hc) hi ?_ ?_
  · intro e he lo' st' h' hp hi' hm
    cases he
  · intro e he r' h' hp hi' hm
    rcases List.mem_cons.mp he with rfl | he
    · obtain ⟨p1, -, hz⟩ := hp
      obtain ⟨⟨z1, z2, z3, z4⟩, z5, z6⟩ := hz
      have c0 : 0 ≤ va - vb := by have q_ : (0 : Int) ≤ (1 * va + ((-1) * vb + 0)) + 0 := z4 ([(5, 1), (6, (-1))], 0) (List.mem_of_getElem? (i := 0) rfl); omega
      obtain ⟨r_, rfl, hv⟩ := ansJ p1 (z2 (0, ([], 0)) (List.mem_of_getElem? (i := 0) rfl))
      have s0 : r_.toInt = 0 := (show r_.toInt = 0 + 0 from hv).trans (by omega)
      exact hR0 h' r_ hi' hm c0 s0
    rcases List.mem_cons.mp he with rfl | he
    · obtain ⟨p1, -, hz⟩ := hp
      obtain ⟨⟨z1, z2, z3, z4⟩, z5, z6⟩ := hz
      have c0 : 0 ≤ -va + vb - 1 := by have q_ : (0 : Int) ≤ ((-1) * va + (1 * vb + 0)) + (-1) := z4 ([(5, (-1)), (6, 1)], (-1)) (List.mem_of_getElem? (i := 0) rfl); omega
      obtain ⟨r_, rfl, hv⟩ := ansJ p1 (z2 (0, ([], 1)) (List.mem_of_getElem? (i := 0) rfl))
      have s0 : r_.toInt = 1 := (show r_.toInt = 0 + 1 from hv).trans (by omega)
      exact hR1 h' r_ hi' hm c0 s0
    cases he
def emLe_L : List sT := [.inr (.inl 0), .inl (0, 63)]
def emLe_A : sAs := ([], [], [], [])
def emLe_P : List sP0 := [(22, (some 0, 0), (6, 6)), (0, (none, 56), (0, 0)), (23, (some 0, 0), (0, 63)), (24, (some 0, 0), (0, 63))]
def emLe_G : List sP0 := [(28, (some 3, 0), ((-1000000000000), 1000000000000)), (28, (some 4, 0), ((-1000000000000), 1000000000000))]
def emLe_B : List (Nat × Nat × Int) := []
def emLe_m : sM := []
def emLe_r0 : sXr := (some (.inr (.inr sf64)), sA0, [], ([], [(0, ([], 0))], [], [([(5, 1), (6, (-1))], (-1))]), [], [])
def emLe_r1 : sXr := (some (.inr (.inr sf64)), sA0, [], ([], [(0, ([], 1))], [], [([(5, (-1)), (6, 1)], 0)]), [], [])
theorem emLe_b : syfB swM sT0 emLe_m 400 1 241 emLe_L emLe_A emLe_P emLe_G emLe_B [] [emLe_r0, emLe_r1] = true := by decide +kernel
theorem emLe {l : Launch} {Γ : zG} {d : Nat} (hd : 1 ≤ d) {Kp : Option Value → zH → Prop} {h : zH} {rr pa po va vb : Int} (hi : sInv swM h) (b_rr : 0 ≤ rr ∧ rr ≤ 63) (b_pa : 0 ≤ pa ∧ pa ≤ 63) (b_po : 0 ≤ po ∧ po ≤ 63) (b_va : (-1000000000000) ≤ va ∧ va ≤ 1000000000000) (b_vb : (-1000000000000) ≤ vb ∧ vb ≤ 1000000000000) {x_rr : Int32} (e_rr : x_rr.toInt = rr) (p_kn : pI h 22 (rr + 0).toNat = 6) (p_er : pI h 0 56 = 0) (p_pa : pI h 23 (rr + 0).toNat = pa) (p_po : pI h 24 (rr + 0).toNat = po) (p_va : pL h 28 (pa + 0).toNat = va) (p_vb : pL h 28 (po + 0).toNat = vb)
    (hR0 : ∀ (h' : zH) (r_ : Int64), sInv swM h' → sMd emLe_m h h' → 0 ≤ va - vb - 1 → r_.toInt = 0 → Kp (some (.long r_)) h')
    (hR1 : ∀ (h' : zH) (r_ : Int64), sInv swM h' → sMd emLe_m h h' → 0 ≤ -va + vb → r_.toInt = 1 → Kp (some (.long r_)) h') : zSem l Γ false (d + 1) (zhd 241) [.ref 0, .int x_rr] h Kp := by
  refine syf_ok (mi := 241) (fun i => [rr, 6, 0, pa, po, va, vb].getD i 0) emLe_b (fun _ _ hc _ => nomatch hc) hd ⟨_, _, rfl, rfl, ⟨_, _, rfl, ⟨x_rr, rfl, by show 0 ≤ x_rr.toInt; omega, by show x_rr.toInt ≤ 63; omega⟩, rfl⟩⟩ ⟨rfl, ⟨x_rr, rfl, e_rr, by show 0 ≤ rr; omega, by show rr ≤ 63; omega⟩, trivial⟩ ⟨(fun _ hc => nomatch hc), (fun _ hc => nomatch hc), (fun _ hc => nomatch hc), Or.inl rfl⟩ ⟨⟨p_kn, by show 6 ≤ 6; omega, by show 6 ≤ 6; omega⟩, ⟨p_er, by show 0 ≤ 0; omega, by show 0 ≤ 0; omega⟩, ⟨p_pa, by show 0 ≤ pa; omega, by show pa ≤ 63; omega⟩, ⟨p_po, by show 0 ≤ po; omega, by show po ≤ 63; omega⟩, trivial⟩ ⟨⟨p_va, by show (-1000000000000) ≤ va; omega, by show va ≤ 1000000000000; omega⟩, ⟨p_vb, by show (-1000000000000) ≤ vb; omega, by show vb ≤ 1000000000000; omega⟩, trivial⟩ (fun _ hc => nomatch hc) hi ?_ ?_
  · intro e he lo' st' h' hp hi' hm
    cases he
  · intro e he r' h' hp hi' hm
    rcases List.mem_cons.mp he with rfl | he
    · obtain ⟨p1, -, hz⟩ := hp
      obtain ⟨⟨z1, z2, z3, z4⟩, z5, z6⟩ := hz
      have c0 : 0 ≤ va - vb - 1 := by have q_ : (0 : Int) ≤ (1 * va + ((-1) * vb + 0)) + (-1) := z4 ([(5, 1), (6, (-1))], (-1)) (List.mem_of_getElem? (i := 0) rfl); omega
      obtain ⟨r_, rfl, hv⟩ := ansJ p1 (z2 (0, ([], 0)) (List.mem_of_getElem? (i := 0) rfl))
      have s0 : r_.toInt = 0 := (show r_.toInt = 0 + 0 from hv).trans (by omega)
      exact hR0 h' r_ hi' hm c0 s0
    rcases List.mem_cons.mp he with rfl | he
    · obtain ⟨p1, -, hz⟩ := hp
      obtain ⟨⟨z1, z2, z3, z4⟩, z5, z6⟩ := hz
      have c0 : 0 ≤ -va + vb := by have q_ : (0 : Int) ≤ ((-1) * va + (1 * vb + 0)) + 0 := z4 ([(5, (-1)), (6, 1)], 0) (List.mem_of_getElem? (i := 0) rfl); omega
      obtain ⟨r_, rfl, hv⟩ := ansJ p1 (z2 (0, ([], 1)) (List.mem_of_getElem? (i := 0) rfl))
      have s0 : r_.toInt = 1 := (show r_.toInt = 0 + 1 from hv).trans (by omega)
      exact hR1 h' r_ hi' hm c0 s0
    cases he
def emEq_L : List sT := [.inr (.inl 0), .inl (0, 63)]
def emEq_A : sAs := ([], [], [], [])
def emEq_P : List sP0 := [(22, (some 0, 0), (7, 7)), (0, (none, 56), (0, 0)), (23, (some 0, 0), (0, 63)), (24, (some 0, 0), (0, 63))]
def emEq_G : List sP0 := [(28, (some 3, 0), ((-1000000000000), 1000000000000)), (28, (some 4, 0), ((-1000000000000), 1000000000000))]
def emEq_B : List (Nat × Nat × Int) := []
def emEq_m : sM := []
def emEq_r0 : sXr := (some (.inr (.inr sf64)), sA0, [], ([], [(0, ([], 1))], [], [([(5, 1), (6, (-1))], 0), ([(5, (-1)), (6, 1)], 0)]), [], [])
def emEq_r1 : sXr := (some (.inr (.inr sf64)), sA0, [], ([], [(0, ([], 0))], [], [([(5, (-1)), (6, 1)], (-1))]), [], [])
def emEq_r2 : sXr := (some (.inr (.inr sf64)), sA0, [], ([], [(0, ([], 0))], [], [([(5, 1), (6, (-1))], (-1))]), [], [])
theorem emEq_b : syfB swM sT0 emEq_m 400 1 241 emEq_L emEq_A emEq_P emEq_G emEq_B [] [emEq_r0, emEq_r1, emEq_r2] = true := by decide +kernel
theorem emEq {l : Launch} {Γ : zG} {d : Nat} (hd : 1 ≤ d) {Kp : Option Value → zH → Prop} {h : zH} {rr pa po va vb : Int} (hi : sInv swM h) (b_rr : 0 ≤ rr ∧ rr ≤ 63) (b_pa : 0 ≤ pa ∧ pa ≤ 63) (b_po : 0 ≤ po ∧ po ≤ 63) (b_va : (-1000000000000) ≤ va ∧ va ≤ 1000000000000) (b_vb : (-1000000000000) ≤ vb ∧ vb ≤ 1000000000000) {x_rr : Int32} (e_rr : x_rr.toInt = rr) (p_kn : pI h 22 (rr + 0).toNat = 7) (p_er : pI h 0 56 = 0) (p_pa : pI h 23 (rr + 0).toNat = pa) (p_po : pI h 24 (rr + 0).toNat = po) (p_va : pL h 28 (pa + 0).toNat = va) (p_vb : pL h 28 (po + 0).toNat = vb)
    (hR0 : ∀ (h' : zH) (r_ : Int64), sInv swM h' → sMd emEq_m h h' → va = vb → r_.toInt = 1 → Kp (some (.long r_)) h')
    (hR1 : ∀ (h' : zH) (r_ : Int64), sInv swM h' → sMd emEq_m h h' → 0 ≤ -va + vb - 1 → r_.toInt = 0 → Kp (some (.long r_)) h')
    (hR2 : ∀ (h' : zH) (r_ : Int64), sInv swM h' → sMd emEq_m h h' → 0 ≤ va - vb - 1 → r_.toInt = 0 → Kp (some (.long r_)) h') : zSem l Γ false (d + 1) (zhd 241) [.ref 0, .int x_rr] h Kp := by
  refine syf_ok (mi := 241) (fun i => [rr, 7, 0, pa, po, va, vb].getD i 0) emEq_b (fun _ _ hc _ => nomatch hc) hd ⟨_, _, rfl, rfl, ⟨_, _, rfl, ⟨x_rr, rfl, by show 0 ≤ x_rr.toInt; omega, by show x_rr.toInt ≤ 63; omega⟩, rfl⟩⟩ ⟨rfl, ⟨x_rr, rfl, e_rr, by show 0 ≤ rr; omega, by show rr ≤ 63; omega⟩, trivial⟩ ⟨(fun _ hc => nomatch hc), (fun _ hc => nomatch hc), (fun _ hc => nomatch hc), Or.inl rfl⟩ ⟨⟨p_kn, by show 7 ≤ 7; omega, by show 7 ≤ 7; omega⟩, ⟨p_er, by show 0 ≤ 0; omega, by show 0 ≤ 0; omega⟩, ⟨p_pa, by show 0 ≤ pa; omega, by show pa ≤ 63; omega⟩, ⟨p_po, by show 0 ≤ po; omega, by show po ≤ 63; omega⟩, trivial⟩ ⟨⟨p_va, by show (-1000000000000) ≤ va; omega, by show va ≤ 1000000000000; omega⟩, ⟨p_vb, by show (-1000000000000) ≤ vb; omega, by show vb ≤ 1000000000000; omega⟩, trivial⟩ (fun _ hc => nomatch hc) hi ?_ ?_
  · intro e he lo' st' h' hp hi' hm
    cases he
  · intro e he r' h' hp hi' hm
    rcases List.mem_cons.mp he with rfl | he
    · obtain ⟨p1, -, hz⟩ := hp
      obtain ⟨⟨z1, z2, z3, z4⟩, z5, z6⟩ := hz
      have c0 : va = vb := by have q_ : (0 : Int) ≤ (1 * va + ((-1) * vb + 0)) + 0 := z4 ([(5, 1), (6, (-1))], 0) (List.mem_of_getElem? (i := 0) rfl); have q2_ : (0 : Int) ≤ ((-1) * va + (1 * vb + 0)) + 0 := z4 ([(5, (-1)), (6, 1)], 0) (List.mem_of_getElem? (i := 1) rfl); omega
      obtain ⟨r_, rfl, hv⟩ := ansJ p1 (z2 (0, ([], 1)) (List.mem_of_getElem? (i := 0) rfl))
      have s0 : r_.toInt = 1 := (show r_.toInt = 0 + 1 from hv).trans (by omega)
      exact hR0 h' r_ hi' hm c0 s0
    rcases List.mem_cons.mp he with rfl | he
    · obtain ⟨p1, -, hz⟩ := hp
      obtain ⟨⟨z1, z2, z3, z4⟩, z5, z6⟩ := hz
      have c0 : 0 ≤ -va + vb - 1 := by have q_ : (0 : Int) ≤ ((-1) * va + (1 * vb + 0)) + (-1) := z4 ([(5, (-1)), (6, 1)], (-1)) (List.mem_of_getElem? (i := 0) rfl); omega
      obtain ⟨r_, rfl, hv⟩ := ansJ p1 (z2 (0, ([], 0)) (List.mem_of_getElem? (i := 0) rfl))
      have s0 : r_.toInt = 0 := (show r_.toInt = 0 + 0 from hv).trans (by omega)
      exact hR1 h' r_ hi' hm c0 s0
    rcases List.mem_cons.mp he with rfl | he
    · obtain ⟨p1, -, hz⟩ := hp
      obtain ⟨⟨z1, z2, z3, z4⟩, z5, z6⟩ := hz
      have c0 : 0 ≤ va - vb - 1 := by have q_ : (0 : Int) ≤ (1 * va + ((-1) * vb + 0)) + (-1) := z4 ([(5, 1), (6, (-1))], (-1)) (List.mem_of_getElem? (i := 0) rfl); omega
      obtain ⟨r_, rfl, hv⟩ := ansJ p1 (z2 (0, ([], 0)) (List.mem_of_getElem? (i := 0) rfl))
      have s0 : r_.toInt = 0 := (show r_.toInt = 0 + 0 from hv).trans (by omega)
      exact hR2 h' r_ hi' hm c0 s0
    cases he
def emNe_L : List sT := [.inr (.inl 0), .inl (0, 63)]
def emNe_A : sAs := ([], [], [], [])
def emNe_P : List sP0 := [(22, (some 0, 0), (8, 8)), (0, (none, 56), (0, 0)), (23, (some 0, 0), (0, 63)), (24, (some 0, 0), (0, 63))]
def emNe_G : List sP0 := [(28, (some 3, 0), ((-1000000000000), 1000000000000)), (28, (some 4, 0), ((-1000000000000), 1000000000000))]
def emNe_B : List (Nat × Nat × Int) := []
def emNe_m : sM := []
def emNe_r0 : sXr := (some (.inr (.inr sf64)), sA0, [], ([], [(0, ([], 0))], [], [([(5, 1), (6, (-1))], 0), ([(5, (-1)), (6, 1)], 0)]), [], [])
def emNe_r1 : sXr := (some (.inr (.inr sf64)), sA0, [], ([], [(0, ([], 1))], [], [([(5, (-1)), (6, 1)], (-1))]), [], [])
def emNe_r2 : sXr := (some (.inr (.inr sf64)), sA0, [], ([], [(0, ([], 1))], [], [([(5, 1), (6, (-1))], (-1))]), [], [])
theorem emNe_b : syfB swM sT0 emNe_m 400 1 241 emNe_L emNe_A emNe_P emNe_G emNe_B [] [emNe_r0, emNe_r1, emNe_r2] = true := by decide +kernel
theorem emNe {l : Launch} {Γ : zG} {d : Nat} (hd : 1 ≤ d) {Kp : Option Value → zH → Prop} {h : zH} {rr pa po va vb : Int} (hi : sInv swM h) (b_rr : 0 ≤ rr ∧ rr ≤ 63) (b_pa : 0 ≤ pa ∧ pa ≤ 63) (b_po : 0 ≤ po ∧ po ≤ 63) (b_va : (-1000000000000) ≤ va ∧ va ≤ 1000000000000) (b_vb : (-1000000000000) ≤ vb ∧ vb ≤ 1000000000000) {x_rr : Int32} (e_rr : x_rr.toInt = rr) (p_kn : pI h 22 (rr + 0).toNat = 8) (p_er : pI h 0 56 = 0) (p_pa : pI h 23 (rr + 0).toNat = pa) (p_po : pI h 24 (rr + 0).toNat = po) (p_va : pL h 28 (pa + 0).toNat = va) (p_vb : pL h 28 (po + 0).toNat = vb)
    (hR0 : ∀ (h' : zH) (r_ : Int64), sInv swM h' → sMd emNe_m h h' → va = vb → r_.toInt = 0 → Kp (some (.long r_)) h')
    (hR1 : ∀ (h' : zH) (r_ : Int64), sInv swM h' → sMd emNe_m h h' → 0 ≤ -va + vb - 1 → r_.toInt = 1 → Kp (some (.long r_)) h')
    (hR2 : ∀ (h' : zH) (r_ : Int64), sInv swM h' → sMd emNe_m h h' → 0 ≤ va - vb - 1 → r_.toInt = 1 → Kp (some (.long r_)) h') : zSem l Γ false (d + 1) (zhd 241) [.ref 0, .int x_rr] h Kp := by
  refine syf_ok (mi := 241) (fun i => [rr, 8, 0, pa, po, va, vb].getD i 0) emNe_b (fun _ _ hc _ => nomatch hc) hd ⟨_, _, rfl, rfl, ⟨_, _, rfl, ⟨x_rr, rfl, by show 0 ≤ x_rr.toInt; omega, by show x_rr.toInt ≤ 63; omega⟩, rfl⟩⟩ ⟨rfl, ⟨x_rr, rfl, e_rr, by show 0 ≤ rr; omega, by show rr ≤ 63; omega⟩, trivial⟩ ⟨(fun _ hc => nomatch hc), (fun _ hc => nomatch hc), (fun _ hc => nomatch hc), Or.inl rfl⟩ ⟨⟨p_kn, by show 8 ≤ 8; omega, by show 8 ≤ 8; omega⟩, ⟨p_er, by show 0 ≤ 0; omega, by show 0 ≤ 0; omega⟩, ⟨p_pa, by show 0 ≤ pa; omega, by show pa ≤ 63; omega⟩, ⟨p_po, by show 0 ≤ po; omega, by show po ≤ 63; omega⟩, trivial⟩ ⟨⟨p_va, by show (-1000000000000) ≤ va; omega, by show va ≤ 1000000000000; omega⟩, ⟨p_vb, by show (-1000000000000) ≤ vb; omega, by show vb ≤ 1000000000000; omega⟩, trivial⟩ (fun _ hc => nomatch hc) hi ?_ ?_
  · intro e he lo' st' h' hp hi' hm
    cases he
  · intro e he r' h' hp hi' hm
    rcases List.mem_cons.mp he with rfl | he
    · obtain ⟨p1, -, hz⟩ := hp
      obtain ⟨⟨z1, z2, z3, z4⟩, z5, z6⟩ := hz
      have c0 : va = vb := by have q_ : (0 : Int) ≤ (1 * va + ((-1) * vb + 0)) + 0 := z4 ([(5, 1), (6, (-1))], 0) (List.mem_of_getElem? (i := 0) rfl); have q2_ : (0 : Int) ≤ ((-1) * va + (1 * vb + 0)) + 0 := z4 ([(5, (-1)), (6, 1)], 0) (List.mem_of_getElem? (i := 1) rfl); omega
      obtain ⟨r_, rfl, hv⟩ := ansJ p1 (z2 (0, ([], 0)) (List.mem_of_getElem? (i := 0) rfl))
      have s0 : r_.toInt = 0 := (show r_.toInt = 0 + 0 from hv).trans (by omega)
      exact hR0 h' r_ hi' hm c0 s0
    rcases List.mem_cons.mp he with rfl | he
    · obtain ⟨p1, -, hz⟩ := hp
      obtain ⟨⟨z1, z2, z3, z4⟩, z5, z6⟩ := hz
      have c0 : 0 ≤ -va + vb - 1 := by have q_ : (0 : Int) ≤ ((-1) * va + (1 * vb + 0)) + (-1) := z4 ([(5, (-1)), (6, 1)], (-1)) (List.mem_of_getElem? (i := 0) rfl); omega
      obtain ⟨r_, rfl, hv⟩ := ansJ p1 (z2 (0, ([], 1)) (List.mem_of_getElem? (i := 0) rfl))
      have s0 : r_.toInt = 1 := (show r_.toInt = 0 + 1 from hv).trans (by omega)
      exact hR1 h' r_ hi' hm c0 s0
    rcases List.mem_cons.mp he with rfl | he
    · obtain ⟨p1, -, hz⟩ := hp
      obtain ⟨⟨z1, z2, z3, z4⟩, z5, z6⟩ := hz
      have c0 : 0 ≤ va - vb - 1 := by have q_ : (0 : Int) ≤ (1 * va + ((-1) * vb + 0)) + (-1) := z4 ([(5, 1), (6, (-1))], (-1)) (List.mem_of_getElem? (i := 0) rfl); omega
      obtain ⟨r_, rfl, hv⟩ := ansJ p1 (z2 (0, ([], 1)) (List.mem_of_getElem? (i := 0) rfl))
      have s0 : r_.toInt = 1 := (show r_.toInt = 0 + 1 from hv).trans (by omega)
      exact hR2 h' r_ hi' hm c0 s0
    cases he
def emGe_L : List sT := [.inr (.inl 0), .inl (0, 63)]
def emGe_A : sAs := ([], [], [], [])
def emGe_P : List sP0 := [(22, (some 0, 0), (9, 9)), (0, (none, 56), (0, 0)), (23, (some 0, 0), (0, 63)), (24, (some 0, 0), (0, 63))]
def emGe_G : List sP0 := [(28, (some 3, 0), ((-1000000000000), 1000000000000)), (28, (some 4, 0), ((-1000000000000), 1000000000000))]
def emGe_B : List (Nat × Nat × Int) := []
def emGe_m : sM := []
def emGe_r0 : sXr := (some (.inr (.inr sf64)), sA0, [], ([], [(0, ([], 0))], [], [([(5, (-1)), (6, 1)], (-1))]), [], [])
def emGe_r1 : sXr := (some (.inr (.inr sf64)), sA0, [], ([], [(0, ([], 1))], [], [([(5, 1), (6, (-1))], 0)]), [], [])
theorem emGe_b : syfB swM sT0 emGe_m 400 1 241 emGe_L emGe_A emGe_P emGe_G emGe_B [] [emGe_r0, emGe_r1] = true := by decide +kernel
theorem emGe {l : Launch} {Γ : zG} {d : Nat} (hd : 1 ≤ d) {Kp : Option Value → zH → Prop} {h : zH} {rr pa po va vb : Int} (hi : sInv swM h) (b_rr : 0 ≤ rr ∧ rr ≤ 63) (b_pa : 0 ≤ pa ∧ pa ≤ 63) (b_po : 0 ≤ po ∧ po ≤ 63) (b_va : (-1000000000000) ≤ va ∧ va ≤ 1000000000000) (b_vb : (-1000000000000) ≤ vb ∧ vb ≤ 1000000000000) {x_rr : Int32} (e_rr : x_rr.toInt = rr) (p_kn : pI h 22 (rr + 0).toNat = 9) (p_er : pI h 0 56 = 0) (p_pa : pI h 23 (rr + 0).toNat = pa) (p_po : pI h 24 (rr + 0).toNat = po) (p_va : pL h 28 (pa + 0).toNat = va) (p_vb : pL h 28 (po + 0).toNat = vb)
    (hR0 : ∀ (h' : zH) (r_ : Int64), sInv swM h' → sMd emGe_m h h' → 0 ≤ -va + vb - 1 → r_.toInt = 0 → Kp (some (.long r_)) h')
    (hR1 : ∀ (h' : zH) (r_ : Int64), sInv swM h' → sMd emGe_m h h' → 0 ≤ va - vb → r_.toInt = 1 → Kp (some (.long r_)) h') : zSem l Γ false (d + 1) (zhd 241) [.ref 0, .int x_rr] h Kp := by
  refine syf_ok (mi := 241) (fun i => [rr, 9, 0, pa, po, va, vb].getD i 0) emGe_b (fun _ _ hc _ => nomatch hc) hd ⟨_, _, rfl, rfl, ⟨_, _, rfl, ⟨x_rr, rfl, by show 0 ≤ x_rr.toInt; omega, by show x_rr.toInt ≤ 63; omega⟩, rfl⟩⟩ ⟨rfl, ⟨x_rr, rfl, e_rr, by show 0 ≤ rr; omega, by show rr ≤ 63; omega⟩, trivial⟩ ⟨(fun _ hc => nomatch hc), (fun _ hc => nomatch hc), (fun _ hc => nomatch hc), Or.inl rfl⟩ ⟨⟨p_kn, by show 9 ≤ 9; omega, by show 9 ≤ 9; omega⟩, ⟨p_er, by show 0 ≤ 0; omega, by show 0 ≤ 0; omega⟩, ⟨p_pa, by show 0 ≤ pa; omega, by show pa ≤ 63; omega⟩, ⟨p_po, by show 0 ≤ po; omega, by show po ≤ 63; omega⟩, trivial⟩ ⟨⟨p_va, by show (-1000000000000) ≤ va; omega, by show va ≤ 1000000000000; omega⟩, ⟨p_vb, by show (-1000000000000) ≤ vb; omega, by show vb ≤ 1000000000000; omega⟩, trivial⟩ (fun _ hc => nomatch hc) hi ?_ ?_
  · intro e he lo' st' h' hp hi' hm
    cases he
  · intro e he r' h' hp hi' hm
    rcases List.mem_cons.mp he with rfl | he
    · obtain ⟨p1, -, hz⟩ := hp
      obtain ⟨⟨z1, z2, z3, z4⟩, z5, z6⟩ := hz
      have c0 : 0 ≤ -va + vb - 1 := by have q_ : (0 : Int) ≤ ((-1) * va + (1 * vb + 0)) + (-1) := z4 ([(5, (-1)), (6, 1)], (-1)) (List.mem_of_getElem? (i := 0) rfl); omega
      obtain ⟨r_, rfl, hv⟩ := ansJ p1 (z2 (0, ([], 0)) (List.mem_of_getElem? (i := 0) rfl))
      have s0 : r_.toInt = 0 := (show r_.toInt = 0 + 0 from hv).trans (by omega)
      exact hR0 h' r_ hi' hm c0 s0
    rcases List.mem_cons.mp he with rfl | he
    · obtain ⟨p1, -, hz⟩ := hp
      obtain ⟨⟨z1, z2, z3, z4⟩, z5, z6⟩ := hz
      have c0 : 0 ≤ va - vb := by have q_ : (0 : Int) ≤ (1 * va + ((-1) * vb + 0)) + 0 := z4 ([(5, 1), (6, (-1))], 0) (List.mem_of_getElem? (i := 0) rfl); omega
      obtain ⟨r_, rfl, hv⟩ := ansJ p1 (z2 (0, ([], 1)) (List.mem_of_getElem? (i := 0) rfl))
      have s0 : r_.toInt = 1 := (show r_.toInt = 0 + 1 from hv).trans (by omega)
      exact hR1 h' r_ hi' hm c0 s0
    cases he
def emGt_L : List sT := [.inr (.inl 0), .inl (0, 63)]
def emGt_A : sAs := ([], [], [], [])
def emGt_P : List sP0 := [(22, (some 0, 0), (10, 10)), (0, (none, 56), (0, 0)), (23, (some 0, 0), (0, 63)), (24, (some 0, 0), (0, 63))]
def emGt_G : List sP0 := [(28, (some 3, 0), ((-1000000000000), 1000000000000)), (28, (some 4, 0), ((-1000000000000), 1000000000000))]
def emGt_B : List (Nat × Nat × Int) := []
def emGt_m : sM := []
def emGt_r0 : sXr := (some (.inr (.inr sf64)), sA0, [], ([], [(0, ([], 0))], [], [([(5, (-1)), (6, 1)], 0)]), [], [])
def emGt_r1 : sXr := (some (.inr (.inr sf64)), sA0, [], ([], [(0, ([], 1))], [], [([(5, 1), (6, (-1))], (-1))]), [], [])
theorem emGt_b : syfB swM sT0 emGt_m 400 1 241 emGt_L emGt_A emGt_P emGt_G emGt_B [] [emGt_r0, emGt_r1] = true := by decide +kernel
theorem emGt {l : Launch} {Γ : zG} {d : Nat} (hd : 1 ≤ d) {Kp : Option Value → zH → Prop} {h : zH} {rr pa po va vb : Int} (hi : sInv swM h) (b_rr : 0 ≤ rr ∧ rr ≤ 63) (b_pa : 0 ≤ pa ∧ pa ≤ 63) (b_po : 0 ≤ po ∧ po ≤ 63) (b_va : (-1000000000000) ≤ va ∧ va ≤ 1000000000000) (b_vb : (-1000000000000) ≤ vb ∧ vb ≤ 1000000000000) {x_rr : Int32} (e_rr : x_rr.toInt = rr) (p_kn : pI h 22 (rr + 0).toNat = 10) (p_er : pI h 0 56 = 0) (p_pa : pI h 23 (rr + 0).toNat = pa) (p_po : pI h 24 (rr + 0).toNat = po) (p_va : pL h 28 (pa + 0).toNat = va) (p_vb : pL h 28 (po + 0).toNat = vb)
    (hR0 : ∀ (h' : zH) (r_ : Int64), sInv swM h' → sMd emGt_m h h' → 0 ≤ -va + vb → r_.toInt = 0 → Kp (some (.long r_)) h')
    (hR1 : ∀ (h' : zH) (r_ : Int64), sInv swM h' → sMd emGt_m h h' → 0 ≤ va - vb - 1 → r_.toInt = 1 → Kp (some (.long r_)) h') : zSem l Γ false (d + 1) (zhd 241) [.ref 0, .int x_rr] h Kp := by
  refine syf_ok (mi := 241) (fun i => [rr, 10, 0, pa, po, va, vb].getD i 0) emGt_b (fun _ _ hc _ => nomatch hc) hd ⟨_, _, rfl, rfl, ⟨_, _, rfl, ⟨x_rr, rfl, by show 0 ≤ x_rr.toInt; omega, by show x_rr.toInt ≤ 63; omega⟩, rfl⟩⟩ ⟨rfl, ⟨x_rr, rfl, e_rr, by show 0 ≤ rr; omega, by show rr ≤ 63; omega⟩, trivial⟩ ⟨(fun _ hc => nomatch hc), (fun _ hc => nomatch hc), (fun _ hc => nomatch hc), Or.inl rfl⟩ ⟨⟨p_kn, by show 10 ≤ 10; omega, by show 10 ≤ 10; omega⟩, ⟨p_er, by show 0 ≤ 0; omega, by show 0 ≤ 0; omega⟩, ⟨p_pa, by show 0 ≤ pa; omega, by show pa ≤ 63; omega⟩, ⟨p_po, by show 0 ≤ po; omega, by show po ≤ 63; omega⟩, trivial⟩ ⟨⟨p_va, by show (-1000000000000) ≤ va; omega, by show va ≤ 1000000000000; omega⟩, ⟨p_vb, by show (-1000000000000) ≤ vb; omega, by show vb ≤ 1000000000000; omega⟩, trivial⟩ (fun _ hc => nomatch hc) hi ?_ ?_
  · intro e he lo' st' h' hp hi' hm
    cases he
  · intro e he r' h' hp hi' hm
    rcases List.mem_cons.mp he with rfl | he
    · obtain ⟨p1, -, hz⟩ := hp
      obtain ⟨⟨z1, z2, z3, z4⟩, z5, z6⟩ := hz
      have c0 : 0 ≤ -va + vb := by have q_ : (0 : Int) ≤ ((-1) * va + (1 * vb + 0)) + 0 := z4 ([(5, (-1)), (6, 1)], 0) (List.mem_of_getElem? (i := 0) rfl); omega
      obtain ⟨r_, rfl, hv⟩ := ansJ p1 (z2 (0, ([], 0)) (List.mem_of_getElem? (i := 0) rfl))
      have s0 : r_.toInt = 0 := (show r_.toInt = 0 + 0 from hv).trans (by omega)
      exact hR0 h' r_ hi' hm c0 s0
    rcases List.mem_cons.mp he with rfl | he
    · obtain ⟨p1, -, hz⟩ := hp
      obtain ⟨⟨z1, z2, z3, z4⟩, z5, z6⟩ := hz
      have c0 : 0 ≤ va - vb - 1 := by have q_ : (0 : Int) ≤ (1 * va + ((-1) * vb + 0)) + (-1) := z4 ([(5, 1), (6, (-1))], (-1)) (List.mem_of_getElem? (i := 0) rfl); omega
      obtain ⟨r_, rfl, hv⟩ := ansJ p1 (z2 (0, ([], 1)) (List.mem_of_getElem? (i := 0) rfl))
      have s0 : r_.toInt = 1 := (show r_.toInt = 0 + 1 from hv).trans (by omega)
      exact hR1 h' r_ hi' hm c0 s0
    cases he
def emPl_L : List sT := [.inr (.inl 0), .inl (0, 63)]
def emPl_A : sAs := ([], [], [], [])
def emPl_P : List sP0 := [(22, (some 0, 0), (11, 11)), (0, (none, 56), (0, 0)), (23, (some 0, 0), (0, 63)), (24, (some 0, 0), (0, 63))]
def emPl_G : List sP0 := [(28, (some 3, 0), ((-1000000000000), 1000000000000)), (28, (some 4, 0), ((-1000000000000), 1000000000000))]
def emPl_B : List (Nat × Nat × Int) := []
def emPl_m : sM := [(0, 56, 57)]
def emPl_r0 : sXr := (some (.inr (.inr sf64)), sA0, [], ([(0, (none, 56), ([], 1))], [(0, ([], 0))], [], [([(5, 1), (6, 1)], (-1000000000001))]), [], [])
def emPl_r1 : sXr := (some (.inr (.inr sf64)), sA0, [], ([(0, (none, 56), ([], 0))], [(0, ([(5, 1), (6, 1)], 0))], [], [([(5, (-1)), (6, (-1))], 1000000000000), ([(5, 1), (6, 1)], 1000000000000)]), [], [])
def emPl_r2 : sXr := (some (.inr (.inr sf64)), sA0, [], ([(0, (none, 56), ([], 1))], [(0, ([], 0))], [], [([(5, (-1)), (6, (-1))], 1000000000000), ([(5, (-1)), (6, (-1))], (-1000000000001))]), [], [])
theorem emPl_b : syfB swM sT0 emPl_m 400 1 241 emPl_L emPl_A emPl_P emPl_G emPl_B [] [emPl_r0, emPl_r1, emPl_r2] = true := by decide +kernel
theorem emPl {l : Launch} {Γ : zG} {d : Nat} (hd : 1 ≤ d) {Kp : Option Value → zH → Prop} {h : zH} {rr pa po va vb : Int} (hi : sInv swM h) (b_rr : 0 ≤ rr ∧ rr ≤ 63) (b_pa : 0 ≤ pa ∧ pa ≤ 63) (b_po : 0 ≤ po ∧ po ≤ 63) (b_va : (-1000000000000) ≤ va ∧ va ≤ 1000000000000) (b_vb : (-1000000000000) ≤ vb ∧ vb ≤ 1000000000000) {x_rr : Int32} (e_rr : x_rr.toInt = rr) (p_kn : pI h 22 (rr + 0).toNat = 11) (p_er : pI h 0 56 = 0) (p_pa : pI h 23 (rr + 0).toNat = pa) (p_po : pI h 24 (rr + 0).toNat = po) (p_va : pL h 28 (pa + 0).toNat = va) (p_vb : pL h 28 (po + 0).toNat = vb)
    (hR0 : ∀ (h' : zH) (r_ : Int64), sInv swM h' → sMd emPl_m h h' → 0 ≤ va + vb - 1000000000001 → pI h' 0 56 = 1 → r_.toInt = 0 → Kp (some (.long r_)) h')
    (hR1 : ∀ (h' : zH) (r_ : Int64), sInv swM h' → sMd emPl_m h h' → 0 ≤ -va - vb + 1000000000000 → 0 ≤ va + vb + 1000000000000 → pI h' 0 56 = 0 → r_.toInt = va + vb → Kp (some (.long r_)) h')
    (hR2 : ∀ (h' : zH) (r_ : Int64), sInv swM h' → sMd emPl_m h h' → 0 ≤ -va - vb + 1000000000000 → 0 ≤ -va - vb - 1000000000001 → pI h' 0 56 = 1 → r_.toInt = 0 → Kp (some (.long r_)) h') : zSem l Γ false (d + 1) (zhd 241) [.ref 0, .int x_rr] h Kp := by
  refine syf_ok (mi := 241) (fun i => [rr, 11, 0, pa, po, va, vb].getD i 0) emPl_b (fun _ _ hc _ => nomatch hc) hd ⟨_, _, rfl, rfl, ⟨_, _, rfl, ⟨x_rr, rfl, by show 0 ≤ x_rr.toInt; omega, by show x_rr.toInt ≤ 63; omega⟩, rfl⟩⟩ ⟨rfl, ⟨x_rr, rfl, e_rr, by show 0 ≤ rr; omega, by show rr ≤ 63; omega⟩, trivial⟩ ⟨(fun _ hc => nomatch hc), (fun _ hc => nomatch hc), (fun _ hc => nomatch hc), Or.inl rfl⟩ ⟨⟨p_kn, by show 11 ≤ 11; omega, by show 11 ≤ 11; omega⟩, ⟨p_er, by show 0 ≤ 0; omega, by show 0 ≤ 0; omega⟩, ⟨p_pa, by show 0 ≤ pa; omega, by show pa ≤ 63; omega⟩, ⟨p_po, by show 0 ≤ po; omega, by show po ≤ 63; omega⟩, trivial⟩ ⟨⟨p_va, by show (-1000000000000) ≤ va; omega, by show va ≤ 1000000000000; omega⟩, ⟨p_vb, by show (-1000000000000) ≤ vb; omega, by show vb ≤ 1000000000000; omega⟩, trivial⟩ (fun _ hc => nomatch hc) hi ?_ ?_
  · intro e he lo' st' h' hp hi' hm
    cases he
  · intro e he r' h' hp hi' hm
    rcases List.mem_cons.mp he with rfl | he
    · obtain ⟨p1, -, hz⟩ := hp
      obtain ⟨⟨z1, z2, z3, z4⟩, z5, z6⟩ := hz
      have c0 : 0 ≤ va + vb - 1000000000001 := by have q_ : (0 : Int) ≤ (1 * va + (1 * vb + 0)) + (-1000000000001) := z4 ([(5, 1), (6, 1)], (-1000000000001)) (List.mem_of_getElem? (i := 0) rfl); omega
      have k0 : pI h' 0 56 = 1 := (show pI h' 0 56 = 0 + 1 from z1 (0, (none, 56), ([], 1)) (List.mem_of_getElem? (i := 0) rfl)).trans (by omega)
      obtain ⟨r_, rfl, hv⟩ := ansJ p1 (z2 (0, ([], 0)) (List.mem_of_getElem? (i := 0) rfl))
      have s0 : r_.toInt = 0 := (show r_.toInt = 0 + 0 from hv).trans (by omega)
      exact hR0 h' r_ hi' hm c0 k0 s0
    rcases List.mem_cons.mp he with rfl | he
    · obtain ⟨p1, -, hz⟩ := hp
      obtain ⟨⟨z1, z2, z3, z4⟩, z5, z6⟩ := hz
      have c0 : 0 ≤ -va - vb + 1000000000000 := by have q_ : (0 : Int) ≤ ((-1) * va + ((-1) * vb + 0)) + 1000000000000 := z4 ([(5, (-1)), (6, (-1))], 1000000000000) (List.mem_of_getElem? (i := 0) rfl); omega
      have c1 : 0 ≤ va + vb + 1000000000000 := by have q_ : (0 : Int) ≤ (1 * va + (1 * vb + 0)) + 1000000000000 := z4 ([(5, 1), (6, 1)], 1000000000000) (List.mem_of_getElem? (i := 1) rfl); omega
      have k0 : pI h' 0 56 = 0 := (show pI h' 0 56 = 0 + 0 from z1 (0, (none, 56), ([], 0)) (List.mem_of_getElem? (i := 0) rfl)).trans (by omega)
      obtain ⟨r_, rfl, hv⟩ := ansJ p1 (z2 (0, ([(5, 1), (6, 1)], 0)) (List.mem_of_getElem? (i := 0) rfl))
      have s0 : r_.toInt = va + vb := (show r_.toInt = (1 * va + (1 * vb + 0)) + 0 from hv).trans (by omega)
      exact hR1 h' r_ hi' hm c0 c1 k0 s0
    rcases List.mem_cons.mp he with rfl | he
    · obtain ⟨p1, -, hz⟩ := hp
      obtain ⟨⟨z1, z2, z3, z4⟩, z5, z6⟩ := hz
      have c0 : 0 ≤ -va - vb + 1000000000000 := by have q_ : (0 : Int) ≤ ((-1) * va + ((-1) * vb + 0)) + 1000000000000 := z4 ([(5, (-1)), (6, (-1))], 1000000000000) (List.mem_of_getElem? (i := 0) rfl); omega
      have c1 : 0 ≤ -va - vb - 1000000000001 := by have q_ : (0 : Int) ≤ ((-1) * va + ((-1) * vb + 0)) + (-1000000000001) := z4 ([(5, (-1)), (6, (-1))], (-1000000000001)) (List.mem_of_getElem? (i := 1) rfl); omega
      have k0 : pI h' 0 56 = 1 := (show pI h' 0 56 = 0 + 1 from z1 (0, (none, 56), ([], 1)) (List.mem_of_getElem? (i := 0) rfl)).trans (by omega)
      obtain ⟨r_, rfl, hv⟩ := ansJ p1 (z2 (0, ([], 0)) (List.mem_of_getElem? (i := 0) rfl))
      have s0 : r_.toInt = 0 := (show r_.toInt = 0 + 0 from hv).trans (by omega)
      exact hR2 h' r_ hi' hm c0 c1 k0 s0
    cases he
def emMi_L : List sT := [.inr (.inl 0), .inl (0, 63)]
def emMi_A : sAs := ([], [], [], [])
def emMi_P : List sP0 := [(22, (some 0, 0), (12, 12)), (0, (none, 56), (0, 0)), (23, (some 0, 0), (0, 63)), (24, (some 0, 0), (0, 63))]
def emMi_G : List sP0 := [(28, (some 3, 0), ((-1000000000000), 1000000000000)), (28, (some 4, 0), ((-1000000000000), 1000000000000))]
def emMi_B : List (Nat × Nat × Int) := []
def emMi_m : sM := [(0, 56, 57)]
def emMi_r0 : sXr := (some (.inr (.inr sf64)), sA0, [], ([(0, (none, 56), ([], 1))], [(0, ([], 0))], [], [([(5, 1), (6, (-1))], (-1000000000001))]), [], [])
def emMi_r1 : sXr := (some (.inr (.inr sf64)), sA0, [], ([(0, (none, 56), ([], 0))], [(0, ([(5, 1), (6, (-1))], 0))], [], [([(5, (-1)), (6, 1)], 1000000000000), ([(5, 1), (6, (-1))], 1000000000000)]), [], [])
def emMi_r2 : sXr := (some (.inr (.inr sf64)), sA0, [], ([(0, (none, 56), ([], 1))], [(0, ([], 0))], [], [([(5, (-1)), (6, 1)], 1000000000000), ([(5, (-1)), (6, 1)], (-1000000000001))]), [], [])
theorem emMi_b : syfB swM sT0 emMi_m 400 1 241 emMi_L emMi_A emMi_P emMi_G emMi_B [] [emMi_r0, emMi_r1, emMi_r2] = true := by decide +kernel
theorem emMi {l : Launch} {Γ : zG} {d : Nat} (hd : 1 ≤ d) {Kp : Option Value → zH → Prop} {h : zH} {rr pa po va vb : Int} (hi : sInv swM h) (b_rr : 0 ≤ rr ∧ rr ≤ 63) (b_pa : 0 ≤ pa ∧ pa ≤ 63) (b_po : 0 ≤ po ∧ po ≤ 63) (b_va : (-1000000000000) ≤ va ∧ va ≤ 1000000000000) (b_vb : (-1000000000000) ≤ vb ∧ vb ≤ 1000000000000) {x_rr : Int32} (e_rr : x_rr.toInt = rr) (p_kn : pI h 22 (rr + 0).toNat = 12) (p_er : pI h 0 56 = 0) (p_pa : pI h 23 (rr + 0).toNat = pa) (p_po : pI h 24 (rr + 0).toNat = po) (p_va : pL h 28 (pa + 0).toNat = va) (p_vb : pL h 28 (po + 0).toNat = vb)
    (hR0 : ∀ (h' : zH) (r_ : Int64), sInv swM h' → sMd emMi_m h h' → 0 ≤ va - vb - 1000000000001 → pI h' 0 56 = 1 → r_.toInt = 0 → Kp (some (.long r_)) h')
    (hR1 : ∀ (h' : zH) (r_ : Int64), sInv swM h' → sMd emMi_m h h' → 0 ≤ -va + vb + 1000000000000 → 0 ≤ va - vb + 1000000000000 → pI h' 0 56 = 0 → r_.toInt = va - vb → Kp (some (.long r_)) h')
    (hR2 : ∀ (h' : zH) (r_ : Int64), sInv swM h' → sMd emMi_m h h' → 0 ≤ -va + vb + 1000000000000 → 0 ≤ -va + vb - 1000000000001 → pI h' 0 56 = 1 → r_.toInt = 0 → Kp (some (.long r_)) h') : zSem l Γ false (d + 1) (zhd 241) [.ref 0, .int x_rr] h Kp := by
  refine syf_ok (mi := 241) (fun i => [rr, 12, 0, pa, po, va, vb].getD i 0) emMi_b (fun _ _ hc _ => nomatch hc) hd ⟨_, _, rfl, rfl, ⟨_, _, rfl, ⟨x_rr, rfl, by show 0 ≤ x_rr.toInt; omega, by show x_rr.toInt ≤ 63; omega⟩, rfl⟩⟩ ⟨rfl, ⟨x_rr, rfl, e_rr, by show 0 ≤ rr; omega, by show rr ≤ 63; omega⟩, trivial⟩ ⟨(fun _ hc => nomatch hc), (fun _ hc => nomatch hc), (fun _ hc => nomatch hc), Or.inl rfl⟩ ⟨⟨p_kn, by show 12 ≤ 12; omega, by show 12 ≤ 12; omega⟩, ⟨p_er, by show 0 ≤ 0; omega, by show 0 ≤ 0; omega⟩, ⟨p_pa, by show 0 ≤ pa; omega, by show pa ≤ 63; omega⟩, ⟨p_po, by show 0 ≤ po; omega, by show po ≤ 63; omega⟩, trivial⟩ ⟨⟨p_va, by show (-1000000000000) ≤ va; omega, by show va ≤ 1000000000000; omega⟩, ⟨p_vb, by show (-1000000000000) ≤ vb; omega, by show vb ≤ 1000000000000; omega⟩, trivial⟩ (fun _ hc => nomatch hc) hi ?_ ?_
  · intro e he lo' st' h' hp hi' hm
    cases he
  · intro e he r' h' hp hi' hm
    rcases List.mem_cons.mp he with rfl | he
    · obtain ⟨p1, -, hz⟩ := hp
      obtain ⟨⟨z1, z2, z3, z4⟩, z5, z6⟩ := hz
      have c0 : 0 ≤ va - vb - 1000000000001 := by have q_ : (0 : Int) ≤ (1 * va + ((-1) * vb + 0)) + (-1000000000001) := z4 ([(5, 1), (6, (-1))], (-1000000000001)) (List.mem_of_getElem? (i := 0) rfl); omega
      have k0 : pI h' 0 56 = 1 := (show pI h' 0 56 = 0 + 1 from z1 (0, (none, 56), ([], 1)) (List.mem_of_getElem? (i := 0) rfl)).trans (by omega)
      obtain ⟨r_, rfl, hv⟩ := ansJ p1 (z2 (0, ([], 0)) (List.mem_of_getElem? (i := 0) rfl))
      have s0 : r_.toInt = 0 := (show r_.toInt = 0 + 0 from hv).trans (by omega)
      exact hR0 h' r_ hi' hm c0 k0 s0
    rcases List.mem_cons.mp he with rfl | he
    · obtain ⟨p1, -, hz⟩ := hp
      obtain ⟨⟨z1, z2, z3, z4⟩, z5, z6⟩ := hz
      have c0 : 0 ≤ -va + vb + 1000000000000 := by have q_ : (0 : Int) ≤ ((-1) * va + (1 * vb + 0)) + 1000000000000 := z4 ([(5, (-1)), (6, 1)], 1000000000000) (List.mem_of_getElem? (i := 0) rfl); omega
      have c1 : 0 ≤ va - vb + 1000000000000 := by have q_ : (0 : Int) ≤ (1 * va + ((-1) * vb + 0)) + 1000000000000 := z4 ([(5, 1), (6, (-1))], 1000000000000) (List.mem_of_getElem? (i := 1) rfl); omega
      have k0 : pI h' 0 56 = 0 := (show pI h' 0 56 = 0 + 0 from z1 (0, (none, 56), ([], 0)) (List.mem_of_getElem? (i := 0) rfl)).trans (by omega)
      obtain ⟨r_, rfl, hv⟩ := ansJ p1 (z2 (0, ([(5, 1), (6, (-1))], 0)) (List.mem_of_getElem? (i := 0) rfl))
      have s0 : r_.toInt = va - vb := (show r_.toInt = (1 * va + ((-1) * vb + 0)) + 0 from hv).trans (by omega)
      exact hR1 h' r_ hi' hm c0 c1 k0 s0
    rcases List.mem_cons.mp he with rfl | he
    · obtain ⟨p1, -, hz⟩ := hp
      obtain ⟨⟨z1, z2, z3, z4⟩, z5, z6⟩ := hz
      have c0 : 0 ≤ -va + vb + 1000000000000 := by have q_ : (0 : Int) ≤ ((-1) * va + (1 * vb + 0)) + 1000000000000 := z4 ([(5, (-1)), (6, 1)], 1000000000000) (List.mem_of_getElem? (i := 0) rfl); omega
      have c1 : 0 ≤ -va + vb - 1000000000001 := by have q_ : (0 : Int) ≤ ((-1) * va + (1 * vb + 0)) + (-1000000000001) := z4 ([(5, (-1)), (6, 1)], (-1000000000001)) (List.mem_of_getElem? (i := 1) rfl); omega
      have k0 : pI h' 0 56 = 1 := (show pI h' 0 56 = 0 + 1 from z1 (0, (none, 56), ([], 1)) (List.mem_of_getElem? (i := 0) rfl)).trans (by omega)
      obtain ⟨r_, rfl, hv⟩ := ansJ p1 (z2 (0, ([], 0)) (List.mem_of_getElem? (i := 0) rfl))
      have s0 : r_.toInt = 0 := (show r_.toInt = 0 + 0 from hv).trans (by omega)
      exact hR2 h' r_ hi' hm c0 c1 k0 s0
    cases he
def emTi_L : List sT := [.inr (.inl 0), .inl (0, 63)]
def emTi_A : sAs := ([], [], [], [])
def emTi_P : List sP0 := [(22, (some 0, 0), (13, 13)), (0, (none, 56), (0, 0)), (23, (some 0, 0), (0, 63)), (24, (some 0, 0), (0, 63))]
def emTi_G : List sP0 := [(28, (some 3, 0), ((-1000000000000), 1000000000000)), (28, (some 4, 0), ((-1000000000000), 1000000000000))]
def emTi_B : List (Nat × Nat × Int) := []
def emTi_m : sM := [(0, 56, 57)]
def emTi_r0 : sXr := (some (.inr (.inr sf64)), sA0, [(0, 16, ([(5, 1)], 0), ([(6, 1)], 0))], ([(0, (none, 56), ([], 0))], [(0, ([(7, 1)], 0))], [], [([(5, 1)], 0), ([(5, (-1))], 0)]), [], [])
def emTi_r1 : sXr := (some (.inr (.inr sf64)), sA0, [(0, 16, ([(5, 1)], 0), ([(6, 1)], 0))], ([(0, (none, 56), ([], 0))], [(0, ([(7, 1)], 0))], [], [([(5, (-1))], (-1)), ([(6, 1)], 0), ([(6, (-1))], 0)]), [], [])
def emTi_r2 : sXr := (some (.inr (.inr sf64)), sA0, [(0, 16, ([(5, 1)], 0), ([(6, 1)], 0)), (0, 20, ([], 0), ([(6, 1)], 0)), (0, 20, ([], 0), ([(5, 1)], 0)), (0, 17, ([], 1000000000000), ([(9, 1)], 0))], ([(0, (none, 56), ([], 0))], [(0, ([(7, 1)], 0))], [], [([(5, (-1))], (-1)), ([(6, (-1))], (-1)), ([(8, (-1)), (10, 1)], 0)]), [], [])
def emTi_r3 : sXr := (some (.inr (.inr sf64)), sA0, [(0, 20, ([], 0), ([(6, 1)], 0)), (0, 20, ([], 0), ([(5, 1)], 0)), (0, 17, ([], 1000000000000), ([(8, 1)], 0))], ([(0, (none, 56), ([], 1))], [(0, ([], 0))], [], [([(5, (-1))], (-1)), ([(6, (-1))], (-1)), ([(7, 1), (9, (-1))], (-1))]), [], [])
def emTi_r4 : sXr := (some (.inr (.inr sf64)), sA0, [(0, 16, ([(5, 1)], 0), ([(6, 1)], 0)), (0, 20, ([], 0), ([(5, 1)], 0)), (0, 17, ([], 1000000000000), ([(8, 1)], 0))], ([(0, (none, 56), ([], 0))], [(0, ([(7, 1)], 0))], [], [([(5, (-1))], (-1)), ([(6, 1)], (-1)), ([(6, (-1)), (9, 1)], 0)]), [], [])
def emTi_r5 : sXr := (some (.inr (.inr sf64)), sA0, [(0, 20, ([], 0), ([(5, 1)], 0)), (0, 17, ([], 1000000000000), ([(7, 1)], 0))], ([(0, (none, 56), ([], 1))], [(0, ([], 0))], [], [([(5, (-1))], (-1)), ([(6, 1)], (-1)), ([(6, 1), (8, (-1))], (-1))]), [], [])
def emTi_r6 : sXr := (some (.inr (.inr sf64)), sA0, [], ([(0, (none, 56), ([], 0))], [(0, ([], 0))], [], [([(5, 1)], (-1)), ([(6, 1)], 0), ([(6, (-1))], 0)]), [], [])
def emTi_r7 : sXr := (some (.inr (.inr sf64)), sA0, [(0, 16, ([(5, 1)], 0), ([(6, 1)], 0)), (0, 20, ([], 0), ([(6, 1)], 0)), (0, 17, ([], 1000000000000), ([(5, 1)], 0))], ([(0, (none, 56), ([], 0))], [(0, ([(7, 1)], 0))], [], [([(5, 1)], (-1)), ([(6, (-1))], (-1)), ([(8, (-1)), (9, 1)], 0)]), [], [])
def emTi_r8 : sXr := (some (.inr (.inr sf64)), sA0, [(0, 20, ([], 0), ([(6, 1)], 0)), (0, 17, ([], 1000000000000), ([(5, 1)], 0))], ([(0, (none, 56), ([], 1))], [(0, ([], 0))], [], [([(5, 1)], (-1)), ([(6, (-1))], (-1)), ([(7, 1), (8, (-1))], (-1))]), [], [])
def emTi_r9 : sXr := (some (.inr (.inr sf64)), sA0, [(0, 16, ([(5, 1)], 0), ([(6, 1)], 0)), (0, 17, ([], 1000000000000), ([(5, 1)], 0))], ([(0, (none, 56), ([], 0))], [(0, ([(7, 1)], 0))], [], [([(5, 1)], (-1)), ([(6, 1)], (-1)), ([(6, (-1)), (8, 1)], 0)]), [], [])
def emTi_r10 : sXr := (some (.inr (.inr sf64)), sA0, [(0, 17, ([], 1000000000000), ([(5, 1)], 0))], ([(0, (none, 56), ([], 1))], [(0, ([], 0))], [], [([(5, 1)], (-1)), ([(6, 1)], (-1)), ([(6, 1), (7, (-1))], (-1))]), [], [])
theorem emTi_b : syfB swM sT0 emTi_m 400 1 241 emTi_L emTi_A emTi_P emTi_G emTi_B [] [emTi_r0, emTi_r1, emTi_r2, emTi_r3, emTi_r4, emTi_r5, emTi_r6, emTi_r7, emTi_r8, emTi_r9, emTi_r10] = true := by decide +kernel
theorem emTi {l : Launch} {Γ : zG} {d : Nat} (hd : 1 ≤ d) {Kp : Option Value → zH → Prop} {h : zH} {rr pa po va vb : Int} (hi : sInv swM h) (b_rr : 0 ≤ rr ∧ rr ≤ 63) (b_pa : 0 ≤ pa ∧ pa ≤ 63) (b_po : 0 ≤ po ∧ po ≤ 63) (b_va : (-1000000000000) ≤ va ∧ va ≤ 1000000000000) (b_vb : (-1000000000000) ≤ vb ∧ vb ≤ 1000000000000) {x_rr : Int32} (e_rr : x_rr.toInt = rr) (p_kn : pI h 22 (rr + 0).toNat = 13) (p_er : pI h 0 56 = 0) (p_pa : pI h 23 (rr + 0).toNat = pa) (p_po : pI h 24 (rr + 0).toNat = po) (p_va : pL h 28 (pa + 0).toNat = va) (p_vb : pL h 28 (po + 0).toNat = vb)
    (hR0 : ∀ (h' : zH) (w0 : Int) (r_ : Int64), sInv swM h' → sMd emTi_m h h' → w0 = sgfn 16 va vb → va = 0 → pI h' 0 56 = 0 → r_.toInt = w0 → Kp (some (.long r_)) h')
    (hR1 : ∀ (h' : zH) (w0 : Int) (r_ : Int64), sInv swM h' → sMd emTi_m h h' → w0 = sgfn 16 va vb → 0 ≤ -va - 1 → vb = 0 → pI h' 0 56 = 0 → r_.toInt = w0 → Kp (some (.long r_)) h')
    (hR2 : ∀ (h' : zH) (w0 w1 w2 w3 : Int) (r_ : Int64), sInv swM h' → sMd emTi_m h h' → w0 = sgfn 16 va vb → w1 = sgfn 20 0 vb → w2 = sgfn 20 0 va → w3 = sgfn 17 1000000000000 w2 → 0 ≤ -va - 1 → 0 ≤ -vb - 1 → 0 ≤ -w1 + w3 → pI h' 0 56 = 0 → r_.toInt = w0 → Kp (some (.long r_)) h')
    (hR3 : ∀ (h' : zH) (w0 w1 w2 : Int) (r_ : Int64), sInv swM h' → sMd emTi_m h h' → w0 = sgfn 20 0 vb → w1 = sgfn 20 0 va → w2 = sgfn 17 1000000000000 w1 → 0 ≤ -va - 1 → 0 ≤ -vb - 1 → 0 ≤ w0 - w2 - 1 → pI h' 0 56 = 1 → r_.toInt = 0 → Kp (some (.long r_)) h')
    (hR4 : ∀ (h' : zH) (w0 w1 w2 : Int) (r_ : Int64), sInv swM h' → sMd emTi_m h h' → w0 = sgfn 16 va vb → w1 = sgfn 20 0 va → w2 = sgfn 17 1000000000000 w1 → 0 ≤ -va - 1 → 0 ≤ vb - 1 → 0 ≤ -vb + w2 → pI h' 0 56 = 0 → r_.toInt = w0 → Kp (some (.long r_)) h')
    (hR5 : ∀ (h' : zH) (w0 w1 : Int) (r_ : Int64), sInv swM h' → sMd emTi_m h h' → w0 = sgfn 20 0 va → w1 = sgfn 17 1000000000000 w0 → 0 ≤ -va - 1 → 0 ≤ vb - 1 → 0 ≤ vb - w1 - 1 → pI h' 0 56 = 1 → r_.toInt = 0 → Kp (some (.long r_)) h')
    (hR6 : ∀ (h' : zH) (r_ : Int64), sInv swM h' → sMd emTi_m h h' → 0 ≤ va - 1 → vb = 0 → pI h' 0 56 = 0 → r_.toInt = 0 → Kp (some (.long r_)) h')
    (hR7 : ∀ (h' : zH) (w0 w1 w2 : Int) (r_ : Int64), sInv swM h' → sMd emTi_m h h' → w0 = sgfn 16 va vb → w1 = sgfn 20 0 vb → w2 = sgfn 17 1000000000000 va → 0 ≤ va - 1 → 0 ≤ -vb - 1 → 0 ≤ -w1 + w2 → pI h' 0 56 = 0 → r_.toInt = w0 → Kp (some (.long r_)) h')
    (hR8 : ∀ (h' : zH) (w0 w1 : Int) (r_ : Int64), sInv swM h' → sMd emTi_m h h' → w0 = sgfn 20 0 vb → w1 = sgfn 17 1000000000000 va → 0 ≤ va - 1 → 0 ≤ -vb - 1 → 0 ≤ w0 - w1 - 1 → pI h' 0 56 = 1 → r_.toInt = 0 → Kp (some (.long r_)) h')
    (hR9 : ∀ (h' : zH) (w0 w1 : Int) (r_ : Int64), sInv swM h' → sMd emTi_m h h' → w0 = sgfn 16 va vb → w1 = sgfn 17 1000000000000 va → 0 ≤ va - 1 → 0 ≤ vb - 1 → 0 ≤ -vb + w1 → pI h' 0 56 = 0 → r_.toInt = w0 → Kp (some (.long r_)) h')
    (hR10 : ∀ (h' : zH) (w0 : Int) (r_ : Int64), sInv swM h' → sMd emTi_m h h' → w0 = sgfn 17 1000000000000 va → 0 ≤ va - 1 → 0 ≤ vb - 1 → 0 ≤ vb - w0 - 1 → pI h' 0 56 = 1 → r_.toInt = 0 → Kp (some (.long r_)) h') : zSem l Γ false (d + 1) (zhd 241) [.ref 0, .int x_rr] h Kp := by
  refine syf_ok (mi := 241) (fun i => [rr, 13, 0, pa, po, va, vb].getD i 0) emTi_b (fun _ _ hc _ => nomatch hc) hd ⟨_, _, rfl, rfl, ⟨_, _, rfl, ⟨x_rr, rfl, by show 0 ≤ x_rr.toInt; omega, by show x_rr.toInt ≤ 63; omega⟩, rfl⟩⟩ ⟨rfl, ⟨x_rr, rfl, e_rr, by show 0 ≤ rr; omega, by show rr ≤ 63; omega⟩, trivial⟩ ⟨(fun _ hc => nomatch hc), (fun _ hc => nomatch hc), (fun _ hc => nomatch hc), Or.inl rfl⟩ ⟨⟨p_kn, by show 13 ≤ 13; omega, by show 13 ≤ 13; omega⟩, ⟨p_er, by show 0 ≤ 0; omega, by show 0 ≤ 0; omega⟩, ⟨p_pa, by show 0 ≤ pa; omega, by show pa ≤ 63; omega⟩, ⟨p_po, by show 0 ≤ po; omega, by show po ≤ 63; omega⟩, trivial⟩ ⟨⟨p_va, by show (-1000000000000) ≤ va; omega, by show va ≤ 1000000000000; omega⟩, ⟨p_vb, by show (-1000000000000) ≤ vb; omega, by show vb ≤ 1000000000000; omega⟩, trivial⟩ (fun _ hc => nomatch hc) hi ?_ ?_
  · intro e he lo' st' h' hp hi' hm
    cases he
  · intro e he r' h' hp hi' hm
    rcases List.mem_cons.mp he with rfl | he
    · obtain ⟨p1, -, hz⟩ := hp
      obtain ⟨w0, f0, hz⟩ := hz
      obtain ⟨⟨z1, z2, z3, z4⟩, z5, z6⟩ := hz
      have g0 : w0 = sgfn 16 va vb := (show w0 = sgfn 16 ((1 * va + 0) + 0) ((1 * vb + 0) + 0) from f0).trans (sgfn_c (by omega) (by omega))
      have c0 : va = 0 := by have q_ : (0 : Int) ≤ (1 * va + 0) + 0 := z4 ([(5, 1)], 0) (List.mem_of_getElem? (i := 0) rfl); have q2_ : (0 : Int) ≤ ((-1) * va + 0) + 0 := z4 ([(5, (-1))], 0) (List.mem_of_getElem? (i := 1) rfl); omega
      have k0 : pI h' 0 56 = 0 := (show pI h' 0 56 = 0 + 0 from z1 (0, (none, 56), ([], 0)) (List.mem_of_getElem? (i := 0) rfl)).trans (by omega)
      obtain ⟨r_, rfl, hv⟩ := ansJ p1 (z2 (0, ([(7, 1)], 0)) (List.mem_of_getElem? (i := 0) rfl))
      have s0 : r_.toInt = w0 := (show r_.toInt = (1 * w0 + 0) + 0 from hv).trans (by omega)
      exact hR0 h' w0 r_ hi' hm g0 c0 k0 s0
    rcases List.mem_cons.mp he with rfl | he
    · obtain ⟨p1, -, hz⟩ := hp
      obtain ⟨w0, f0, hz⟩ := hz
      obtain ⟨⟨z1, z2, z3, z4⟩, z5, z6⟩ := hz
      have g0 : w0 = sgfn 16 va vb := (show w0 = sgfn 16 ((1 * va + 0) + 0) ((1 * vb + 0) + 0) from f0).trans (sgfn_c (by omega) (by omega))
      have c0 : 0 ≤ -va - 1 := by have q_ : (0 : Int) ≤ ((-1) * va + 0) + (-1) := z4 ([(5, (-1))], (-1)) (List.mem_of_getElem? (i := 0) rfl); omega
      have c1 : vb = 0 := by have q_ : (0 : Int) ≤ (1 * vb + 0) + 0 := z4 ([(6, 1)], 0) (List.mem_of_getElem? (i := 1) rfl); have q2_ : (0 : Int) ≤ ((-1) * vb + 0) + 0 := z4 ([(6, (-1))], 0) (List.mem_of_getElem? (i := 2) rfl); omega
      have k0 : pI h' 0 56 = 0 := (show pI h' 0 56 = 0 + 0 from z1 (0, (none, 56), ([], 0)) (List.mem_of_getElem? (i := 0) rfl)).trans (by omega)
      obtain ⟨r_, rfl, hv⟩ := ansJ p1 (z2 (0, ([(7, 1)], 0)) (List.mem_of_getElem? (i := 0) rfl))
      have s0 : r_.toInt = w0 := (show r_.toInt = (1 * w0 + 0) + 0 from hv).trans (by omega)
      exact hR1 h' w0 r_ hi' hm g0 c0 c1 k0 s0
    rcases List.mem_cons.mp he with rfl | he
    · obtain ⟨p1, -, hz⟩ := hp
      obtain ⟨w0, f0, hz⟩ := hz
      obtain ⟨w1, f1, hz⟩ := hz
      obtain ⟨w2, f2, hz⟩ := hz
      obtain ⟨w3, f3, hz⟩ := hz
      obtain ⟨⟨z1, z2, z3, z4⟩, z5, z6⟩ := hz
      have g0 : w0 = sgfn 16 va vb := (show w0 = sgfn 16 ((1 * va + 0) + 0) ((1 * vb + 0) + 0) from f0).trans (sgfn_c (by omega) (by omega))
      have g1 : w1 = sgfn 20 0 vb := (show w1 = sgfn 20 (0 + 0) ((1 * vb + 0) + 0) from f1).trans (sgfn_c (by omega) (by omega))
      have g2 : w2 = sgfn 20 0 va := (show w2 = sgfn 20 (0 + 0) ((1 * va + 0) + 0) from f2).trans (sgfn_c (by omega) (by omega))
      have g3 : w3 = sgfn 17 1000000000000 w2 := (show w3 = sgfn 17 (0 + 1000000000000) ((1 * w2 + 0) + 0) from f3).trans (sgfn_c (by omega) (by omega))
      have c0 : 0 ≤ -va - 1 := by have q_ : (0 : Int) ≤ ((-1) * va + 0) + (-1) := z4 ([(5, (-1))], (-1)) (List.mem_of_getElem? (i := 0) rfl); omega
      have c1 : 0 ≤ -vb - 1 := by have q_ : (0 : Int) ≤ ((-1) * vb + 0) + (-1) := z4 ([(6, (-1))], (-1)) (List.mem_of_getElem? (i := 1) rfl); omega
      have c2 : 0 ≤ -w1 + w3 := by have q_ : (0 : Int) ≤ ((-1) * w1 + (1 * w3 + 0)) + 0 := z4 ([(8, (-1)), (10, 1)], 0) (List.mem_of_getElem? (i := 2) rfl); omega
      have k0 : pI h' 0 56 = 0 := (show pI h' 0 56 = 0 + 0 from z1 (0, (none, 56), ([], 0)) (List.mem_of_getElem? (i := 0) rfl)).trans (by omega)
      obtain ⟨r_, rfl, hv⟩ := ansJ p1 (z2 (0, ([(7, 1)], 0)) (List.mem_of_getElem? (i := 0) rfl))
      have s0 : r_.toInt = w0 := (show r_.toInt = (1 * w0 + 0) + 0 from hv).trans (by omega)
      exact hR2 h' w0 w1 w2 w3 r_ hi' hm g0 g1 g2 g3 c0 c1 c2 k0 s0
    rcases List.mem_cons.mp he with rfl | he
    · obtain ⟨p1, -, hz⟩ := hp
      obtain ⟨w0, f0, hz⟩ := hz
      obtain ⟨w1, f1, hz⟩ := hz
      obtain ⟨w2, f2, hz⟩ := hz
      obtain ⟨⟨z1, z2, z3, z4⟩, z5, z6⟩ := hz
      have g0 : w0 = sgfn 20 0 vb := (show w0 = sgfn 20 (0 + 0) ((1 * vb + 0) + 0) from f0).trans (sgfn_c (by omega) (by omega))
      have g1 : w1 = sgfn 20 0 va := (show w1 = sgfn 20 (0 + 0) ((1 * va + 0) + 0) from f1).trans (sgfn_c (by omega) (by omega))
      have g2 : w2 = sgfn 17 1000000000000 w1 := (show w2 = sgfn 17 (0 + 1000000000000) ((1 * w1 + 0) + 0) from f2).trans (sgfn_c (by omega) (by omega))
      have c0 : 0 ≤ -va - 1 := by have q_ : (0 : Int) ≤ ((-1) * va + 0) + (-1) := z4 ([(5, (-1))], (-1)) (List.mem_of_getElem? (i := 0) rfl); omega
      have c1 : 0 ≤ -vb - 1 := by have q_ : (0 : Int) ≤ ((-1) * vb + 0) + (-1) := z4 ([(6, (-1))], (-1)) (List.mem_of_getElem? (i := 1) rfl); omega
      have c2 : 0 ≤ w0 - w2 - 1 := by have q_ : (0 : Int) ≤ (1 * w0 + ((-1) * w2 + 0)) + (-1) := z4 ([(7, 1), (9, (-1))], (-1)) (List.mem_of_getElem? (i := 2) rfl); omega
      have k0 : pI h' 0 56 = 1 := (show pI h' 0 56 = 0 + 1 from z1 (0, (none, 56), ([], 1)) (List.mem_of_getElem? (i := 0) rfl)).trans (by omega)
      obtain ⟨r_, rfl, hv⟩ := ansJ p1 (z2 (0, ([], 0)) (List.mem_of_getElem? (i := 0) rfl))
      have s0 : r_.toInt = 0 := (show r_.toInt = 0 + 0 from hv).trans (by omega)
      exact hR3 h' w0 w1 w2 r_ hi' hm g0 g1 g2 c0 c1 c2 k0 s0
    rcases List.mem_cons.mp he with rfl | he
    · obtain ⟨p1, -, hz⟩ := hp
      obtain ⟨w0, f0, hz⟩ := hz
      obtain ⟨w1, f1, hz⟩ := hz
      obtain ⟨w2, f2, hz⟩ := hz
      obtain ⟨⟨z1, z2, z3, z4⟩, z5, z6⟩ := hz
      have g0 : w0 = sgfn 16 va vb := (show w0 = sgfn 16 ((1 * va + 0) + 0) ((1 * vb + 0) + 0) from f0).trans (sgfn_c (by omega) (by omega))
      have g1 : w1 = sgfn 20 0 va := (show w1 = sgfn 20 (0 + 0) ((1 * va + 0) + 0) from f1).trans (sgfn_c (by omega) (by omega))
      have g2 : w2 = sgfn 17 1000000000000 w1 := (show w2 = sgfn 17 (0 + 1000000000000) ((1 * w1 + 0) + 0) from f2).trans (sgfn_c (by omega) (by omega))
      have c0 : 0 ≤ -va - 1 := by have q_ : (0 : Int) ≤ ((-1) * va + 0) + (-1) := z4 ([(5, (-1))], (-1)) (List.mem_of_getElem? (i := 0) rfl); omega
      have c1 : 0 ≤ vb - 1 := by have q_ : (0 : Int) ≤ (1 * vb + 0) + (-1) := z4 ([(6, 1)], (-1)) (List.mem_of_getElem? (i := 1) rfl); omega
      have c2 : 0 ≤ -vb + w2 := by have q_ : (0 : Int) ≤ ((-1) * vb + (1 * w2 + 0)) + 0 := z4 ([(6, (-1)), (9, 1)], 0) (List.mem_of_getElem? (i := 2) rfl); omega
      have k0 : pI h' 0 56 = 0 := (show pI h' 0 56 = 0 + 0 from z1 (0, (none, 56), ([], 0)) (List.mem_of_getElem? (i := 0) rfl)).trans (by omega)
      obtain ⟨r_, rfl, hv⟩ := ansJ p1 (z2 (0, ([(7, 1)], 0)) (List.mem_of_getElem? (i := 0) rfl))
      have s0 : r_.toInt = w0 := (show r_.toInt = (1 * w0 + 0) + 0 from hv).trans (by omega)
      exact hR4 h' w0 w1 w2 r_ hi' hm g0 g1 g2 c0 c1 c2 k0 s0
    rcases List.mem_cons.mp he with rfl | he
    · obtain ⟨p1, -, hz⟩ := hp
      obtain ⟨w0, f0, hz⟩ := hz
      obtain ⟨w1, f1, hz⟩ := hz
      obtain ⟨⟨z1, z2, z3, z4⟩, z5, z6⟩ := hz
      have g0 : w0 = sgfn 20 0 va := (show w0 = sgfn 20 (0 + 0) ((1 * va + 0) + 0) from f0).trans (sgfn_c (by omega) (by omega))
      have g1 : w1 = sgfn 17 1000000000000 w0 := (show w1 = sgfn 17 (0 + 1000000000000) ((1 * w0 + 0) + 0) from f1).trans (sgfn_c (by omega) (by omega))
      have c0 : 0 ≤ -va - 1 := by have q_ : (0 : Int) ≤ ((-1) * va + 0) + (-1) := z4 ([(5, (-1))], (-1)) (List.mem_of_getElem? (i := 0) rfl); omega
      have c1 : 0 ≤ vb - 1 := by have q_ : (0 : Int) ≤ (1 * vb + 0) + (-1) := z4 ([(6, 1)], (-1)) (List.mem_of_getElem? (i := 1) rfl); omega
      have c2 : 0 ≤ vb - w1 - 1 := by have q_ : (0 : Int) ≤ (1 * vb + ((-1) * w1 + 0)) + (-1) := z4 ([(6, 1), (8, (-1))], (-1)) (List.mem_of_getElem? (i := 2) rfl); omega
      have k0 : pI h' 0 56 = 1 := (show pI h' 0 56 = 0 + 1 from z1 (0, (none, 56), ([], 1)) (List.mem_of_getElem? (i := 0) rfl)).trans (by omega)
      obtain ⟨r_, rfl, hv⟩ := ansJ p1 (z2 (0, ([], 0)) (List.mem_of_getElem? (i := 0) rfl))
      have s0 : r_.toInt = 0 := (show r_.toInt = 0 + 0 from hv).trans (by omega)
      exact hR5 h' w0 w1 r_ hi' hm g0 g1 c0 c1 c2 k0 s0
    rcases List.mem_cons.mp he with rfl | he
    · obtain ⟨p1, -, hz⟩ := hp
      obtain ⟨⟨z1, z2, z3, z4⟩, z5, z6⟩ := hz
      have c0 : 0 ≤ va - 1 := by have q_ : (0 : Int) ≤ (1 * va + 0) + (-1) := z4 ([(5, 1)], (-1)) (List.mem_of_getElem? (i := 0) rfl); omega
      have c1 : vb = 0 := by have q_ : (0 : Int) ≤ (1 * vb + 0) + 0 := z4 ([(6, 1)], 0) (List.mem_of_getElem? (i := 1) rfl); have q2_ : (0 : Int) ≤ ((-1) * vb + 0) + 0 := z4 ([(6, (-1))], 0) (List.mem_of_getElem? (i := 2) rfl); omega
      have k0 : pI h' 0 56 = 0 := (show pI h' 0 56 = 0 + 0 from z1 (0, (none, 56), ([], 0)) (List.mem_of_getElem? (i := 0) rfl)).trans (by omega)
      obtain ⟨r_, rfl, hv⟩ := ansJ p1 (z2 (0, ([], 0)) (List.mem_of_getElem? (i := 0) rfl))
      have s0 : r_.toInt = 0 := (show r_.toInt = 0 + 0 from hv).trans (by omega)
      exact hR6 h' r_ hi' hm c0 c1 k0 s0
    rcases List.mem_cons.mp he with rfl | he
    · obtain ⟨p1, -, hz⟩ := hp
      obtain ⟨w0, f0, hz⟩ := hz
      obtain ⟨w1, f1, hz⟩ := hz
      obtain ⟨w2, f2, hz⟩ := hz
      obtain ⟨⟨z1, z2, z3, z4⟩, z5, z6⟩ := hz
      have g0 : w0 = sgfn 16 va vb := (show w0 = sgfn 16 ((1 * va + 0) + 0) ((1 * vb + 0) + 0) from f0).trans (sgfn_c (by omega) (by omega))
      have g1 : w1 = sgfn 20 0 vb := (show w1 = sgfn 20 (0 + 0) ((1 * vb + 0) + 0) from f1).trans (sgfn_c (by omega) (by omega))
      have g2 : w2 = sgfn 17 1000000000000 va := (show w2 = sgfn 17 (0 + 1000000000000) ((1 * va + 0) + 0) from f2).trans (sgfn_c (by omega) (by omega))
      have c0 : 0 ≤ va - 1 := by have q_ : (0 : Int) ≤ (1 * va + 0) + (-1) := z4 ([(5, 1)], (-1)) (List.mem_of_getElem? (i := 0) rfl); omega
      have c1 : 0 ≤ -vb - 1 := by have q_ : (0 : Int) ≤ ((-1) * vb + 0) + (-1) := z4 ([(6, (-1))], (-1)) (List.mem_of_getElem? (i := 1) rfl); omega
      have c2 : 0 ≤ -w1 + w2 := by have q_ : (0 : Int) ≤ ((-1) * w1 + (1 * w2 + 0)) + 0 := z4 ([(8, (-1)), (9, 1)], 0) (List.mem_of_getElem? (i := 2) rfl); omega
      have k0 : pI h' 0 56 = 0 := (show pI h' 0 56 = 0 + 0 from z1 (0, (none, 56), ([], 0)) (List.mem_of_getElem? (i := 0) rfl)).trans (by omega)
      obtain ⟨r_, rfl, hv⟩ := ansJ p1 (z2 (0, ([(7, 1)], 0)) (List.mem_of_getElem? (i := 0) rfl))
      have s0 : r_.toInt = w0 := (show r_.toInt = (1 * w0 + 0) + 0 from hv).trans (by omega)
      exact hR7 h' w0 w1 w2 r_ hi' hm g0 g1 g2 c0 c1 c2 k0 s0
    rcases List.mem_cons.mp he with rfl | he
    · obtain ⟨p1, -, hz⟩ := hp
      obtain ⟨w0, f0, hz⟩ := hz
      obtain ⟨w1, f1, hz⟩ := hz
      obtain ⟨⟨z1, z2, z3, z4⟩, z5, z6⟩ := hz
      have g0 : w0 = sgfn 20 0 vb := (show w0 = sgfn 20 (0 + 0) ((1 * vb + 0) + 0) from f0).trans (sgfn_c (by omega) (by omega))
      have g1 : w1 = sgfn 17 1000000000000 va := (show w1 = sgfn 17 (0 + 1000000000000) ((1 * va + 0) + 0) from f1).trans (sgfn_c (by omega) (by omega))
      have c0 : 0 ≤ va - 1 := by have q_ : (0 : Int) ≤ (1 * va + 0) + (-1) := z4 ([(5, 1)], (-1)) (List.mem_of_getElem? (i := 0) rfl); omega
      have c1 : 0 ≤ -vb - 1 := by have q_ : (0 : Int) ≤ ((-1) * vb + 0) + (-1) := z4 ([(6, (-1))], (-1)) (List.mem_of_getElem? (i := 1) rfl); omega
      have c2 : 0 ≤ w0 - w1 - 1 := by have q_ : (0 : Int) ≤ (1 * w0 + ((-1) * w1 + 0)) + (-1) := z4 ([(7, 1), (8, (-1))], (-1)) (List.mem_of_getElem? (i := 2) rfl); omega
      have k0 : pI h' 0 56 = 1 := (show pI h' 0 56 = 0 + 1 from z1 (0, (none, 56), ([], 1)) (List.mem_of_getElem? (i := 0) rfl)).trans (by omega)
      obtain ⟨r_, rfl, hv⟩ := ansJ p1 (z2 (0, ([], 0)) (List.mem_of_getElem? (i := 0) rfl))
      have s0 : r_.toInt = 0 := (show r_.toInt = 0 + 0 from hv).trans (by omega)
      exact hR8 h' w0 w1 r_ hi' hm g0 g1 c0 c1 c2 k0 s0
    rcases List.mem_cons.mp he with rfl | he
    · obtain ⟨p1, -, hz⟩ := hp
      obtain ⟨w0, f0, hz⟩ := hz
      obtain ⟨w1, f1, hz⟩ := hz
      obtain ⟨⟨z1, z2, z3, z4⟩, z5, z6⟩ := hz
      have g0 : w0 = sgfn 16 va vb := (show w0 = sgfn 16 ((1 * va + 0) + 0) ((1 * vb + 0) + 0) from f0).trans (sgfn_c (by omega) (by omega))
      have g1 : w1 = sgfn 17 1000000000000 va := (show w1 = sgfn 17 (0 + 1000000000000) ((1 * va + 0) + 0) from f1).trans (sgfn_c (by omega) (by omega))
      have c0 : 0 ≤ va - 1 := by have q_ : (0 : Int) ≤ (1 * va + 0) + (-1) := z4 ([(5, 1)], (-1)) (List.mem_of_getElem? (i := 0) rfl); omega
      have c1 : 0 ≤ vb - 1 := by have q_ : (0 : Int) ≤ (1 * vb + 0) + (-1) := z4 ([(6, 1)], (-1)) (List.mem_of_getElem? (i := 1) rfl); omega
      have c2 : 0 ≤ -vb + w1 := by have q_ : (0 : Int) ≤ ((-1) * vb + (1 * w1 + 0)) + 0 := z4 ([(6, (-1)), (8, 1)], 0) (List.mem_of_getElem? (i := 2) rfl); omega
      have k0 : pI h' 0 56 = 0 := (show pI h' 0 56 = 0 + 0 from z1 (0, (none, 56), ([], 0)) (List.mem_of_getElem? (i := 0) rfl)).trans (by omega)
      obtain ⟨r_, rfl, hv⟩ := ansJ p1 (z2 (0, ([(7, 1)], 0)) (List.mem_of_getElem? (i := 0) rfl))
      have s0 : r_.toInt = w0 := (show r_.toInt = (1 * w0 + 0) + 0 from hv).trans (by omega)
      exact hR9 h' w0 w1 r_ hi' hm g0 g1 c0 c1 c2 k0 s0
    rcases List.mem_cons.mp he with rfl | he
    · obtain ⟨p1, -, hz⟩ := hp
      obtain ⟨w0, f0, hz⟩ := hz
      obtain ⟨⟨z1, z2, z3, z4⟩, z5, z6⟩ := hz
      have g0 : w0 = sgfn 17 1000000000000 va := (show w0 = sgfn 17 (0 + 1000000000000) ((1 * va + 0) + 0) from f0).trans (sgfn_c (by omega) (by omega))
      have c0 : 0 ≤ va - 1 := by have q_ : (0 : Int) ≤ (1 * va + 0) + (-1) := z4 ([(5, 1)], (-1)) (List.mem_of_getElem? (i := 0) rfl); omega
      have c1 : 0 ≤ vb - 1 := by have q_ : (0 : Int) ≤ (1 * vb + 0) + (-1) := z4 ([(6, 1)], (-1)) (List.mem_of_getElem? (i := 1) rfl); omega
      have c2 : 0 ≤ vb - w0 - 1 := by have q_ : (0 : Int) ≤ (1 * vb + ((-1) * w0 + 0)) + (-1) := z4 ([(6, 1), (7, (-1))], (-1)) (List.mem_of_getElem? (i := 2) rfl); omega
      have k0 : pI h' 0 56 = 1 := (show pI h' 0 56 = 0 + 1 from z1 (0, (none, 56), ([], 1)) (List.mem_of_getElem? (i := 0) rfl)).trans (by omega)
      obtain ⟨r_, rfl, hv⟩ := ansJ p1 (z2 (0, ([], 0)) (List.mem_of_getElem? (i := 0) rfl))
      have s0 : r_.toInt = 0 := (show r_.toInt = 0 + 0 from hv).trans (by omega)
      exact hR10 h' w0 r_ hi' hm g0 c0 c1 c2 k0 s0
    cases he
def emOv_L : List sT := [.inr (.inl 0), .inl (0, 63)]
def emOv_A : sAs := ([], [], [], [])
def emOv_P : List sP0 := [(22, (some 0, 0), (14, 14)), (0, (none, 56), (0, 0)), (23, (some 0, 0), (0, 63)), (24, (some 0, 0), (0, 63))]
def emOv_G : List sP0 := [(28, (some 3, 0), ((-1000000000000), 1000000000000)), (28, (some 4, 0), ((-1000000000000), 1000000000000))]
def emOv_B : List (Nat × Nat × Int) := []
def emOv_m : sM := [(0, 56, 57)]
def emOv_r0 : sXr := (some (.inr (.inr sf64)), sA0, [], ([(0, (none, 56), ([], 1))], [(0, ([], 0))], [], [([(6, 1)], 0), ([(6, (-1))], 0)]), [], [])
def emOv_r1 : sXr := (some (.inr (.inr sf64)), sA0, [(0, 17, ([(5, 1)], 0), ([(6, 1)], 0))], ([(0, (none, 56), ([], 0))], [(0, ([(7, 1)], 0))], [], [([(6, (-1))], (-1))]), [], [])
def emOv_r2 : sXr := (some (.inr (.inr sf64)), sA0, [(0, 17, ([(5, 1)], 0), ([(6, 1)], 0))], ([(0, (none, 56), ([], 0))], [(0, ([(7, 1)], 0))], [], [([(6, 1)], (-1))]), [], [])
theorem emOv_b : syfB swM sT0 emOv_m 400 0 241 emOv_L emOv_A emOv_P emOv_G emOv_B [] [emOv_r0, emOv_r1, emOv_r2] = true := by decide +kernel
theorem emOv {l : Launch} {Γ : zG} {d : Nat} (hd : 0 ≤ d) {Kp : Option Value → zH → Prop} {h : zH} {rr pa po va vb : Int} (hi : sInv swM h) (b_rr : 0 ≤ rr ∧ rr ≤ 63) (b_pa : 0 ≤ pa ∧ pa ≤ 63) (b_po : 0 ≤ po ∧ po ≤ 63) (b_va : (-1000000000000) ≤ va ∧ va ≤ 1000000000000) (b_vb : (-1000000000000) ≤ vb ∧ vb ≤ 1000000000000) {x_rr : Int32} (e_rr : x_rr.toInt = rr) (p_kn : pI h 22 (rr + 0).toNat = 14) (p_er : pI h 0 56 = 0) (p_pa : pI h 23 (rr + 0).toNat = pa) (p_po : pI h 24 (rr + 0).toNat = po) (p_va : pL h 28 (pa + 0).toNat = va) (p_vb : pL h 28 (po + 0).toNat = vb)
    (hR0 : ∀ (h' : zH) (r_ : Int64), sInv swM h' → sMd emOv_m h h' → vb = 0 → pI h' 0 56 = 1 → r_.toInt = 0 → Kp (some (.long r_)) h')
    (hR1 : ∀ (h' : zH) (w0 : Int) (r_ : Int64), sInv swM h' → sMd emOv_m h h' → w0 = sgfn 17 va vb → 0 ≤ -vb - 1 → pI h' 0 56 = 0 → r_.toInt = w0 → Kp (some (.long r_)) h')
    (hR2 : ∀ (h' : zH) (w0 : Int) (r_ : Int64), sInv swM h' → sMd emOv_m h h' → w0 = sgfn 17 va vb → 0 ≤ vb - 1 → pI h' 0 56 = 0 → r_.toInt = w0 → Kp (some (.long r_)) h') : zSem l Γ false (d + 1) (zhd 241) [.ref 0, .int x_rr] h Kp := by
  refine syf_ok (mi := 241) (fun i => [rr, 14, 0, pa, po, va, vb].getD i 0) emOv_b (fun _ _ hc _ => nomatch hc) hd ⟨_, _, rfl, rfl, ⟨_, _, rfl, ⟨x_rr, rfl, by show 0 ≤ x_rr.toInt; omega, by show x_rr.toInt ≤ 63; omega⟩, rfl⟩⟩ ⟨rfl, ⟨x_rr, rfl, e_rr, by show 0 ≤ rr; omega, by show rr ≤ 63; omega⟩, trivial⟩ ⟨(fun _ hc => nomatch hc), (fun _ hc => nomatch hc), (fun _ hc => nomatch hc), Or.inl rfl⟩ ⟨⟨p_kn, by show 14 ≤ 14; omega, by show 14 ≤ 14; omega⟩, ⟨p_er, by show 0 ≤ 0; omega, by show 0 ≤ 0; omega⟩, ⟨p_pa, by show 0 ≤ pa; omega, by show pa ≤ 63; omega⟩, ⟨p_po, by show 0 ≤ po; omega, by show po ≤ 63; omega⟩, trivial⟩ ⟨⟨p_va, by show (-1000000000000) ≤ va; omega, by show va ≤ 1000000000000; omega⟩, ⟨p_vb, by show (-1000000000000) ≤ vb; omega, by show vb ≤ 1000000000000; omega⟩, trivial⟩ (fun _ hc => nomatch hc) hi ?_ ?_
  · intro e he lo' st' h' hp hi' hm
    cases he
  · intro e he r' h' hp hi' hm
    rcases List.mem_cons.mp he with rfl | he
    · obtain ⟨p1, -, hz⟩ := hp
      obtain ⟨⟨z1, z2, z3, z4⟩, z5, z6⟩ := hz
      have c0 : vb = 0 := by have q_ : (0 : Int) ≤ (1 * vb + 0) + 0 := z4 ([(6, 1)], 0) (List.mem_of_getElem? (i := 0) rfl); have q2_ : (0 : Int) ≤ ((-1) * vb + 0) + 0 := z4 ([(6, (-1))], 0) (List.mem_of_getElem? (i := 1) rfl); omega
      have k0 : pI h' 0 56 = 1 := (show pI h' 0 56 = 0 + 1 from z1 (0, (none, 56), ([], 1)) (List.mem_of_getElem? (i := 0) rfl)).trans (by omega)
      obtain ⟨r_, rfl, hv⟩ := ansJ p1 (z2 (0, ([], 0)) (List.mem_of_getElem? (i := 0) rfl))
      have s0 : r_.toInt = 0 := (show r_.toInt = 0 + 0 from hv).trans (by omega)
      exact hR0 h' r_ hi' hm c0 k0 s0
    rcases List.mem_cons.mp he with rfl | he
    · obtain ⟨p1, -, hz⟩ := hp
      obtain ⟨w0, f0, hz⟩ := hz
      obtain ⟨⟨z1, z2, z3, z4⟩, z5, z6⟩ := hz
      have g0 : w0 = sgfn 17 va vb := (show w0 = sgfn 17 ((1 * va + 0) + 0) ((1 * vb + 0) + 0) from f0).trans (sgfn_c (by omega) (by omega))
      have c0 : 0 ≤ -vb - 1 := by have q_ : (0 : Int) ≤ ((-1) * vb + 0) + (-1) := z4 ([(6, (-1))], (-1)) (List.mem_of_getElem? (i := 0) rfl); omega
      have k0 : pI h' 0 56 = 0 := (show pI h' 0 56 = 0 + 0 from z1 (0, (none, 56), ([], 0)) (List.mem_of_getElem? (i := 0) rfl)).trans (by omega)
      obtain ⟨r_, rfl, hv⟩ := ansJ p1 (z2 (0, ([(7, 1)], 0)) (List.mem_of_getElem? (i := 0) rfl))
      have s0 : r_.toInt = w0 := (show r_.toInt = (1 * w0 + 0) + 0 from hv).trans (by omega)
      exact hR1 h' w0 r_ hi' hm g0 c0 k0 s0
    rcases List.mem_cons.mp he with rfl | he
    · obtain ⟨p1, -, hz⟩ := hp
      obtain ⟨w0, f0, hz⟩ := hz
      obtain ⟨⟨z1, z2, z3, z4⟩, z5, z6⟩ := hz
      have g0 : w0 = sgfn 17 va vb := (show w0 = sgfn 17 ((1 * va + 0) + 0) ((1 * vb + 0) + 0) from f0).trans (sgfn_c (by omega) (by omega))
      have c0 : 0 ≤ vb - 1 := by have q_ : (0 : Int) ≤ (1 * vb + 0) + (-1) := z4 ([(6, 1)], (-1)) (List.mem_of_getElem? (i := 0) rfl); omega
      have k0 : pI h' 0 56 = 0 := (show pI h' 0 56 = 0 + 0 from z1 (0, (none, 56), ([], 0)) (List.mem_of_getElem? (i := 0) rfl)).trans (by omega)
      obtain ⟨r_, rfl, hv⟩ := ansJ p1 (z2 (0, ([(7, 1)], 0)) (List.mem_of_getElem? (i := 0) rfl))
      have s0 : r_.toInt = w0 := (show r_.toInt = (1 * w0 + 0) + 0 from hv).trans (by omega)
      exact hR2 h' w0 r_ hi' hm g0 c0 k0 s0
    cases he
def emY_L : List (Nat × sT) := [(0, .inr (.inl 0)), (1, .inl (0, 2)), (2, .inl (0, 63))]
def emY_S : List sT := []
def emY_A : sAs := ([], [], [], [])
def emY_P : List sP0 := [(21, (some 0, 0), (0, 64))]
def emY_G : List sP0 := []
def emY_B : List (Nat × Nat × Int) := [(2, 1, 1)]
def emY_m : sM := []
def emY_e0 : sXe := (29, [.inl sf32, .inr (.inl 0), .inl sf32, .inr (.inl 28)], [(0, .inr (.inl 0)), (1, .inl sf32), (2, .inl sf32)], sA0, [], ([], [(0, ([(1, 1)], 0)), (2, ([(1, 1)], 0))], [(1, ([(0, 1)], 0)), (2, ([(1, 1)], 0))], []), [], [])
theorem emY_b : syeB swM sT0 emY_m 400 0 240 emY_L emY_S emY_A emY_P emY_G emY_B 12 [emY_e0] [] = true := by decide +kernel
theorem emY {l : Launch} {Γ : zG} {d : Nat} (hd : 0 ≤ d) {Kp : Option Value → zH → Prop} {lo : zL} {h : zH} {la rr tt : Int} (hi : sInv swM h) (b_la : 0 ≤ la ∧ la ≤ 2) (b_rr : 0 ≤ rr ∧ rr ≤ 63) (b_tt : 0 ≤ tt ∧ tt ≤ 64) (l0 : zget lo 0 = some (.ref 0)) (l1 : zI lo 1 la) (l2 : zI lo 2 rr) (p_tt : pI h 21 (la + 0).toNat = tt) (d0 : 1 ≤ tt - rr)
    (hE0 : ∀ (lo' : zL) (h' : zH) (y0 : Int32) (y2 : Int32), sInv swM h' → sMd emY_m h h' → zget lo' 0 = some (.ref 0) → zI lo' 1 la → zI lo' 2 rr → y0.toInt = rr → y2.toInt = rr → zX l Γ false (d + 1) (zhd 240) (zMQ' Γ false (zhd 240) Kp) 0 0 29 lo' [.int y0, .ref 0, .int y2, .ref 28] h') : zX l Γ false (d + 1) (zhd 240) (zMQ' Γ false (zhd 240) Kp) 0 0 12 lo [] h := by
  refine sye_ok (mi := 240) (pc := 12) (fun i => [la, rr, tt].getD i 0) emY_b (fun _ _ hc _ => nomatch hc) hd ⟨l0, zIm l1 (by show 0 ≤ la; omega) (by show la ≤ 2; omega), zIm l2 (by show 0 ≤ rr; omega) (by show rr ≤ 63; omega), trivial⟩ rfl ⟨(fun _ hc => nomatch hc), (fun _ hc => nomatch hc), (fun _ hc => nomatch hc), Or.inl rfl⟩ ⟨⟨p_tt, by show 0 ≤ tt; omega, by show tt ≤ 64; omega⟩, trivial⟩ trivial (sfm d0 (fun _ hc => nomatch hc)) hi ?_ ?_
  · intro e he lo' st' h' hp hi' hm
    rcases List.mem_cons.mp he with rfl | he
    · obtain ⟨p1, p2, -, hz⟩ := hp
      obtain ⟨⟨z1, z2, z3, z4⟩, z5, z6⟩ := hz
      have o0 : zget lo' 0 = some (.ref 0) := locR (p2 (0, .inr (.inl 0)) (List.mem_of_getElem? (i := 0) rfl))
      have o1 : zI lo' 1 la := zI_of (p2 (1, .inl sf32) (List.mem_of_getElem? (i := 1) rfl)) (z3 (1, ([(0, 1)], 0)) (List.mem_of_getElem? (i := 0) rfl)) (show (1 * la + 0) + 0 = la from by omega)
      have o2 : zI lo' 2 rr := zI_of (p2 (2, .inl sf32) (List.mem_of_getElem? (i := 2) rfl)) (z3 (2, ([(1, 1)], 0)) (List.mem_of_getElem? (i := 1) rfl)) (show (1 * rr + 0) + 0 = rr from by omega)
      obtain ⟨_, _, rfl, ⟨y0, rfl, -⟩, p1⟩ := p1
      obtain ⟨_, _, rfl, hr, p1⟩ := p1
      have hr : _ = Value.ref 0 := hr
      subst hr
      obtain ⟨_, _, rfl, ⟨y2, rfl, -⟩, p1⟩ := p1
      obtain ⟨_, _, rfl, hr, p1⟩ := p1
      have hr : _ = Value.ref 28 := hr
      subst hr
      have p1 : _ = [] := p1
      subst p1
      obtain ⟨v_, ev, hv⟩ := z2 (0, ([(1, 1)], 0)) (List.mem_of_getElem? (i := 0) rfl)
      cases ev
      have s0 : y0.toInt = rr := (show y0.toInt = (1 * rr + 0) + 0 from hv).trans (by omega)
      obtain ⟨v_, ev, hv⟩ := z2 (2, ([(1, 1)], 0)) (List.mem_of_getElem? (i := 1) rfl)
      cases ev
      have s2 : y2.toInt = rr := (show y2.toInt = (1 * rr + 0) + 0 from hv).trans (by omega)
      exact hE0 lo' h' y0 y2 hi' hm o0 o1 o2 s0 s2
    cases he
  · intro e he r' h' hp hi' hm
    cases he
def emZ_L (r : Nat) : List (Nat × sT) := [(0, .inr (.inl 0)), (1, .inl (0, 2)), (2, .inl ((r : Int), (r : Int)))]
def emZ_S (r : Nat) : List sT := [.inr (.inr sf64), .inl ((r : Int), (r : Int)), .inr (.inl 28)]
def emZ_A (r : Nat) : sAs := ([], [], [], [])
def emZ_P (r : Nat) : List sP0 := []
def emZ_G (r : Nat) : List sP0 := []
def emZ_B (r : Nat) : List (Nat × Nat × Int) := []
def emZ_m (r : Nat) : sM := [(28, r, (r + 1))]
def emZ_e0 (r : Nat) : sXe := (12, [], [(0, .inr (.inl 0)), (1, .inl sf32), (2, .inl sf32)], sA0, [(2, 28, ([], (r : Int)), ([], 0))], ([], [], [(1, ([(0, 1)], 0)), (2, ([], ((r : Int) + 1)))], []), [], [(4, ([(2, 1)], 0))])
theorem emZ_b : ((List.range 64).all fun r => syeB swM sT0 (emZ_m r) 400 0 240 (emZ_L r) (emZ_S r) (emZ_A r) (emZ_P r) (emZ_G r) (emZ_B r) 32 [emZ_e0 r] []) = true := by decide +kernel
theorem emZ {l : Launch} {Γ : zG} {d : Nat} (hd : 0 ≤ d) {Kp : Option Value → zH → Prop} {lo : zL} {h : zH} {r : Nat} (h_r : r < 64) {la vv : Int} (hi : sInv swM h) (b_la : 0 ≤ la ∧ la ≤ 2) (b_vv : (-9223372036854775808) ≤ vv ∧ vv ≤ 9223372036854775807) (l0 : zget lo 0 = some (.ref 0)) (l1 : zI lo 1 la) (l2 : zI lo 2 (r : Int)) {x_vv : Int64} (e_vv : x_vv.toInt = vv) {x_i2 : Int32} (e_i2 : x_i2.toInt = (r : Int))
    (hE0 : ∀ (lo' : zL) (h' : zH) (u0 : Int), sInv swM h' → sMd (emZ_m r) h h' → pL h' 28 r = u0 → u0 = vv → zget lo' 0 = some (.ref 0) → zI lo' 1 la → zI lo' 2 ((r : Int) + 1) → zX l Γ false (d + 1) (zhd 240) (zMQ' Γ false (zhd 240) Kp) 0 0 12 lo' [] h') : zX l Γ false (d + 1) (zhd 240) (zMQ' Γ false (zhd 240) Kp) 0 0 32 lo [.long x_vv, .int x_i2, .ref 28] h := by
  refine sye_ok (mi := 240) (pc := 32) (fun i => [la, (r : Int), vv, (r : Int)].getD i 0) (zall_r emZ_b h_r) (fun _ _ hc _ => nomatch hc) hd ⟨l0, zIm l1 (by show 0 ≤ la; omega) (by show la ≤ 2; omega), zIm l2 (by show (r : Int) ≤ (r : Int); omega) (by show (r : Int) ≤ (r : Int); omega), trivial⟩ ⟨x_vv, _, rfl, e_vv, ⟨by show (-9223372036854775808) ≤ vv; omega, by show vv ≤ 9223372036854775807; omega⟩, ⟨x_i2, _, rfl, e_i2, ⟨by show (r : Int) ≤ (r : Int); omega, by show (r : Int) ≤ (r : Int); omega⟩, ⟨_, rfl, rfl⟩⟩⟩ ⟨(fun _ hc => nomatch hc), (fun _ hc => nomatch hc), (fun _ hc => nomatch hc), Or.inl rfl⟩ trivial trivial (fun _ hc => nomatch hc) hi ?_ ?_
  · intro e he lo' st' h' hp hi' hm
    rcases List.mem_cons.mp he with rfl | he
    · obtain ⟨p1, p2, -, hz⟩ := hp
      obtain ⟨u0, f0, hz⟩ := hz
      obtain ⟨⟨z1, z2, z3, z4⟩, z5, z6⟩ := hz
      have g0 : pL h' 28 r = u0 := by
        rw [← (show ((0 + (r : Int) : Int)).toNat = r from by omega)]
        exact f0
      have j0 : u0 = vv := (show u0 = (1 * vv + 0) + 0 from z6 (4, ([(2, 1)], 0)) (List.mem_of_getElem? (i := 0) rfl)).trans (by omega)
      have o0 : zget lo' 0 = some (.ref 0) := locR (p2 (0, .inr (.inl 0)) (List.mem_of_getElem? (i := 0) rfl))
      have o1 : zI lo' 1 la := zI_of (p2 (1, .inl sf32) (List.mem_of_getElem? (i := 1) rfl)) (z3 (1, ([(0, 1)], 0)) (List.mem_of_getElem? (i := 0) rfl)) (show (1 * la + 0) + 0 = la from by omega)
      have o2 : zI lo' 2 ((r : Int) + 1) := zI_of (p2 (2, .inl sf32) (List.mem_of_getElem? (i := 2) rfl)) (z3 (2, ([], ((r : Int) + 1))) (List.mem_of_getElem? (i := 1) rfl)) (show 0 + ((r : Int) + 1) = ((r : Int) + 1) from by omega)
      have p1 : _ = [] := p1
      subst p1
      exact hE0 lo' h' u0 hi' hm g0 j0 o0 o1 o2
    cases he
  · intro e he r' h' hp hi' hm
    cases he
