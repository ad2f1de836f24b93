def evN_L (t : Nat) : List (Nat × sT) := [(0, .inr (.inl (17 * t + 20))), (1, .inl (0, 2)), (2, .inl (0, 63)), (3, .inl (0, 63))]
def evN_S (t : Nat) : List sT := []
def evN_A (t : Nat) : sAs := ([], [], [], [])
def evN_P (t : Nat) : List sP0 := [((17 * t + 23), (some 0, 0), (0, 64)), ((17 * t + 21), (some 2, 0), (0, 9999))]
def evN_G (t : Nat) : List sP0 := []
def evN_B (t : Nat) : List (Nat × Nat × Int) := [(3, 2, 1)]
def evN_m (t : Nat) : sM := []
def evN_e0 (t : Nat) : sXe := (166, [], [(0, .inr (.inl (17 * t + 20))), (1, .inl sf32), (2, .inl sf32), (3, .inl sf32), (6, .inr (.inr sf64))], sA0, [], ([], [], [(1, ([(0, 1)], 0)), (2, ([(1, 1)], 0)), (3, ([(2, 1)], 0)), (6, ([(4, 1)], 0))], []), [], [])
theorem evN_b : ((List.range 2).all fun t => syeB swC sT0 (evN_m t) 400 0 89 (evN_L t) (evN_S t) (evN_A t) (evN_P t) (evN_G t) (evN_B t) 21 [evN_e0 t] []) = true := by decide +kernel
theorem evN {l : Launch} {Γ : zG} {d : Nat} (hd : 0 ≤ d) {Kp : Option Value → zH → Prop} {lo : zL} {h : zH} {t : Nat} (h_t : t < 2) {la hh kk tt kn : Int} (hi : sInv swC h) (b_la : 0 ≤ la ∧ la ≤ 2) (b_hh : 0 ≤ hh ∧ hh ≤ 63) (b_kk : 0 ≤ kk ∧ kk ≤ 63) (b_tt : 0 ≤ tt ∧ tt ≤ 64) (b_kn : 0 ≤ kn ∧ kn ≤ 9999) (l0 : zget lo 0 = some (.ref (17 * t + 20))) (l1 : zI lo 1 la) (l2 : zI lo 2 hh) (l3 : zI lo 3 kk) (p_tt : pI h (17 * t + 23) (la + 0).toNat = tt) (p_kn : pI h (17 * t + 21) (kk + 0).toNat = kn) (d0 : 1 ≤ tt - kk)
    (hE0 : ∀ (lo' : zL) (h' : zH), sInv swC h' → sMd (evN_m t) h h' → zget lo' 0 = some (.ref (17 * t + 20)) → zI lo' 1 la → zI lo' 2 hh → zI lo' 3 kk → zJ lo' 6 kn → zX l Γ false (d + 1) (zhd 89) (zMQ' Γ false (zhd 89) Kp) 0 0 166 lo' [] h') : zX l Γ false (d + 1) (zhd 89) (zMQ' Γ false (zhd 89) Kp) 0 0 21 lo [] h := by
  refine sye_ok (mi := 89) (pc := 21) (fun i => [la, hh, kk, tt, kn].getD i 0) (zall_r evN_b h_t) (fun _ _ hc _ => nomatch hc) hd ⟨l0, zIm l1 (by show 0 ≤ la; omega) (by show la ≤ 2; omega), zIm l2 (by show 0 ≤ hh; omega) (by show hh ≤ 63; omega), zIm l3 (by show 0 ≤ kk; omega) (by show kk ≤ 63; omega), trivial⟩ rfl ⟨(fun _ hc => nomatch hc), (fun _ hc => nomatch hc), (fun _ hc => nomatch hc), Or.inl rfl⟩ ⟨⟨p_tt, by show 0 ≤ tt; omega, by show tt ≤ 64; omega⟩, ⟨p_kn, by show 0 ≤ kn; omega, by show kn ≤ 9999; omega⟩, trivial⟩ trivial (sfm d0 (fun _ hc => nomatch hc)) hi ?_ ?_
  · intro e he lo' st' h' hp hi' hm
    rcases List.mem_cons.mp he with rfl | he
    · obtain ⟨p1, p2, -, hz⟩ := hp
      obtain ⟨⟨z1, z2, z3, z4⟩, z5, z6⟩ := hz
      have o0 : zget lo' 0 = some (.ref (17 * t + 20)) := locR (p2 (0, .inr (.inl (17 * t + 20))) (List.mem_of_getElem? (i := 0) rfl))
      have o1 : zI lo' 1 la := zI_of (p2 (1, .inl sf32) (List.mem_of_getElem? (i := 1) rfl)) (z3 (1, ([(0, 1)], 0)) (List.mem_of_getElem? (i := 0) rfl)) (show (1 * la + 0) + 0 = la from by omega)
      have o2 : zI lo' 2 hh := zI_of (p2 (2, .inl sf32) (List.mem_of_getElem? (i := 2) rfl)) (z3 (2, ([(1, 1)], 0)) (List.mem_of_getElem? (i := 1) rfl)) (show (1 * hh + 0) + 0 = hh from by omega)
      have o3 : zI lo' 3 kk := zI_of (p2 (3, .inl sf32) (List.mem_of_getElem? (i := 3) rfl)) (z3 (3, ([(2, 1)], 0)) (List.mem_of_getElem? (i := 2) rfl)) (show (1 * kk + 0) + 0 = kk from by omega)
      have o6 : zJ lo' 6 kn := zJ_of (p2 (6, .inr (.inr sf64)) (List.mem_of_getElem? (i := 4) rfl)) (z3 (6, ([(4, 1)], 0)) (List.mem_of_getElem? (i := 3) rfl)) (show (1 * kn + 0) + 0 = kn from by omega)
      have p1 : _ = [] := p1
      subst p1
      exact hE0 lo' h' hi' hm o0 o1 o2 o3 o6
    cases he
  · intro e he r' h' hp hi' hm
    cases he
def evVa_L (t : Nat) : List (Nat × sT) := [(0, .inr (.inl (17 * t + 20))), (1, .inl (0, 2)), (2, .inl (0, 63)), (3, .inl (0, 63))]
def evVa_S (t : Nat) : List sT := []
def evVa_A (t : Nat) : sAs := ([], [], [], [])
def evVa_P (t : Nat) : List sP0 := [((17 * t + 23), (some 0, 0), (0, 64)), ((17 * t + 21), (some 2, 0), ((-21), (-21))), ((17 * t + 24), (none, 0), sf32)]
def evVa_G (t : Nat) : List sP0 := []
def evVa_B (t : Nat) : List (Nat × Nat × Int) := [(3, 2, 1)]
def evVa_m (t : Nat) : sM := []
def evVa_e0 (t : Nat) : sXe := (166, [], [(0, .inr (.inl (17 * t + 20))), (1, .inl sf32), (2, .inl sf32), (3, .inl sf32), (6, .inr (.inr sf64))], sA0, [], ([], [], [(1, ([(0, 1)], 0)), (2, ([(1, 1)], 0)), (3, ([(2, 1)], 0)), (6, ([(5, 1)], 0))], []), [], [])
theorem evVa_b : ((List.range 2).all fun t => syeB swC sT0 (evVa_m t) 400 0 89 (evVa_L t) (evVa_S t) (evVa_A t) (evVa_P t) (evVa_G t) (evVa_B t) 21 [evVa_e0 t] []) = true := by decide +kernel
theorem evVa {l : Launch} {Γ : zG} {d : Nat} (hd : 0 ≤ d) {Kp : Option Value → zH → Prop} {lo : zL} {h : zH} {t : Nat} (h_t : t < 2) {la hh kk tt nm : Int} (hi : sInv swC h) (b_la : 0 ≤ la ∧ la ≤ 2) (b_hh : 0 ≤ hh ∧ hh ≤ 63) (b_kk : 0 ≤ kk ∧ kk ≤ 63) (b_tt : 0 ≤ tt ∧ tt ≤ 64) (b_nm : (-2147483648) ≤ nm ∧ nm ≤ 2147483647) (l0 : zget lo 0 = some (.ref (17 * t + 20))) (l1 : zI lo 1 la) (l2 : zI lo 2 hh) (l3 : zI lo 3 kk) (p_tt : pI h (17 * t + 23) (la + 0).toNat = tt) (p_kn : pI h (17 * t + 21) (kk + 0).toNat = (-21)) (p_nm : pI h (17 * t + 24) 0 = nm) (d0 : 1 ≤ tt - kk)
    (hE0 : ∀ (lo' : zL) (h' : zH), sInv swC h' → sMd (evVa_m t) h h' → zget lo' 0 = some (.ref (17 * t + 20)) → zI lo' 1 la → zI lo' 2 hh → zI lo' 3 kk → zJ lo' 6 nm → zX l Γ false (d + 1) (zhd 89) (zMQ' Γ false (zhd 89) Kp) 0 0 166 lo' [] h') : zX l Γ false (d + 1) (zhd 89) (zMQ' Γ false (zhd 89) Kp) 0 0 21 lo [] h := by
  refine sye_ok (mi := 89) (pc := 21) (fun i => [la, hh, kk, tt, (-21), nm].getD i 0) (zall_r evVa_b h_t) (fun _ _ hc _ => nomatch hc) hd ⟨l0, zIm l1 (by show 0 ≤ la; omega) (by show la ≤ 2; omega), zIm l2 (by show 0 ≤ hh; omega) (by show hh ≤ 63; omega), zIm l3 (by show 0 ≤ kk; omega) (by show kk ≤ 63; omega), trivial⟩ rfl ⟨(fun _ hc => nomatch hc), (fun _ hc => nomatch hc), (fun _ hc => nomatch hc), Or.inl rfl⟩ ⟨⟨p_tt, by show 0 ≤ tt; omega, by show tt ≤ 64; omega⟩, ⟨p_kn, by show (-21) ≤ (-21); omega, by show (-21) ≤ (-21); omega⟩, ⟨p_nm, by show (-2147483648) ≤ nm; omega, by show nm ≤ 2147483647; omega⟩, trivial⟩ trivial (sfm d0 (fun _ hc => nomatch hc)) hi ?_ ?_
  · intro e he lo' st' h' hp hi' hm
    rcases List.mem_cons.mp he with rfl | he
    · obtain ⟨p1, p2, -, hz⟩ := hp
      obtain ⟨⟨z1, z2, z3, z4⟩, z5, z6⟩ := hz
      have o0 : zget lo' 0 = some (.ref (17 * t + 20)) := locR (p2 (0, .inr (.inl (17 * t + 20))) (List.mem_of_getElem? (i := 0) rfl))
      have o1 : zI lo' 1 la := zI_of (p2 (1, .inl sf32) (List.mem_of_getElem? (i := 1) rfl)) (z3 (1, ([(0, 1)], 0)) (List.mem_of_getElem? (i := 0) rfl)) (show (1 * la + 0) + 0 = la from by omega)
      have o2 : zI lo' 2 hh := zI_of (p2 (2, .inl sf32) (List.mem_of_getElem? (i := 2) rfl)) (z3 (2, ([(1, 1)], 0)) (List.mem_of_getElem? (i := 1) rfl)) (show (1 * hh + 0) + 0 = hh from by omega)
      have o3 : zI lo' 3 kk := zI_of (p2 (3, .inl sf32) (List.mem_of_getElem? (i := 3) rfl)) (z3 (3, ([(2, 1)], 0)) (List.mem_of_getElem? (i := 2) rfl)) (show (1 * kk + 0) + 0 = kk from by omega)
      have o6 : zJ lo' 6 nm := zJ_of (p2 (6, .inr (.inr sf64)) (List.mem_of_getElem? (i := 4) rfl)) (z3 (6, ([(5, 1)], 0)) (List.mem_of_getElem? (i := 3) rfl)) (show (1 * nm + 0) + 0 = nm from by omega)
      have p1 : _ = [] := p1
      subst p1
      exact hE0 lo' h' hi' hm o0 o1 o2 o3 o6
    cases he
  · intro e he r' h' hp hi' hm
    cases he
def evVb_L (t : Nat) : List (Nat × sT) := [(0, .inr (.inl (17 * t + 20))), (1, .inl (0, 2)), (2, .inl (0, 63)), (3, .inl (0, 63))]
def evVb_S (t : Nat) : List sT := []
def evVb_A (t : Nat) : sAs := ([], [], [], [])
def evVb_P (t : Nat) : List sP0 := [((17 * t + 23), (some 0, 0), (0, 64)), ((17 * t + 21), (some 2, 0), ((-22), (-22))), ((17 * t + 24), (none, 1), sf32)]
def evVb_G (t : Nat) : List sP0 := []
def evVb_B (t : Nat) : List (Nat × Nat × Int) := [(3, 2, 1)]
def evVb_m (t : Nat) : sM := []
def evVb_e0 (t : Nat) : sXe := (166, [], [(0, .inr (.inl (17 * t + 20))), (1, .inl sf32), (2, .inl sf32), (3, .inl sf32), (6, .inr (.inr sf64))], sA0, [], ([], [], [(1, ([(0, 1)], 0)), (2, ([(1, 1)], 0)), (3, ([(2, 1)], 0)), (6, ([(5, 1)], 0))], []), [], [])
theorem evVb_b : ((List.range 2).all fun t => syeB swC sT0 (evVb_m t) 400 0 89 (evVb_L t) (evVb_S t) (evVb_A t) (evVb_P t) (evVb_G t) (evVb_B t) 21 [evVb_e0 t] []) = true := by decide +kernel
theorem evVb {l : Launch} {Γ : zG} {d : Nat} (hd : 0 ≤ d) {Kp : Option Value → zH → Prop} {lo : zL} {h : zH} {t : Nat} (h_t : t < 2) {la hh kk tt nm : Int} (hi : sInv swC h) (b_la : 0 ≤ la ∧ la ≤ 2) (b_hh : 0 ≤ hh ∧ hh ≤ 63) (b_kk : 0 ≤ kk ∧ kk ≤ 63) (b_tt : 0 ≤ tt ∧ tt ≤ 64) (b_nm : (-2147483648) ≤ nm ∧ nm ≤ 2147483647) (l0 : zget lo 0 = some (.ref (17 * t + 20))) (l1 : zI lo 1 la) (l2 : zI lo 2 hh) (l3 : zI lo 3 kk) (p_tt : pI h (17 * t + 23) (la + 0).toNat = tt) (p_kn : pI h (17 * t + 21) (kk + 0).toNat = (-22)) (p_nm : pI h (17 * t + 24) 1 = nm) (d0 : 1 ≤ tt - kk)
    (hE0 : ∀ (lo' : zL) (h' : zH), sInv swC h' → sMd (evVb_m t) h h' → zget lo' 0 = some (.ref (17 * t + 20)) → zI lo' 1 la → zI lo' 2 hh → zI lo' 3 kk → zJ lo' 6 nm → zX l Γ false (d + 1) (zhd 89) (zMQ' Γ false (zhd 89) Kp) 0 0 166 lo' [] h') : zX l Γ false (d + 1) (zhd 89) (zMQ' Γ false (zhd 89) Kp) 0 0 21 lo [] h := by
  refine sye_ok (mi := 89) (pc := 21) (fun i => [la, hh, kk, tt, (-22), nm].getD i 0) (zall_r evVb_b h_t) (fun _ _ hc _ => nomatch hc) hd ⟨l0, zIm l1 (by show 0 ≤ la; omega) (by show la ≤ 2; omega), zIm l2 (by show 0 ≤ hh; omega) (by show hh ≤ 63; omega), zIm l3 (by show 0 ≤ kk; omega) (by show kk ≤ 63; omega), trivial⟩ rfl ⟨(fun _ hc => nomatch hc), (fun _ hc => nomatch hc), (fun _ hc => nomatch hc), Or.inl rfl⟩ ⟨⟨p_tt, by show 0 ≤ tt; omega, by show tt ≤ 64; omega⟩, ⟨p_kn, by show (-22) ≤ (-22); omega, by show (-22) ≤ (-22); omega⟩, ⟨p_nm, by show (-2147483648) ≤ nm; omega, by show nm ≤ 2147483647; omega⟩, trivial⟩ trivial (sfm d0 (fun _ hc => nomatch hc)) hi ?_ ?_
  · intro e he lo' st' h' hp hi' hm
    rcases List.mem_cons.mp he with rfl | he
    · obtain ⟨p1, p2, -, hz⟩ := hp
      obtain ⟨⟨z1, z2, z3, z4⟩, z5, z6⟩ := hz
      have o0 : zget lo' 0 = some (.ref (17 * t + 20)) := locR (p2 (0, .inr (.inl (17 * t + 20))) (List.mem_of_getElem? (i := 0) rfl))
      have o1 : zI lo' 1 la := zI_of (p2 (1, .inl sf32) (List.mem_of_getElem? (i := 1) rfl)) (z3 (1, ([(0, 1)], 0)) (List.mem_of_getElem? (i := 0) rfl)) (show (1 * la + 0) + 0 = la from by omega)
      have o2 : zI lo' 2 hh := zI_of (p2 (2, .inl sf32) (List.mem_of_getElem? (i := 2) rfl)) (z3 (2, ([(1, 1)], 0)) (List.mem_of_getElem? (i := 1) rfl)) (show (1 * hh + 0) + 0 = hh from by omega)
      have o3 : zI lo' 3 kk := zI_of (p2 (3, .inl sf32) (List.mem_of_getElem? (i := 3) rfl)) (z3 (3, ([(2, 1)], 0)) (List.mem_of_getElem? (i := 2) rfl)) (show (1 * kk + 0) + 0 = kk from by omega)
      have o6 : zJ lo' 6 nm := zJ_of (p2 (6, .inr (.inr sf64)) (List.mem_of_getElem? (i := 4) rfl)) (z3 (6, ([(5, 1)], 0)) (List.mem_of_getElem? (i := 3) rfl)) (show (1 * nm + 0) + 0 = nm from by omega)
      have p1 : _ = [] := p1
      subst p1
      exact hE0 lo' h' hi' hm o0 o1 o2 o3 o6
    cases he
  · intro e he r' h' hp hi' hm
    cases he
def evVc_L (t : Nat) : List (Nat × sT) := [(0, .inr (.inl (17 * t + 20))), (1, .inl (0, 2)), (2, .inl (0, 63)), (3, .inl (0, 63))]
def evVc_S (t : Nat) : List sT := []
def evVc_A (t : Nat) : sAs := ([], [], [], [])
def evVc_P (t : Nat) : List sP0 := [((17 * t + 23), (some 0, 0), (0, 64)), ((17 * t + 21), (some 2, 0), ((-23), (-23))), ((17 * t + 24), (none, 2), sf32)]
def evVc_G (t : Nat) : List sP0 := []
def evVc_B (t : Nat) : List (Nat × Nat × Int) := [(3, 2, 1)]
def evVc_m (t : Nat) : sM := []
def evVc_e0 (t : Nat) : sXe := (166, [], [(0, .inr (.inl (17 * t + 20))), (1, .inl sf32), (2, .inl sf32), (3, .inl sf32), (6, .inr (.inr sf64))], sA0, [], ([], [], [(1, ([(0, 1)], 0)), (2, ([(1, 1)], 0)), (3, ([(2, 1)], 0)), (6, ([(5, 1)], 0))], []), [], [])
theorem evVc_b : ((List.range 2).all fun t => syeB swC sT0 (evVc_m t) 400 0 89 (evVc_L t) (evVc_S t) (evVc_A t) (evVc_P t) (evVc_G t) (evVc_B t) 21 [evVc_e0 t] []) = true := by decide +kernel
theorem evVc {l : Launch} {Γ : zG} {d : Nat} (hd : 0 ≤ d) {Kp : Option Value → zH → Prop} {lo : zL} {h : zH} {t : Nat} (h_t : t < 2) {la hh kk tt nm : Int} (hi : sInv swC h) (b_la : 0 ≤ la ∧ la ≤ 2) (b_hh : 0 ≤ hh ∧ hh ≤ 63) (b_kk : 0 ≤ kk ∧ kk ≤ 63) (b_tt : 0 ≤ tt ∧ tt ≤ 64) (b_nm : (-2147483648) ≤ nm ∧ nm ≤ 2147483647) (l0 : zget lo 0 = some (.ref (17 * t + 20))) (l1 : zI lo 1 la) (l2 : zI lo 2 hh) (l3 : zI lo 3 kk) (p_tt : pI h (17 * t + 23) (la + 0).toNat = tt) (p_kn : pI h (17 * t + 21) (kk + 0).toNat = (-23)) (p_nm : pI h (17 * t + 24) 2 = nm) (d0 : 1 ≤ tt - kk)
    (hE0 : ∀ (lo' : zL) (h' : zH), sInv swC h' → sMd (evVc_m t) h h' → zget lo' 0 = some (.ref (17 * t + 20)) → zI lo' 1 la → zI lo' 2 hh → zI lo' 3 kk → zJ lo' 6 nm → zX l Γ false (d + 1) (zhd 89) (zMQ' Γ false (zhd 89) Kp) 0 0 166 lo' [] h') : zX l Γ false (d + 1) (zhd 89) (zMQ' Γ false (zhd 89) Kp) 0 0 21 lo [] h := by
  refine sye_ok (mi := 89) (pc := 21) (fun i => [la, hh, kk, tt, (-23), nm].getD i 0) (zall_r evVc_b h_t) (fun _ _ hc _ => nomatch hc) hd ⟨l0, zIm l1 (by show 0 ≤ la; omega) (by show la ≤ 2; omega), zIm l2 (by show 0 ≤ hh; omega) (by show hh ≤ 63; omega), zIm l3 (by show 0 ≤ kk; omega) (by show kk ≤ 63; omega), trivial⟩ rfl ⟨(fun _ hc => nomatch hc), (fun _ hc => nomatch hc), (fun _ hc => nomatch hc), Or.inl rfl⟩ ⟨⟨p_tt, by show 0 ≤ tt; omega, by show tt ≤ 64; omega⟩, ⟨p_kn, by show (-23) ≤ (-23); omega, by show (-23) ≤ (-23); omega⟩, ⟨p_nm, by show (-2147483648) ≤ nm; omega, by show nm ≤ 2147483647; omega⟩, trivial⟩ trivial (sfm d0 (fun _ hc => nomatch hc)) hi ?_ ?_
  · intro e he lo' st' h' hp hi' hm
    rcases List.mem_cons.mp he with rfl | he
    · obtain ⟨p1, p2, -, hz⟩ := hp
      obtain ⟨⟨z1, z2, z3, z4⟩, z5, z6⟩ := hz
      have o0 : zget lo' 0 = some (.ref (17 * t + 20)) := locR (p2 (0, .inr (.inl (17 * t + 20))) (List.mem_of_getElem? (i := 0) rfl))
      have o1 : zI lo' 1 la := zI_of (p2 (1, .inl sf32) (List.mem_of_getElem? (i := 1) rfl)) (z3 (1, ([(0, 1)], 0)) (List.mem_of_getElem? (i := 0) rfl)) (show (1 * la + 0) + 0 = la from by omega)
      have o2 : zI lo' 2 hh := zI_of (p2 (2, .inl sf32) (List.mem_of_getElem? (i := 2) rfl)) (z3 (2, ([(1, 1)], 0)) (List.mem_of_getElem? (i := 1) rfl)) (show (1 * hh + 0) + 0 = hh from by omega)
      have o3 : zI lo' 3 kk := zI_of (p2 (3, .inl sf32) (List.mem_of_getElem? (i := 3) rfl)) (z3 (3, ([(2, 1)], 0)) (List.mem_of_getElem? (i := 2) rfl)) (show (1 * kk + 0) + 0 = kk from by omega)
      have o6 : zJ lo' 6 nm := zJ_of (p2 (6, .inr (.inr sf64)) (List.mem_of_getElem? (i := 4) rfl)) (z3 (6, ([(5, 1)], 0)) (List.mem_of_getElem? (i := 3) rfl)) (show (1 * nm + 0) + 0 = nm from by omega)
      have p1 : _ = [] := p1
      subst p1
      exact hE0 lo' h' hi' hm o0 o1 o2 o3 o6
    cases he
  · intro e he r' h' hp hi' hm
    cases he
def evVd_L (t : Nat) : List (Nat × sT) := [(0, .inr (.inl (17 * t + 20))), (1, .inl (0, 2)), (2, .inl (0, 63)), (3, .inl (0, 63))]
def evVd_S (t : Nat) : List sT := []
def evVd_A (t : Nat) : sAs := ([], [], [], [])
def evVd_P (t : Nat) : List sP0 := [((17 * t + 23), (some 0, 0), (0, 64)), ((17 * t + 21), (some 2, 0), ((-24), (-24))), ((17 * t + 24), (none, 3), sf32)]
def evVd_G (t : Nat) : List sP0 := []
def evVd_B (t : Nat) : List (Nat × Nat × Int) := [(3, 2, 1)]
def evVd_m (t : Nat) : sM := []
def evVd_e0 (t : Nat) : sXe := (166, [], [(0, .inr (.inl (17 * t + 20))), (1, .inl sf32), (2, .inl sf32), (3, .inl sf32), (6, .inr (.inr sf64))], sA0, [], ([], [], [(1, ([(0, 1)], 0)), (2, ([(1, 1)], 0)), (3, ([(2, 1)], 0)), (6, ([(5, 1)], 0))], []), [], [])
theorem evVd_b : ((List.range 2).all fun t => syeB swC sT0 (evVd_m t) 400 0 89 (evVd_L t) (evVd_S t) (evVd_A t) (evVd_P t) (evVd_G t) (evVd_B t) 21 [evVd_e0 t] []) = true := by decide +kernel
theorem evVd {l : Launch} {Γ : zG} {d : Nat} (hd : 0 ≤ d) {Kp : Option Value → zH → Prop} {lo : zL} {h : zH} {t : Nat} (h_t : t < 2) {la hh kk tt nm : Int} (hi : sInv swC h) (b_la : 0 ≤ la ∧ la ≤ 2) (b_hh : 0 ≤ hh ∧ hh ≤ 63) (b_kk : 0 ≤ kk ∧ kk ≤ 63) (b_tt : 0 ≤ tt ∧ tt ≤ 64) (b_nm : (-2147483648) ≤ nm ∧ nm ≤ 2147483647) (l0 : zget lo 0 = some (.ref (17 * t + 20))) (l1 : zI lo 1 la) (l2 : zI lo 2 hh) (l3 : zI lo 3 kk) (p_tt : pI h (17 * t + 23) (la + 0).toNat = tt) (p_kn : pI h (17 * t + 21) (kk + 0).toNat = (-24)) (p_nm : pI h (17 * t + 24) 3 = nm) (d0 : 1 ≤ tt - kk)
    (hE0 : ∀ (lo' : zL) (h' : zH), sInv swC h' → sMd (evVd_m t) h h' → zget lo' 0 = some (.ref (17 * t + 20)) → zI lo' 1 la → zI lo' 2 hh → zI lo' 3 kk → zJ lo' 6 nm → zX l Γ false (d + 1) (zhd 89) (zMQ' Γ false (zhd 89) Kp) 0 0 166 lo' [] h') : zX l Γ false (d + 1) (zhd 89) (zMQ' Γ false (zhd 89) Kp) 0 0 21 lo [] h := by
  refine sye_ok (mi := 89) (pc := 21) (fun i => [la, hh, kk, tt, (-24), nm].getD i 0) (zall_r evVd_b h_t) (fun _ _ hc _ => nomatch hc) hd ⟨l0, zIm l1 (by show 0 ≤ la; omega) (by show la ≤ 2; omega), zIm l2 (by show 0 ≤ hh; omega) (by show hh ≤ 63; omega), zIm l3 (by show 0 ≤ kk; omega) (by show kk ≤ 63; omega), trivial⟩ rfl ⟨(fun _ hc => nomatch hc), (fun _ hc => nomatch hc), (fun _ hc => nomatch hc), Or.inl rfl⟩ ⟨⟨p_tt, by show 0 ≤ tt; omega, by show tt ≤ 64; omega⟩, ⟨p_kn, by show (-24) ≤ (-24); omega, by show (-24) ≤ (-24); omega⟩, ⟨p_nm, by show (-2147483648) ≤ nm; omega, by show nm ≤ 2147483647; omega⟩, trivial⟩ trivial (sfm d0 (fun _ hc => nomatch hc)) hi ?_ ?_
  · intro e he lo' st' h' hp hi' hm
    rcases List.mem_cons.mp he with rfl | he
    · obtain ⟨p1, p2, -, hz⟩ := hp
      obtain ⟨⟨z1, z2, z3, z4⟩, z5, z6⟩ := hz
      have o0 : zget lo' 0 = some (.ref (17 * t + 20)) := locR (p2 (0, .inr (.inl (17 * t + 20))) (List.mem_of_getElem? (i := 0) rfl))
      have o1 : zI lo' 1 la := zI_of (p2 (1, .inl sf32) (List.mem_of_getElem? (i := 1) rfl)) (z3 (1, ([(0, 1)], 0)) (List.mem_of_getElem? (i := 0) rfl)) (show (1 * la + 0) + 0 = la from by omega)
      have o2 : zI lo' 2 hh := zI_of (p2 (2, .inl sf32) (List.mem_of_getElem? (i := 2) rfl)) (z3 (2, ([(1, 1)], 0)) (List.mem_of_getElem? (i := 1) rfl)) (show (1 * hh + 0) + 0 = hh from by omega)
      have o3 : zI lo' 3 kk := zI_of (p2 (3, .inl sf32) (List.mem_of_getElem? (i := 3) rfl)) (z3 (3, ([(2, 1)], 0)) (List.mem_of_getElem? (i := 2) rfl)) (show (1 * kk + 0) + 0 = kk from by omega)
      have o6 : zJ lo' 6 nm := zJ_of (p2 (6, .inr (.inr sf64)) (List.mem_of_getElem? (i := 4) rfl)) (z3 (6, ([(5, 1)], 0)) (List.mem_of_getElem? (i := 3) rfl)) (show (1 * nm + 0) + 0 = nm from by omega)
      have p1 : _ = [] := p1
      subst p1
      exact hE0 lo' h' hi' hm o0 o1 o2 o3 o6
    cases he
  · intro e he r' h' hp hi' hm
    cases he
def evVe_L (t : Nat) : List (Nat × sT) := [(0, .inr (.inl (17 * t + 20))), (1, .inl (0, 2)), (2, .inl (0, 63)), (3, .inl (0, 63))]
def evVe_S (t : Nat) : List sT := []
def evVe_A (t : Nat) : sAs := ([], [], [], [])
def evVe_P (t : Nat) : List sP0 := [((17 * t + 23), (some 0, 0), (0, 64)), ((17 * t + 21), (some 2, 0), ((-25), (-25))), ((17 * t + 24), (none, 4), sf32)]
def evVe_G (t : Nat) : List sP0 := []
def evVe_B (t : Nat) : List (Nat × Nat × Int) := [(3, 2, 1)]
def evVe_m (t : Nat) : sM := []
def evVe_e0 (t : Nat) : sXe := (166, [], [(0, .inr (.inl (17 * t + 20))), (1, .inl sf32), (2, .inl sf32), (3, .inl sf32), (6, .inr (.inr sf64))], sA0, [], ([], [], [(1, ([(0, 1)], 0)), (2, ([(1, 1)], 0)), (3, ([(2, 1)], 0)), (6, ([(5, 1)], 0))], []), [], [])
theorem evVe_b : ((List.range 2).all fun t => syeB swC sT0 (evVe_m t) 400 0 89 (evVe_L t) (evVe_S t) (evVe_A t) (evVe_P t) (evVe_G t) (evVe_B t) 21 [evVe_e0 t] []) = true := by decide +kernel
theorem evVe {l : Launch} {Γ : zG} {d : Nat} (hd : 0 ≤ d) {Kp : Option Value → zH → Prop} {lo : zL} {h : zH} {t : Nat} (h_t : t < 2) {la hh kk tt nm : Int} (hi : sInv swC h) (b_la : 0 ≤ la ∧ la ≤ 2) (b_hh : 0 ≤ hh ∧ hh ≤ 63) (b_kk : 0 ≤ kk ∧ kk ≤ 63) (b_tt : 0 ≤ tt ∧ tt ≤ 64) (b_nm : (-2147483648) ≤ nm ∧ nm ≤ 2147483647) (l0 : zget lo 0 = some (.ref (17 * t + 20))) (l1 : zI lo 1 la) (l2 : zI lo 2 hh) (l3 : zI lo 3 kk) (p_tt : pI h (17 * t + 23) (la + 0).toNat = tt) (p_kn : pI h (17 * t + 21) (kk + 0).toNat = (-25)) (p_nm : pI h (17 * t + 24) 4 = nm) (d0 : 1 ≤ tt - kk)
    (hE0 : ∀ (lo' : zL) (h' : zH), sInv swC h' → sMd (evVe_m t) h h' → zget lo' 0 = some (.ref (17 * t + 20)) → zI lo' 1 la → zI lo' 2 hh → zI lo' 3 kk → zJ lo' 6 nm → zX l Γ false (d + 1) (zhd 89) (zMQ' Γ false (zhd 89) Kp) 0 0 166 lo' [] h') : zX l Γ false (d + 1) (zhd 89) (zMQ' Γ false (zhd 89) Kp) 0 0 21 lo [] h := by
  refine sye_ok (mi := 89) (pc := 21) (fun i => [la, hh, kk, tt, (-25), nm].getD i 0) (zall_r evVe_b h_t) (fun _ _ hc _ => nomatch hc) hd ⟨l0, zIm l1 (by show 0 ≤ la; omega) (by show la ≤ 2; omega), zIm l2 (by show 0 ≤ hh; omega) (by show hh ≤ 63; omega), zIm l3 (by show 0 ≤ kk; omega) (by show kk ≤ 63; omega), trivial⟩ rfl ⟨(fun _ hc => nomatch hc), (fun _ hc => nomatch hc), (fun _ hc => nomatch hc), Or.inl rfl⟩ ⟨⟨p_tt, by show 0 ≤ tt; omega, by show tt ≤ 64; omega⟩, ⟨p_kn, by show (-25) ≤ (-25); omega, by show (-25) ≤ (-25); omega⟩, ⟨p_nm, by show (-2147483648) ≤ nm; omega, by show nm ≤ 2147483647; omega⟩, trivial⟩ trivial (sfm d0 (fun _ hc => nomatch hc)) hi ?_ ?_
  · intro e he lo' st' h' hp hi' hm
    rcases List.mem_cons.mp he with rfl | he
    · obtain ⟨p1, p2, -, hz⟩ := hp
      obtain ⟨⟨z1, z2, z3, z4⟩, z5, z6⟩ := hz
      have o0 : zget lo' 0 = some (.ref (17 * t + 20)) := locR (p2 (0, .inr (.inl (17 * t + 20))) (List.mem_of_getElem? (i := 0) rfl))
      have o1 : zI lo' 1 la := zI_of (p2 (1, .inl sf32) (List.mem_of_getElem? (i := 1) rfl)) (z3 (1, ([(0, 1)], 0)) (List.mem_of_getElem? (i := 0) rfl)) (show (1 * la + 0) + 0 = la from by omega)
      have o2 : zI lo' 2 hh := zI_of (p2 (2, .inl sf32) (List.mem_of_getElem? (i := 2) rfl)) (z3 (2, ([(1, 1)], 0)) (List.mem_of_getElem? (i := 1) rfl)) (show (1 * hh + 0) + 0 = hh from by omega)
      have o3 : zI lo' 3 kk := zI_of (p2 (3, .inl sf32) (List.mem_of_getElem? (i := 3) rfl)) (z3 (3, ([(2, 1)], 0)) (List.mem_of_getElem? (i := 2) rfl)) (show (1 * kk + 0) + 0 = kk from by omega)
      have o6 : zJ lo' 6 nm := zJ_of (p2 (6, .inr (.inr sf64)) (List.mem_of_getElem? (i := 4) rfl)) (z3 (6, ([(5, 1)], 0)) (List.mem_of_getElem? (i := 3) rfl)) (show (1 * nm + 0) + 0 = nm from by omega)
      have p1 : _ = [] := p1
      subst p1
      exact hE0 lo' h' hi' hm o0 o1 o2 o3 o6
    cases he
  · intro e he r' h' hp hi' hm
    cases he
def evVf_L (t : Nat) : List (Nat × sT) := [(0, .inr (.inl (17 * t + 20))), (1, .inl (0, 2)), (2, .inl (0, 63)), (3, .inl (0, 63))]
def evVf_S (t : Nat) : List sT := []
def evVf_A (t : Nat) : sAs := ([], [], [], [])
def evVf_P (t : Nat) : List sP0 := [((17 * t + 23), (some 0, 0), (0, 64)), ((17 * t + 21), (some 2, 0), ((-26), (-26))), ((17 * t + 24), (none, 5), sf32)]
def evVf_G (t : Nat) : List sP0 := []
def evVf_B (t : Nat) : List (Nat × Nat × Int) := [(3, 2, 1)]
def evVf_m (t : Nat) : sM := []
def evVf_e0 (t : Nat) : sXe := (166, [], [(0, .inr (.inl (17 * t + 20))), (1, .inl sf32), (2, .inl sf32), (3, .inl sf32), (6, .inr (.inr sf64))], sA0, [], ([], [], [(1, ([(0, 1)], 0)), (2, ([(1, 1)], 0)), (3, ([(2, 1)], 0)), (6, ([(5, 1)], 0))], []), [], [])
theorem evVf_b : ((List.range 2).all fun t => syeB swC sT0 (evVf_m t) 400 0 89 (evVf_L t) (evVf_S t) (evVf_A t) (evVf_P t) (evVf_G t) (evVf_B t) 21 [evVf_e0 t] []) = true := by decide +kernel
theorem evVf {l : Launch} {Γ : zG} {d : Nat} (hd : 0 ≤ d) {Kp : Option Value → zH → Prop} {lo : zL} {h : zH} {t : Nat} (h_t : t < 2) {la hh kk tt nm : Int} (hi : sInv swC h) (b_la : 0 ≤ la ∧ la ≤ 2) (b_hh : 0 ≤ hh ∧ hh ≤ 63) (b_kk : 0 ≤ kk ∧ kk ≤ 63) (b_tt : 0 ≤ tt ∧ tt ≤ 64) (b_nm : (-2147483648) ≤ nm ∧ nm ≤ 2147483647) (l0 : zget lo 0 = some (.ref (17 * t + 20))) (l1 : zI lo 1 la) (l2 : zI lo 2 hh) (l3 : zI lo 3 kk) (p_tt : pI h (17 * t + 23) (la + 0).toNat = tt) (p_kn : pI h (17 * t + 21) (kk + 0).toNat = (-26)) (p_nm : pI h (17 * t + 24) 5 = nm) (d0 : 1 ≤ tt - kk)
    (hE0 : ∀ (lo' : zL) (h' : zH), sInv swC h' → sMd (evVf_m t) h h' → zget lo' 0 = some (.ref (17 * t + 20)) → zI lo' 1 la → zI lo' 2 hh → zI lo' 3 kk → zJ lo' 6 nm → zX l Γ false (d + 1) (zhd 89) (zMQ' Γ false (zhd 89) Kp) 0 0 166 lo' [] h') : zX l Γ false (d + 1) (zhd 89) (zMQ' Γ false (zhd 89) Kp) 0 0 21 lo [] h := by
  refine sye_ok (mi := 89) (pc := 21) (fun i => [la, hh, kk, tt, (-26), nm].getD i 0) (zall_r evVf_b h_t) (fun _ _ hc _ => nomatch hc) hd ⟨l0, zIm l1 (by show 0 ≤ la; omega) (by show la ≤ 2; omega), zIm l2 (by show 0 ≤ hh; omega) (by show hh ≤ 63; omega), zIm l3 (by show 0 ≤ kk; omega) (by show kk ≤ 63; omega), trivial⟩ rfl ⟨(fun _ hc => nomatch hc), (fun _ hc => nomatch hc), (fun _ hc => nomatch hc), Or.inl rfl⟩ ⟨⟨p_tt, by show 0 ≤ tt; omega, by show tt ≤ 64; omega⟩, ⟨p_kn, by show (-26) ≤ (-26); omega, by show (-26) ≤ (-26); omega⟩, ⟨p_nm, by show (-2147483648) ≤ nm; omega, by show nm ≤ 2147483647; omega⟩, trivial⟩ trivial (sfm d0 (fun _ hc => nomatch hc)) hi ?_ ?_
  · intro e he lo' st' h' hp hi' hm
    rcases List.mem_cons.mp he with rfl | he
    · obtain ⟨p1, p2, -, hz⟩ := hp
      obtain ⟨⟨z1, z2, z3, z4⟩, z5, z6⟩ := hz
      have o0 : zget lo' 0 = some (.ref (17 * t + 20)) := locR (p2 (0, .inr (.inl (17 * t + 20))) (List.mem_of_getElem? (i := 0) rfl))
      have o1 : zI lo' 1 la := zI_of (p2 (1, .inl sf32) (List.mem_of_getElem? (i := 1) rfl)) (z3 (1, ([(0, 1)], 0)) (List.mem_of_getElem? (i := 0) rfl)) (show (1 * la + 0) + 0 = la from by omega)
      have o2 : zI lo' 2 hh := zI_of (p2 (2, .inl sf32) (List.mem_of_getElem? (i := 2) rfl)) (z3 (2, ([(1, 1)], 0)) (List.mem_of_getElem? (i := 1) rfl)) (show (1 * hh + 0) + 0 = hh from by omega)
      have o3 : zI lo' 3 kk := zI_of (p2 (3, .inl sf32) (List.mem_of_getElem? (i := 3) rfl)) (z3 (3, ([(2, 1)], 0)) (List.mem_of_getElem? (i := 2) rfl)) (show (1 * kk + 0) + 0 = kk from by omega)
      have o6 : zJ lo' 6 nm := zJ_of (p2 (6, .inr (.inr sf64)) (List.mem_of_getElem? (i := 4) rfl)) (z3 (6, ([(5, 1)], 0)) (List.mem_of_getElem? (i := 3) rfl)) (show (1 * nm + 0) + 0 = nm from by omega)
      have p1 : _ = [] := p1
      subst p1
      exact hE0 lo' h' hi' hm o0 o1 o2 o3 o6
    cases he
  · intro e he r' h' hp hi' hm
    cases he
def evVg_L (t : Nat) : List (Nat × sT) := [(0, .inr (.inl (17 * t + 20))), (1, .inl (0, 2)), (2, .inl (0, 63)), (3, .inl (0, 63))]
def evVg_S (t : Nat) : List sT := []
def evVg_A (t : Nat) : sAs := ([], [], [], [])
def evVg_P (t : Nat) : List sP0 := [((17 * t + 23), (some 0, 0), (0, 64)), ((17 * t + 21), (some 2, 0), ((-27), (-27))), ((17 * t + 24), (none, 6), sf32)]
def evVg_G (t : Nat) : List sP0 := []
def evVg_B (t : Nat) : List (Nat × Nat × Int) := [(3, 2, 1)]
def evVg_m (t : Nat) : sM := []
def evVg_e0 (t : Nat) : sXe := (166, [], [(0, .inr (.inl (17 * t + 20))), (1, .inl sf32), (2, .inl sf32), (3, .inl sf32), (6, .inr (.inr sf64))], sA0, [], ([], [], [(1, ([(0, 1)], 0)), (2, ([(1, 1)], 0)), (3, ([(2, 1)], 0)), (6, ([(5, 1)], 0))], []), [], [])
theorem evVg_b : ((List.range 2).all fun t => syeB swC sT0 (evVg_m t) 400 0 89 (evVg_L t) (evVg_S t) (evVg_A t) (evVg_P t) (evVg_G t) (evVg_B t) 21 [evVg_e0 t] []) = true := by decide +kernel
theorem evVg {l : Launch} {Γ : zG} {d : Nat} (hd : 0 ≤ d) {Kp : Option Value → zH → Prop} {lo : zL} {h : zH} {t : Nat} (h_t : t < 2) {la hh kk tt nm : Int} (hi : sInv swC h) (b_la : 0 ≤ la ∧ la ≤ 2) (b_hh : 0 ≤ hh ∧ hh ≤ 63) (b_kk : 0 ≤ kk ∧ kk ≤ 63) (b_tt : 0 ≤ tt ∧ tt ≤ 64) (b_nm : (-2147483648) ≤ nm ∧ nm ≤ 2147483647) (l0 : zget lo 0 = some (.ref (17 * t + 20))) (l1 : zI lo 1 la) (l2 : zI lo 2 hh) (l3 : zI lo 3 kk) (p_tt : pI h (17 * t + 23) (la + 0).toNat = tt) (p_kn : pI h (17 * t + 21) (kk + 0).toNat = (-27)) (p_nm : pI h (17 * t + 24) 6 = nm) (d0 : 1 ≤ tt - kk)
    (hE0 : ∀ (lo' : zL) (h' : zH), sInv swC h' → sMd (evVg_m t) h h' → zget lo' 0 = some (.ref (17 * t + 20)) → zI lo' 1 la → zI lo' 2 hh → zI lo' 3 kk → zJ lo' 6 nm → zX l Γ false (d + 1) (zhd 89) (zMQ' Γ false (zhd 89) Kp) 0 0 166 lo' [] h') : zX l Γ false (d + 1) (zhd 89) (zMQ' Γ false (zhd 89) Kp) 0 0 21 lo [] h := by
  refine sye_ok (mi := 89) (pc := 21) (fun i => [la, hh, kk, tt, (-27), nm].getD i 0) (zall_r evVg_b h_t) (fun _ _ hc _ => nomatch hc) hd ⟨l0, zIm l1 (by show 0 ≤ la; omega) (by show la ≤ 2; omega), zIm l2 (by show 0 ≤ hh; omega) (by show hh ≤ 63; omega), zIm l3 (by show 0 ≤ kk; omega) (by show kk ≤ 63; omega), trivial⟩ rfl ⟨(fun _ hc => nomatch hc), (fun _ hc => nomatch hc), (fun _ hc => nomatch hc), Or.inl rfl⟩ ⟨⟨p_tt, by show 0 ≤ tt; omega, by show tt ≤ 64; omega⟩, ⟨p_kn, by show (-27) ≤ (-27); omega, by show (-27) ≤ (-27); omega⟩, ⟨p_nm, by show (-2147483648) ≤ nm; omega, by show nm ≤ 2147483647; omega⟩, trivial⟩ trivial (sfm d0 (fun _ hc => nomatch hc)) hi ?_ ?_
  · intro e he lo' st' h' hp hi' hm
    rcases List.mem_cons.mp he with rfl | he
    · obtain ⟨p1, p2, -, hz⟩ := hp
      obtain ⟨⟨z1, z2, z3, z4⟩, z5, z6⟩ := hz
      have o0 : zget lo' 0 = some (.ref (17 * t + 20)) := locR (p2 (0, .inr (.inl (17 * t + 20))) (List.mem_of_getElem? (i := 0) rfl))
      have o1 : zI lo' 1 la := zI_of (p2 (1, .inl sf32) (List.mem_of_getElem? (i := 1) rfl)) (z3 (1, ([(0, 1)], 0)) (List.mem_of_getElem? (i := 0) rfl)) (show (1 * la + 0) + 0 = la from by omega)
      have o2 : zI lo' 2 hh := zI_of (p2 (2, .inl sf32) (List.mem_of_getElem? (i := 2) rfl)) (z3 (2, ([(1, 1)], 0)) (List.mem_of_getElem? (i := 1) rfl)) (show (1 * hh + 0) + 0 = hh from by omega)
      have o3 : zI lo' 3 kk := zI_of (p2 (3, .inl sf32) (List.mem_of_getElem? (i := 3) rfl)) (z3 (3, ([(2, 1)], 0)) (List.mem_of_getElem? (i := 2) rfl)) (show (1 * kk + 0) + 0 = kk from by omega)
      have o6 : zJ lo' 6 nm := zJ_of (p2 (6, .inr (.inr sf64)) (List.mem_of_getElem? (i := 4) rfl)) (z3 (6, ([(5, 1)], 0)) (List.mem_of_getElem? (i := 3) rfl)) (show (1 * nm + 0) + 0 = nm from by omega)
      have p1 : _ = [] := p1
      subst p1
      exact hE0 lo' h' hi' hm o0 o1 o2 o3 o6
    cases he
  · intro e he r' h' hp hi' hm
    cases he
def evT_L (t : Nat) : List (Nat × sT) := [(0, .inr (.inl (17 * t + 20))), (1, .inl (0, 2)), (2, .inl (1, 64)), (3, .inl (0, 63))]
def evT_S (t : Nat) : List sT := []
def evT_A (t : Nat) : sAs := ([], [], [], [])
def evT_P (t : Nat) : List sP0 := [((17 * t + 23), (some 0, 0), (0, 64)), ((17 * t + 21), (some 2, 0), ((-28), (-28)))]
def evT_G (t : Nat) : List sP0 := [((17 * t + 25), (some 1, (-1)), ((-1000000000000), 1000000000000))]
def evT_B (t : Nat) : List (Nat × Nat × Int) := [(3, 2, 1)]
def evT_m (t : Nat) : sM := []
def evT_e0 (t : Nat) : sXe := (166, [], [(0, .inr (.inl (17 * t + 20))), (1, .inl sf32), (2, .inl sf32), (3, .inl sf32), (6, .inr (.inr sf64))], sA0, [], ([], [], [(1, ([(0, 1)], 0)), (2, ([(1, 1)], (-1))), (3, ([(2, 1)], 0)), (6, ([], 1))], [([(5, 1)], 0), ([(5, (-1))], 0)]), [], [])
def evT_e1 (t : Nat) : sXe := (166, [], [(0, .inr (.inl (17 * t + 20))), (1, .inl sf32), (2, .inl sf32), (3, .inl sf32), (6, .inr (.inr sf64))], sA0, [], ([], [], [(1, ([(0, 1)], 0)), (2, ([(1, 1)], (-1))), (3, ([(2, 1)], 0)), (6, ([], 0))], [([(5, (-1))], (-1))]), [], [])
def evT_e2 (t : Nat) : sXe := (166, [], [(0, .inr (.inl (17 * t + 20))), (1, .inl sf32), (2, .inl sf32), (3, .inl sf32), (6, .inr (.inr sf64))], sA0, [], ([], [], [(1, ([(0, 1)], 0)), (2, ([(1, 1)], (-1))), (3, ([(2, 1)], 0)), (6, ([], 0))], [([(5, 1)], (-1))]), [], [])
theorem evT_b : ((List.range 2).all fun t => syeB swC sT0 (evT_m t) 400 0 89 (evT_L t) (evT_S t) (evT_A t) (evT_P t) (evT_G t) (evT_B t) 21 [evT_e0 t, evT_e1 t, evT_e2 t] []) = true := by decide +kernel
theorem evT {l : Launch} {Γ : zG} {d : Nat} (hd : 0 ≤ d) {Kp : Option Value → zH → Prop} {lo : zL} {h : zH} {t : Nat} (h_t : t < 2) {la hh kk tt va : Int} (hi : sInv swC h) (b_la : 0 ≤ la ∧ la ≤ 2) (b_hh : 1 ≤ hh ∧ hh ≤ 64) (b_kk : 0 ≤ kk ∧ kk ≤ 63) (b_tt : 0 ≤ tt ∧ tt ≤ 64) (b_va : (-1000000000000) ≤ va ∧ va ≤ 1000000000000) (l0 : zget lo 0 = some (.ref (17 * t + 20))) (l1 : zI lo 1 la) (l2 : zI lo 2 hh) (l3 : zI lo 3 kk) (p_tt : pI h (17 * t + 23) (la + 0).toNat = tt) (p_kn : pI h (17 * t + 21) (kk + 0).toNat = (-28)) (p_va : pL h (17 * t + 25) (hh + (-1)).toNat = va) (d0 : 1 ≤ tt - kk)
    (hE0 : ∀ (lo' : zL) (h' : zH), sInv swC h' → sMd (evT_m t) h h' → va = 0 → zget lo' 0 = some (.ref (17 * t + 20)) → zI lo' 1 la → zI lo' 2 (hh - 1) → zI lo' 3 kk → zJ lo' 6 1 → zX l Γ false (d + 1) (zhd 89) (zMQ' Γ false (zhd 89) Kp) 0 0 166 lo' [] h')
    (hE1 : ∀ (lo' : zL) (h' : zH), sInv swC h' → sMd (evT_m t) h h' → 0 ≤ -va - 1 → zget lo' 0 = some (.ref (17 * t + 20)) → zI lo' 1 la → zI lo' 2 (hh - 1) → zI lo' 3 kk → zJ lo' 6 0 → zX l Γ false (d + 1) (zhd 89) (zMQ' Γ false (zhd 89) Kp) 0 0 166 lo' [] h')
    (hE2 : ∀ (lo' : zL) (h' : zH), sInv swC h' → sMd (evT_m t) h h' → 0 ≤ va - 1 → zget lo' 0 = some (.ref (17 * t + 20)) → zI lo' 1 la → zI lo' 2 (hh - 1) → zI lo' 3 kk → zJ lo' 6 0 → zX l Γ false (d + 1) (zhd 89) (zMQ' Γ false (zhd 89) Kp) 0 0 166 lo' [] h') : zX l Γ false (d + 1) (zhd 89) (zMQ' Γ false (zhd 89) Kp) 0 0 21 lo [] h := by
  refine sye_ok (mi := 89) (pc := 21) (fun i => [la, hh, kk, tt, (-28), va].getD i 0) (zall_r evT_b h_t) (fun _ _ hc _ => nomatch hc) hd ⟨l0, zIm l1 (by show 0 ≤ la; omega) (by show la ≤ 2; omega), zIm l2 (by show 1 ≤ hh; omega) (by show hh ≤ 64; omega), zIm l3 (by show 0 ≤ kk; omega) (by show kk ≤ 63; omega), trivial⟩ rfl ⟨(fun _ hc => nomatch hc), (fun _ hc => nomatch hc), (fun _ hc => nomatch hc), Or.inl rfl⟩ ⟨⟨p_tt, by show 0 ≤ tt; omega, by show tt ≤ 64; omega⟩, ⟨p_kn, by show (-28) ≤ (-28); omega, by show (-28) ≤ (-28); omega⟩, trivial⟩ ⟨⟨p_va, by show (-1000000000000) ≤ va; omega, by show va ≤ 1000000000000; omega⟩, trivial⟩ (sfm d0 (fun _ hc => nomatch hc)) hi ?_ ?_
  · intro e he lo' st' h' hp hi' hm
    rcases List.mem_cons.mp he with rfl | he
    · obtain ⟨p1, p2, -, hz⟩ := hp
      obtain ⟨⟨z1, z2, z3, z4⟩, z5, z6⟩ := hz
      have c0 : va = 0 := by have q_ : (0 : Int) ≤ (1 * va + 0) + 0 := z4 ([(5, 1)], 0) (List.mem_of_getElem? (i := 0) rfl); have q2_ : (0 : Int) ≤ ((-1) * va + 0) + 0 := z4 ([(5, (-1))], 0) (List.mem_of_getElem? (i := 1) rfl); omega
      have o0 : zget lo' 0 = some (.ref (17 * t + 20)) := locR (p2 (0, .inr (.inl (17 * t + 20))) (List.mem_of_getElem? (i := 0) rfl))
      have o1 : zI lo' 1 la := zI_of (p2 (1, .inl sf32) (List.mem_of_getElem? (i := 1) rfl)) (z3 (1, ([(0, 1)], 0)) (List.mem_of_getElem? (i := 0) rfl)) (show (1 * la + 0) + 0 = la from by omega)
      have o2 : zI lo' 2 (hh - 1) := zI_of (p2 (2, .inl sf32) (List.mem_of_getElem? (i := 2) rfl)) (z3 (2, ([(1, 1)], (-1))) (List.mem_of_getElem? (i := 1) rfl)) (show (1 * hh + 0) + (-1) = hh - 1 from by omega)
      have o3 : zI lo' 3 kk := zI_of (p2 (3, .inl sf32) (List.mem_of_getElem? (i := 3) rfl)) (z3 (3, ([(2, 1)], 0)) (List.mem_of_getElem? (i := 2) rfl)) (show (1 * kk + 0) + 0 = kk from by omega)
      have o6 : zJ lo' 6 1 := zJ_of (p2 (6, .inr (.inr sf64)) (List.mem_of_getElem? (i := 4) rfl)) (z3 (6, ([], 1)) (List.mem_of_getElem? (i := 3) rfl)) (show 0 + 1 = 1 from by omega)
      have p1 : _ = [] := p1
      subst p1
      exact hE0 lo' h' hi' hm c0 o0 o1 o2 o3 o6
    rcases List.mem_cons.mp he with rfl | he
    · obtain ⟨p1, p2, -, hz⟩ := hp
      obtain ⟨⟨z1, z2, z3, z4⟩, z5, z6⟩ := hz
      have c0 : 0 ≤ -va - 1 := by have q_ : (0 : Int) ≤ ((-1) * va + 0) + (-1) := z4 ([(5, (-1))], (-1)) (List.mem_of_getElem? (i := 0) rfl); omega
      have o0 : zget lo' 0 = some (.ref (17 * t + 20)) := locR (p2 (0, .inr (.inl (17 * t + 20))) (List.mem_of_getElem? (i := 0) rfl))
      have o1 : zI lo' 1 la := zI_of (p2 (1, .inl sf32) (List.mem_of_getElem? (i := 1) rfl)) (z3 (1, ([(0, 1)], 0)) (List.mem_of_getElem? (i := 0) rfl)) (show (1 * la + 0) + 0 = la from by omega)
      have o2 : zI lo' 2 (hh - 1) := zI_of (p2 (2, .inl sf32) (List.mem_of_getElem? (i := 2) rfl)) (z3 (2, ([(1, 1)], (-1))) (List.mem_of_getElem? (i := 1) rfl)) (show (1 * hh + 0) + (-1) = hh - 1 from by omega)
      have o3 : zI lo' 3 kk := zI_of (p2 (3, .inl sf32) (List.mem_of_getElem? (i := 3) rfl)) (z3 (3, ([(2, 1)], 0)) (List.mem_of_getElem? (i := 2) rfl)) (show (1 * kk + 0) + 0 = kk from by omega)
      have o6 : zJ lo' 6 0 := zJ_of (p2 (6, .inr (.inr sf64)) (List.mem_of_getElem? (i := 4) rfl)) (z3 (6, ([], 0)) (List.mem_of_getElem? (i := 3) rfl)) (show 0 + 0 = 0 from by omega)
      have p1 : _ = [] := p1
      subst p1
      exact hE1 lo' h' hi' hm c0 o0 o1 o2 o3 o6
    rcases List.mem_cons.mp he with rfl | he
    · obtain ⟨p1, p2, -, hz⟩ := hp
      obtain ⟨⟨z1, z2, z3, z4⟩, z5, z6⟩ := hz
      have c0 : 0 ≤ va - 1 := by have q_ : (0 : Int) ≤ (1 * va + 0) + (-1) := z4 ([(5, 1)], (-1)) (List.mem_of_getElem? (i := 0) rfl); omega
      have o0 : zget lo' 0 = some (.ref (17 * t + 20)) := locR (p2 (0, .inr (.inl (17 * t + 20))) (List.mem_of_getElem? (i := 0) rfl))
      have o1 : zI lo' 1 la := zI_of (p2 (1, .inl sf32) (List.mem_of_getElem? (i := 1) rfl)) (z3 (1, ([(0, 1)], 0)) (List.mem_of_getElem? (i := 0) rfl)) (show (1 * la + 0) + 0 = la from by omega)
      have o2 : zI lo' 2 (hh - 1) := zI_of (p2 (2, .inl sf32) (List.mem_of_getElem? (i := 2) rfl)) (z3 (2, ([(1, 1)], (-1))) (List.mem_of_getElem? (i := 1) rfl)) (show (1 * hh + 0) + (-1) = hh - 1 from by omega)
      have o3 : zI lo' 3 kk := zI_of (p2 (3, .inl sf32) (List.mem_of_getElem? (i := 3) rfl)) (z3 (3, ([(2, 1)], 0)) (List.mem_of_getElem? (i := 2) rfl)) (show (1 * kk + 0) + 0 = kk from by omega)
      have o6 : zJ lo' 6 0 := zJ_of (p2 (6, .inr (.inr sf64)) (List.mem_of_getElem? (i := 4) rfl)) (z3 (6, ([], 0)) (List.mem_of_getElem? (i := 3) rfl)) (show 0 + 0 = 0 from by omega)
      have p1 : _ = [] := p1
      subst p1
      exact hE2 lo' h' hi' hm c0 o0 o1 o2 o3 o6
    cases he
  · intro e he r' h' hp hi' hm
    cases he
def evAn_L (t : Nat) : List (Nat × sT) := [(0, .inr (.inl (17 * t + 20))), (1, .inl (0, 2)), (2, .inl (2, 64)), (3, .inl (0, 63))]
def evAn_S (t : Nat) : List sT := []
def evAn_A (t : Nat) : sAs := ([], [], [], [])
def evAn_P (t : Nat) : List sP0 := [((17 * t + 23), (some 0, 0), (0, 64)), ((17 * t + 21), (some 2, 0), ((-29), (-29)))]
def evAn_G (t : Nat) : List sP0 := [((17 * t + 25), (some 1, (-2)), ((-1000000000000), 1000000000000)), ((17 * t + 25), (some 1, (-1)), ((-1000000000000), 1000000000000))]
def evAn_B (t : Nat) : List (Nat × Nat × Int) := [(3, 2, 1)]
def evAn_m (t : Nat) : sM := []
def evAn_e0 (t : Nat) : sXe := (166, [], [(0, .inr (.inl (17 * t + 20))), (1, .inl sf32), (2, .inl sf32), (3, .inl sf32), (6, .inr (.inr sf64))], sA0, [], ([], [], [(1, ([(0, 1)], 0)), (2, ([(1, 1)], (-2))), (3, ([(2, 1)], 0)), (6, ([], 0))], [([(5, 1)], 0), ([(6, 1)], 0), ([(5, 1)], 0), ([(5, (-1))], 0)]), [], [])
def evAn_e1 (t : Nat) : sXe := (166, [], [(0, .inr (.inl (17 * t + 20))), (1, .inl sf32), (2, .inl sf32), (3, .inl sf32), (6, .inr (.inr sf64))], sA0, [], ([], [], [(1, ([(0, 1)], 0)), (2, ([(1, 1)], (-2))), (3, ([(2, 1)], 0)), (6, ([], 0))], [([(5, 1)], 0), ([(6, 1)], 0), ([(5, 1)], (-1)), ([(6, 1)], 0), ([(6, (-1))], 0)]), [], [])
def evAn_e2 (t : Nat) : sXe := (166, [], [(0, .inr (.inl (17 * t + 20))), (1, .inl sf32), (2, .inl sf32), (3, .inl sf32), (6, .inr (.inr sf64))], sA0, [], ([], [], [(1, ([(0, 1)], 0)), (2, ([(1, 1)], (-2))), (3, ([(2, 1)], 0)), (6, ([], 1))], [([(5, 1)], 0), ([(6, 1)], 0), ([(5, 1)], (-1)), ([(6, 1)], (-1))]), [], [])
def evAn_e3 (t : Nat) : sXe := (166, [], [(0, .inr (.inl (17 * t + 20))), (1, .inl sf32), (2, .inl sf32), (3, .inl sf32), (6, .inr (.inr sf64))], sA0, [], ([], [], [(1, ([(0, 1)], 0)), (2, ([(1, 1)], (-2))), (3, ([(2, 1)], 0)), (6, ([], 0))], [([(5, 1)], 0), ([(6, (-1))], (-1)), ([(5, 1)], 0), ([(5, (-1))], 0)]), [], [])
def evAn_e4 (t : Nat) : sXe := (166, [], [(0, .inr (.inl (17 * t + 20))), (1, .inl sf32), (2, .inl sf32), (3, .inl sf32), (6, .inr (.inr sf64))], sA0, [], ([], [], [(1, ([(0, 1)], 0)), (2, ([(1, 1)], (-2))), (3, ([(2, 1)], 0)), (6, ([], 1))], [([(5, 1)], 0), ([(6, (-1))], (-1)), ([(5, 1)], (-1))]), [], [])
def evAn_e5 (t : Nat) : sXe := (166, [], [(0, .inr (.inl (17 * t + 20))), (1, .inl sf32), (2, .inl sf32), (3, .inl sf32), (6, .inr (.inr sf64))], sA0, [], ([], [], [(1, ([(0, 1)], 0)), (2, ([(1, 1)], (-2))), (3, ([(2, 1)], 0)), (6, ([], 0))], [([(5, (-1))], (-1)), ([(6, 1)], 0), ([(6, 1)], 0), ([(6, (-1))], 0)]), [], [])
def evAn_e6 (t : Nat) : sXe := (166, [], [(0, .inr (.inl (17 * t + 20))), (1, .inl sf32), (2, .inl sf32), (3, .inl sf32), (6, .inr (.inr sf64))], sA0, [], ([], [], [(1, ([(0, 1)], 0)), (2, ([(1, 1)], (-2))), (3, ([(2, 1)], 0)), (6, ([], 1))], [([(5, (-1))], (-1)), ([(6, 1)], 0), ([(6, 1)], (-1))]), [], [])
def evAn_e7 (t : Nat) : sXe := (166, [], [(0, .inr (.inl (17 * t + 20))), (1, .inl sf32), (2, .inl sf32), (3, .inl sf32), (6, .inr (.inr sf64))], sA0, [], ([], [], [(1, ([(0, 1)], 0)), (2, ([(1, 1)], (-2))), (3, ([(2, 1)], 0)), (6, ([], 1))], [([(5, (-1))], (-1)), ([(6, (-1))], (-1))]), [], [])
theorem evAn_b : ((List.range 2).all fun t => syeB swC sT0 (evAn_m t) 400 1 89 (evAn_L t) (evAn_S t) (evAn_A t) (evAn_P t) (evAn_G t) (evAn_B t) 21 [evAn_e0 t, evAn_e1 t, evAn_e2 t, evAn_e3 t, evAn_e4 t, evAn_e5 t, evAn_e6 t, evAn_e7 t] []) = true := by decide +kernel
theorem evAn {l : Launch} {Γ : zG} {d : Nat} (hd : 1 ≤ d) {Kp : Option Value → zH → Prop} {lo : zL} {h : zH} {t : Nat} (h_t : t < 2) {la hh kk tt va vb : Int} (hi : sInv swC h) (b_la : 0 ≤ la ∧ la ≤ 2) (b_hh : 2 ≤ hh ∧ hh ≤ 64) (b_kk : 0 ≤ kk ∧ kk ≤ 63) (b_tt : 0 ≤ tt ∧ tt ≤ 64) (b_va : (-1000000000000) ≤ va ∧ va ≤ 1000000000000) (b_vb : (-1000000000000) ≤ vb ∧ vb ≤ 1000000000000) (l0 : zget lo 0 = some (.ref (17 * t + 20))) (l1 : zI lo 1 la) (l2 : zI lo 2 hh) (l3 : zI lo 3 kk) (p_tt : pI h (17 * t + 23) (la + 0).toNat = tt) (p_kn : pI h (17 * t + 21) (kk + 0).toNat = (-29)) (p_va : pL h (17 * t + 25) (hh + (-2)).toNat = va) (p_vb : pL h (17 * t + 25) (hh + (-1)).toNat = vb) (d0 : 1 ≤ tt - kk)
    (hE0 : ∀ (lo' : zL) (h' : zH), sInv swC h' → sMd (evAn_m t) h h' → 0 ≤ va → 0 ≤ vb → va = 0 → zget lo' 0 = some (.ref (17 * t + 20)) → zI lo' 1 la → zI lo' 2 (hh - 2) → zI lo' 3 kk → zJ lo' 6 0 → zX l Γ false (d + 1) (zhd 89) (zMQ' Γ false (zhd 89) Kp) 0 0 166 lo' [] h')
    (hE1 : ∀ (lo' : zL) (h' : zH), sInv swC h' → sMd (evAn_m t) h h' → 0 ≤ va → 0 ≤ vb → 0 ≤ va - 1 → vb = 0 → zget lo' 0 = some (.ref (17 * t + 20)) → zI lo' 1 la → zI lo' 2 (hh - 2) → zI lo' 3 kk → zJ lo' 6 0 → zX l Γ false (d + 1) (zhd 89) (zMQ' Γ false (zhd 89) Kp) 0 0 166 lo' [] h')
    (hE2 : ∀ (lo' : zL) (h' : zH), sInv swC h' → sMd (evAn_m t) h h' → 0 ≤ va → 0 ≤ vb → 0 ≤ va - 1 → 0 ≤ vb - 1 → zget lo' 0 = some (.ref (17 * t + 20)) → zI lo' 1 la → zI lo' 2 (hh - 2) → zI lo' 3 kk → zJ lo' 6 1 → zX l Γ false (d + 1) (zhd 89) (zMQ' Γ false (zhd 89) Kp) 0 0 166 lo' [] h')
    (hE3 : ∀ (lo' : zL) (h' : zH), sInv swC h' → sMd (evAn_m t) h h' → 0 ≤ va → 0 ≤ -vb - 1 → va = 0 → zget lo' 0 = some (.ref (17 * t + 20)) → zI lo' 1 la → zI lo' 2 (hh - 2) → zI lo' 3 kk → zJ lo' 6 0 → zX l Γ false (d + 1) (zhd 89) (zMQ' Γ false (zhd 89) Kp) 0 0 166 lo' [] h')
    (hE4 : ∀ (lo' : zL) (h' : zH), sInv swC h' → sMd (evAn_m t) h h' → 0 ≤ va → 0 ≤ -vb - 1 → 0 ≤ va - 1 → zget lo' 0 = some (.ref (17 * t + 20)) → zI lo' 1 la → zI lo' 2 (hh - 2) → zI lo' 3 kk → zJ lo' 6 1 → zX l Γ false (d + 1) (zhd 89) (zMQ' Γ false (zhd 89) Kp) 0 0 166 lo' [] h')
    (hE5 : ∀ (lo' : zL) (h' : zH), sInv swC h' → sMd (evAn_m t) h h' → 0 ≤ -va - 1 → 0 ≤ vb → vb = 0 → zget lo' 0 = some (.ref (17 * t + 20)) → zI lo' 1 la → zI lo' 2 (hh - 2) → zI lo' 3 kk → zJ lo' 6 0 → zX l Γ false (d + 1) (zhd 89) (zMQ' Γ false (zhd 89) Kp) 0 0 166 lo' [] h')
    (hE6 : ∀ (lo' : zL) (h' : zH), sInv swC h' → sMd (evAn_m t) h h' → 0 ≤ -va - 1 → 0 ≤ vb → 0 ≤ vb - 1 → zget lo' 0 = some (.ref (17 * t + 20)) → zI lo' 1 la → zI lo' 2 (hh - 2) → zI lo' 3 kk → zJ lo' 6 1 → zX l Γ false (d + 1) (zhd 89) (zMQ' Γ false (zhd 89) Kp) 0 0 166 lo' [] h')
    (hE7 : ∀ (lo' : zL) (h' : zH), sInv swC h' → sMd (evAn_m t) h h' → 0 ≤ -va - 1 → 0 ≤ -vb - 1 → zget lo' 0 = some (.ref (17 * t + 20)) → zI lo' 1 la → zI lo' 2 (hh - 2) → zI lo' 3 kk → zJ lo' 6 1 → zX l Γ false (d + 1) (zhd 89) (zMQ' Γ false (zhd 89) Kp) 0 0 166 lo' [] h') : zX l Γ false (d + 1) (zhd 89) (zMQ' Γ false (zhd 89) Kp) 0 0 21 lo [] h := by
  refine sye_ok (mi := 89) (pc := 21) (fun i => [la, hh, kk, tt, (-29), va, vb].getD i 0) (zall_r evAn_b h_t) (fun _ _ hc _ => nomatch hc) hd ⟨l0, zIm l1 (by show 0 ≤ la; omega) (by show la ≤ 2; omega), zIm l2 (by show 2 ≤ hh; omega) (by show hh ≤ 64; omega), zIm l3 (by show 0 ≤ kk; omega) (by show kk ≤ 63; omega), trivial⟩ rfl ⟨(fun _ hc => nomatch hc), (fun _ hc => nomatch hc), (fun _ hc => nomatch hc), Or.inl rfl⟩ ⟨⟨p_tt, by show 0 ≤ tt; omega, by show tt ≤ 64; omega⟩, ⟨p_kn, by show (-29) ≤ (-29); omega, by show (-29) ≤ (-29); omega⟩, trivial⟩ ⟨⟨p_va, by show (-1000000000000) ≤ va; omega, by show va ≤ 1000000000000; omega⟩, ⟨p_vb, by show (-1000000000000) ≤ vb; omega, by show vb ≤ 1000000000000; omega⟩, trivial⟩ (sfm d0 (fun _ hc => nomatch hc)) hi ?_ ?_
  · intro e he lo' st' h' hp hi' hm
    rcases List.mem_cons.mp he with rfl | he
    · obtain ⟨p1, p2, -, hz⟩ := hp
      obtain ⟨⟨z1, z2, z3, z4⟩, z5, z6⟩ := hz
      have c0 : 0 ≤ va := by have q_ : (0 : Int) ≤ (1 * va + 0) + 0 := z4 ([(5, 1)], 0) (List.mem_of_getElem? (i := 0) rfl); omega
      have c1 : 0 ≤ vb := by have q_ : (0 : Int) ≤ (1 * vb + 0) + 0 := z4 ([(6, 1)], 0) (List.mem_of_getElem? (i := 1) rfl); omega
      have c2 : va = 0 := by have q_ : (0 : Int) ≤ (1 * va + 0) + 0 := z4 ([(5, 1)], 0) (List.mem_of_getElem? (i := 2) rfl); have q2_ : (0 : Int) ≤ ((-1) * va + 0) + 0 := z4 ([(5, (-1))], 0) (List.mem_of_getElem? (i := 3) rfl); omega
      have o0 : zget lo' 0 = some (.ref (17 * t + 20)) := locR (p2 (0, .inr (.inl (17 * t + 20))) (List.mem_of_getElem? (i := 0) rfl))
      have o1 : zI lo' 1 la := zI_of (p2 (1, .inl sf32) (List.mem_of_getElem? (i := 1) rfl)) (z3 (1, ([(0, 1)], 0)) (List.mem_of_getElem? (i := 0) rfl)) (show (1 * la + 0) + 0 = la from by omega)
      have o2 : zI lo' 2 (hh - 2) := zI_of (p2 (2, .inl sf32) (List.mem_of_getElem? (i := 2) rfl)) (z3 (2, ([(1, 1)], (-2))) (List.mem_of_getElem? (i := 1) rfl)) (show (1 * hh + 0) + (-2) = hh - 2 from by omega)
      have o3 : zI lo' 3 kk := zI_of (p2 (3, .inl sf32) (List.mem_of_getElem? (i := 3) rfl)) (z3 (3, ([(2, 1)], 0)) (List.mem_of_getElem? (i := 2) rfl)) (show (1 * kk + 0) + 0 = kk from by omega)
      have o6 : zJ lo' 6 0 := zJ_of (p2 (6, .inr (.inr sf64)) (List.mem_of_getElem? (i := 4) rfl)) (z3 (6, ([], 0)) (List.mem_of_getElem? (i := 3) rfl)) (show 0 + 0 = 0 from by omega)
      have p1 : _ = [] := p1
      subst p1
      exact hE0 lo' h' hi' hm c0 c1 c2 o0 o1 o2 o3 o6
    rcases List.mem_cons.mp he with rfl | he
    · obtain ⟨p1, p2, -, hz⟩ := hp
      obtain ⟨⟨z1, z2, z3, z4⟩, z5, z6⟩ := hz
      have c0 : 0 ≤ va := by have q_ : (0 : Int) ≤ (1 * va + 0) + 0 := z4 ([(5, 1)], 0) (List.mem_of_getElem? (i := 0) rfl); omega
      have c1 : 0 ≤ vb := by have q_ : (0 : Int) ≤ (1 * vb + 0) + 0 := z4 ([(6, 1)], 0) (List.mem_of_getElem? (i := 1) rfl); omega
      have c2 : 0 ≤ va - 1 := by have q_ : (0 : Int) ≤ (1 * va + 0) + (-1) := z4 ([(5, 1)], (-1)) (List.mem_of_getElem? (i := 2) rfl); omega
      have c3 : vb = 0 := by have q_ : (0 : Int) ≤ (1 * vb + 0) + 0 := z4 ([(6, 1)], 0) (List.mem_of_getElem? (i := 3) rfl); have q2_ : (0 : Int) ≤ ((-1) * vb + 0) + 0 := z4 ([(6, (-1))], 0) (List.mem_of_getElem? (i := 4) rfl); omega
      have o0 : zget lo' 0 = some (.ref (17 * t + 20)) := locR (p2 (0, .inr (.inl (17 * t + 20))) (List.mem_of_getElem? (i := 0) rfl))
      have o1 : zI lo' 1 la := zI_of (p2 (1, .inl sf32) (List.mem_of_getElem? (i := 1) rfl)) (z3 (1, ([(0, 1)], 0)) (List.mem_of_getElem? (i := 0) rfl)) (show (1 * la + 0) + 0 = la from by omega)
      have o2 : zI lo' 2 (hh - 2) := zI_of (p2 (2, .inl sf32) (List.mem_of_getElem? (i := 2) rfl)) (z3 (2, ([(1, 1)], (-2))) (List.mem_of_getElem? (i := 1) rfl)) (show (1 * hh + 0) + (-2) = hh - 2 from by omega)
      have o3 : zI lo' 3 kk := zI_of (p2 (3, .inl sf32) (List.mem_of_getElem? (i := 3) rfl)) (z3 (3, ([(2, 1)], 0)) (List.mem_of_getElem? (i := 2) rfl)) (show (1 * kk + 0) + 0 = kk from by omega)
      have o6 : zJ lo' 6 0 := zJ_of (p2 (6, .inr (.inr sf64)) (List.mem_of_getElem? (i := 4) rfl)) (z3 (6, ([], 0)) (List.mem_of_getElem? (i := 3) rfl)) (show 0 + 0 = 0 from by omega)
      have p1 : _ = [] := p1
      subst p1
      exact hE1 lo' h' hi' hm c0 c1 c2 c3 o0 o1 o2 o3 o6
    rcases List.mem_cons.mp he with rfl | he
    · obtain ⟨p1, p2, -, hz⟩ := hp
      obtain ⟨⟨z1, z2, z3, z4⟩, z5, z6⟩ := hz
      have c0 : 0 ≤ va := by have q_ : (0 : Int) ≤ (1 * va + 0) + 0 := z4 ([(5, 1)], 0) (List.mem_of_getElem? (i := 0) rfl); omega
      have c1 : 0 ≤ vb := by have q_ : (0 : Int) ≤ (1 * vb + 0) + 0 := z4 ([(6, 1)], 0) (List.mem_of_getElem? (i := 1) rfl); omega
      have c2 : 0 ≤ va - 1 := by have q_ : (0 : Int) ≤ (1 * va + 0) + (-1) := z4 ([(5, 1)], (-1)) (List.mem_of_getElem? (i := 2) rfl); omega
      have c3 : 0 ≤ vb - 1 := by have q_ : (0 : Int) ≤ (1 * vb + 0) + (-1) := z4 ([(6, 1)], (-1)) (List.mem_of_getElem? (i := 3) rfl); omega
      have o0 : zget lo' 0 = some (.ref (17 * t + 20)) := locR (p2 (0, .inr (.inl (17 * t + 20))) (List.mem_of_getElem? (i := 0) rfl))
      have o1 : zI lo' 1 la := zI_of (p2 (1, .inl sf32) (List.mem_of_getElem? (i := 1) rfl)) (z3 (1, ([(0, 1)], 0)) (List.mem_of_getElem? (i := 0) rfl)) (show (1 * la + 0) + 0 = la from by omega)
      have o2 : zI lo' 2 (hh - 2) := zI_of (p2 (2, .inl sf32) (List.mem_of_getElem? (i := 2) rfl)) (z3 (2, ([(1, 1)], (-2))) (List.mem_of_getElem? (i := 1) rfl)) (show (1 * hh + 0) + (-2) = hh - 2 from by omega)
      have o3 : zI lo' 3 kk := zI_of (p2 (3, .inl sf32) (List.mem_of_getElem? (i := 3) rfl)) (z3 (3, ([(2, 1)], 0)) (List.mem_of_getElem? (i := 2) rfl)) (show (1 * kk + 0) + 0 = kk from by omega)
      have o6 : zJ lo' 6 1 := zJ_of (p2 (6, .inr (.inr sf64)) (List.mem_of_getElem? (i := 4) rfl)) (z3 (6, ([], 1)) (List.mem_of_getElem? (i := 3) rfl)) (show 0 + 1 = 1 from by omega)
      have p1 : _ = [] := p1
      subst p1
      exact hE2 lo' h' hi' hm c0 c1 c2 c3 o0 o1 o2 o3 o6
    rcases List.mem_cons.mp he with rfl | he
    · obtain ⟨p1, p2, -, hz⟩ := hp
      obtain ⟨⟨z1, z2, z3, z4⟩, z5, z6⟩ := hz
      have c0 : 0 ≤ va := by have q_ : (0 : Int) ≤ (1 * va + 0) + 0 := z4 ([(5, 1)], 0) (List.mem_of_getElem? (i := 0) rfl); omega
      have c1 : 0 ≤ -vb - 1 := by have q_ : (0 : Int) ≤ ((-1) * vb + 0) + (-1) := z4 ([(6, (-1))], (-1)) (List.mem_of_getElem? (i := 1) rfl); omega
      have c2 : va = 0 := by have q_ : (0 : Int) ≤ (1 * va + 0) + 0 := z4 ([(5, 1)], 0) (List.mem_of_getElem? (i := 2) rfl); have q2_ : (0 : Int) ≤ ((-1) * va + 0) + 0 := z4 ([(5, (-1))], 0) (List.mem_of_getElem? (i := 3) rfl); omega
      have o0 : zget lo' 0 = some (.ref (17 * t + 20)) := locR (p2 (0, .inr (.inl (17 * t + 20))) (List.mem_of_getElem? (i := 0) rfl))
      have o1 : zI lo' 1 la := zI_of (p2 (1, .inl sf32) (List.mem_of_getElem? (i := 1) rfl)) (z3 (1, ([(0, 1)], 0)) (List.mem_of_getElem? (i := 0) rfl)) (show (1 * la + 0) + 0 = la from by omega)
      have o2 : zI lo' 2 (hh - 2) := zI_of (p2 (2, .inl sf32) (List.mem_of_getElem? (i := 2) rfl)) (z3 (2, ([(1, 1)], (-2))) (List.mem_of_getElem? (i := 1) rfl)) (show (1 * hh + 0) + (-2) = hh - 2 from by omega)
      have o3 : zI lo' 3 kk := zI_of (p2 (3, .inl sf32) (List.mem_of_getElem? (i := 3) rfl)) (z3 (3, ([(2, 1)], 0)) (List.mem_of_getElem? (i := 2) rfl)) (show (1 * kk + 0) + 0 = kk from by omega)
      have o6 : zJ lo' 6 0 := zJ_of (p2 (6, .inr (.inr sf64)) (List.mem_of_getElem? (i := 4) rfl)) (z3 (6, ([], 0)) (List.mem_of_getElem? (i := 3) rfl)) (show 0 + 0 = 0 from by omega)
      have p1 : _ = [] := p1
      subst p1
      exact hE3 lo' h' hi' hm c0 c1 c2 o0 o1 o2 o3 o6
    rcases List.mem_cons.mp he with rfl | he
    · obtain ⟨p1, p2, -, hz⟩ := hp
      obtain ⟨⟨z1, z2, z3, z4⟩, z5, z6⟩ := hz
      have c0 : 0 ≤ va := by have q_ : (0 : Int) ≤ (1 * va + 0) + 0 := z4 ([(5, 1)], 0) (List.mem_of_getElem? (i := 0) rfl); omega
      have c1 : 0 ≤ -vb - 1 := by have q_ : (0 : Int) ≤ ((-1) * vb + 0) + (-1) := z4 ([(6, (-1))], (-1)) (List.mem_of_getElem? (i := 1) rfl); omega
      have c2 : 0 ≤ va - 1 := by have q_ : (0 : Int) ≤ (1 * va + 0) + (-1) := z4 ([(5, 1)], (-1)) (List.mem_of_getElem? (i := 2) rfl); omega
      have o0 : zget lo' 0 = some (.ref (17 * t + 20)) := locR (p2 (0, .inr (.inl (17 * t + 20))) (List.mem_of_getElem? (i := 0) rfl))
      have o1 : zI lo' 1 la := zI_of (p2 (1, .inl sf32) (List.mem_of_getElem? (i := 1) rfl)) (z3 (1, ([(0, 1)], 0)) (List.mem_of_getElem? (i := 0) rfl)) (show (1 * la + 0) + 0 = la from by omega)
      have o2 : zI lo' 2 (hh - 2) := zI_of (p2 (2, .inl sf32) (List.mem_of_getElem? (i := 2) rfl)) (z3 (2, ([(1, 1)], (-2))) (List.mem_of_getElem? (i := 1) rfl)) (show (1 * hh + 0) + (-2) = hh - 2 from by omega)
      have o3 : zI lo' 3 kk := zI_of (p2 (3, .inl sf32) (List.mem_of_getElem? (i := 3) rfl)) (z3 (3, ([(2, 1)], 0)) (List.mem_of_getElem? (i := 2) rfl)) (show (1 * kk + 0) + 0 = kk from by omega)
      have o6 : zJ lo' 6 1 := zJ_of (p2 (6, .inr (.inr sf64)) (List.mem_of_getElem? (i := 4) rfl)) (z3 (6, ([], 1)) (List.mem_of_getElem? (i := 3) rfl)) (show 0 + 1 = 1 from by omega)
      have p1 : _ = [] := p1
      subst p1
      exact hE4 lo' h' hi' hm c0 c1 c2 o0 o1 o2 o3 o6
    rcases List.mem_cons.mp he with rfl | he
    · obtain ⟨p1, p2, -, hz⟩ := hp
      obtain ⟨⟨z1, z2, z3, z4⟩, z5, z6⟩ := hz
      have c0 : 0 ≤ -va - 1 := by have q_ : (0 : Int) ≤ ((-1) * va + 0) + (-1) := z4 ([(5, (-1))], (-1)) (List.mem_of_getElem? (i := 0) rfl); omega
      have c1 : 0 ≤ vb := by have q_ : (0 : Int) ≤ (1 * vb + 0) + 0 := z4 ([(6, 1)], 0) (List.mem_of_getElem? (i := 1) rfl); omega
      have c2 : vb = 0 := by have q_ : (0 : Int) ≤ (1 * vb + 0) + 0 := z4 ([(6, 1)], 0) (List.mem_of_getElem? (i := 2) rfl); have q2_ : (0 : Int) ≤ ((-1) * vb + 0) + 0 := z4 ([(6, (-1))], 0) (List.mem_of_getElem? (i := 3) rfl); omega
      have o0 : zget lo' 0 = some (.ref (17 * t + 20)) := locR (p2 (0, .inr (.inl (17 * t + 20))) (List.mem_of_getElem? (i := 0) rfl))
      have o1 : zI lo' 1 la := zI_of (p2 (1, .inl sf32) (List.mem_of_getElem? (i := 1) rfl)) (z3 (1, ([(0, 1)], 0)) (List.mem_of_getElem? (i := 0) rfl)) (show (1 * la + 0) + 0 = la from by omega)
      have o2 : zI lo' 2 (hh - 2) := zI_of (p2 (2, .inl sf32) (List.mem_of_getElem? (i := 2) rfl)) (z3 (2, ([(1, 1)], (-2))) (List.mem_of_getElem? (i := 1) rfl)) (show (1 * hh + 0) + (-2) = hh - 2 from by omega)
      have o3 : zI lo' 3 kk := zI_of (p2 (3, .inl sf32) (List.mem_of_getElem? (i := 3) rfl)) (z3 (3, ([(2, 1)], 0)) (List.mem_of_getElem? (i := 2) rfl)) (show (1 * kk + 0) + 0 = kk from by omega)
      have o6 : zJ lo' 6 0 := zJ_of (p2 (6, .inr (.inr sf64)) (List.mem_of_getElem? (i := 4) rfl)) (z3 (6, ([], 0)) (List.mem_of_getElem? (i := 3) rfl)) (show 0 + 0 = 0 from by omega)
      have p1 : _ = [] := p1
      subst p1
      exact hE5 lo' h' hi' hm c0 c1 c2 o0 o1 o2 o3 o6
    rcases List.mem_cons.mp he with rfl | he
    · obtain ⟨p1, p2, -, hz⟩ := hp
      obtain ⟨⟨z1, z2, z3, z4⟩, z5, z6⟩ := hz
      have c0 : 0 ≤ -va - 1 := by have q_ : (0 : Int) ≤ ((-1) * va + 0) + (-1) := z4 ([(5, (-1))], (-1)) (List.mem_of_getElem? (i := 0) rfl); omega
      have c1 : 0 ≤ vb := by have q_ : (0 : Int) ≤ (1 * vb + 0) + 0 := z4 ([(6, 1)], 0) (List.mem_of_getElem? (i := 1) rfl); omega
      have c2 : 0 ≤ vb - 1 := by have q_ : (0 : Int) ≤ (1 * vb + 0) + (-1) := z4 ([(6, 1)], (-1)) (List.mem_of_getElem? (i := 2) rfl); omega
      have o0 : zget lo' 0 = some (.ref (17 * t + 20)) := locR (p2 (0, .inr (.inl (17 * t + 20))) (List.mem_of_getElem? (i := 0) rfl))
      have o1 : zI lo' 1 la := zI_of (p2 (1, .inl sf32) (List.mem_of_getElem? (i := 1) rfl)) (z3 (1, ([(0, 1)], 0)) (List.mem_of_getElem? (i := 0) rfl)) (show (1 * la + 0) + 0 = la from by omega)
      have o2 : zI lo' 2 (hh - 2) := zI_of (p2 (2, .inl sf32) (List.mem_of_getElem? (i := 2) rfl)) (z3 (2, ([(1, 1)], (-2))) (List.mem_of_getElem? (i := 1) rfl)) (show (1 * hh + 0) + (-2) = hh - 2 from by omega)
      have o3 : zI lo' 3 kk := zI_of (p2 (3, .inl sf32) (List.mem_of_getElem? (i := 3) rfl)) (z3 (3, ([(2, 1)], 0)) (List.mem_of_getElem? (i := 2) rfl)) (show (1 * kk + 0) + 0 = kk from by omega)
      have o6 : zJ lo' 6 1 := zJ_of (p2 (6, .inr (.inr sf64)) (List.mem_of_getElem? (i := 4) rfl)) (z3 (6, ([], 1)) (List.mem_of_getElem? (i := 3) rfl)) (show 0 + 1 = 1 from by omega)
      have p1 : _ = [] := p1
      subst p1
      exact hE6 lo' h' hi' hm c0 c1 c2 o0 o1 o2 o3 o6
    rcases List.mem_cons.mp he with rfl | he
    · obtain ⟨p1, p2, -, hz⟩ := hp
      obtain ⟨⟨z1, z2, z3, z4⟩, z5, z6⟩ := hz
      have c0 : 0 ≤ -va - 1 := by have q_ : (0 : Int) ≤ ((-1) * va + 0) + (-1) := z4 ([(5, (-1))], (-1)) (List.mem_of_getElem? (i := 0) rfl); omega
      have c1 : 0 ≤ -vb - 1 := by have q_ : (0 : Int) ≤ ((-1) * vb + 0) + (-1) := z4 ([(6, (-1))], (-1)) (List.mem_of_getElem? (i := 1) rfl); omega
      have o0 : zget lo' 0 = some (.ref (17 * t + 20)) := locR (p2 (0, .inr (.inl (17 * t + 20))) (List.mem_of_getElem? (i := 0) rfl))
      have o1 : zI lo' 1 la := zI_of (p2 (1, .inl sf32) (List.mem_of_getElem? (i := 1) rfl)) (z3 (1, ([(0, 1)], 0)) (List.mem_of_getElem? (i := 0) rfl)) (show (1 * la + 0) + 0 = la from by omega)
      have o2 : zI lo' 2 (hh - 2) := zI_of (p2 (2, .inl sf32) (List.mem_of_getElem? (i := 2) rfl)) (z3 (2, ([(1, 1)], (-2))) (List.mem_of_getElem? (i := 1) rfl)) (show (1 * hh + 0) + (-2) = hh - 2 from by omega)
      have o3 : zI lo' 3 kk := zI_of (p2 (3, .inl sf32) (List.mem_of_getElem? (i := 3) rfl)) (z3 (3, ([(2, 1)], 0)) (List.mem_of_getElem? (i := 2) rfl)) (show (1 * kk + 0) + 0 = kk from by omega)
      have o6 : zJ lo' 6 1 := zJ_of (p2 (6, .inr (.inr sf64)) (List.mem_of_getElem? (i := 4) rfl)) (z3 (6, ([], 1)) (List.mem_of_getElem? (i := 3) rfl)) (show 0 + 1 = 1 from by omega)
      have p1 : _ = [] := p1
      subst p1
      exact hE7 lo' h' hi' hm c0 c1 o0 o1 o2 o3 o6
    cases he
  · intro e he r' h' hp hi' hm
    cases he
def evOr_L (t : Nat) : List (Nat × sT) := [(0, .inr (.inl (17 * t + 20))), (1, .inl (0, 2)), (2, .inl (2, 64)), (3, .inl (0, 63))]
def evOr_S (t : Nat) : List sT := []
def evOr_A (t : Nat) : sAs := ([], [], [], [])
def evOr_P (t : Nat) : List sP0 := [((17 * t + 23), (some 0, 0), (0, 64)), ((17 * t + 21), (some 2, 0), ((-30), (-30)))]
def evOr_G (t : Nat) : List sP0 := [((17 * t + 25), (some 1, (-2)), ((-1000000000000), 1000000000000)), ((17 * t + 25), (some 1, (-1)), ((-1000000000000), 1000000000000))]
def evOr_B (t : Nat) : List (Nat × Nat × Int) := [(3, 2, 1)]
def evOr_m (t : Nat) : sM := []
def evOr_e0 (t : Nat) : sXe := (166, [], [(0, .inr (.inl (17 * t + 20))), (1, .inl sf32), (2, .inl sf32), (3, .inl sf32), (6, .inr (.inr sf64))], sA0, [], ([], [], [(1, ([(0, 1)], 0)), (2, ([(1, 1)], (-2))), (3, ([(2, 1)], 0)), (6, ([], 0))], [([(5, 1)], 0), ([(6, 1)], 0), ([(5, 1)], 0), ([(5, (-1))], 0), ([(6, 1)], 0), ([(6, (-1))], 0)]), [], [])
def evOr_e1 (t : Nat) : sXe := (166, [], [(0, .inr (.inl (17 * t + 20))), (1, .inl sf32), (2, .inl sf32), (3, .inl sf32), (6, .inr (.inr sf64))], sA0, [], ([], [], [(1, ([(0, 1)], 0)), (2, ([(1, 1)], (-2))), (3, ([(2, 1)], 0)), (6, ([], 1))], [([(5, 1)], 0), ([(6, 1)], 0), ([(6, 1)], (-1)), ([(5, 1)], 0), ([(5, (-1))], 0)]), [], [])
def evOr_e2 (t : Nat) : sXe := (166, [], [(0, .inr (.inl (17 * t + 20))), (1, .inl sf32), (2, .inl sf32), (3, .inl sf32), (6, .inr (.inr sf64))], sA0, [], ([], [], [(1, ([(0, 1)], 0)), (2, ([(1, 1)], (-2))), (3, ([(2, 1)], 0)), (6, ([], 1))], [([(5, 1)], 0), ([(6, 1)], 0), ([(5, 1)], (-1))]), [], [])
def evOr_e3 (t : Nat) : sXe := (166, [], [(0, .inr (.inl (17 * t + 20))), (1, .inl sf32), (2, .inl sf32), (3, .inl sf32), (6, .inr (.inr sf64))], sA0, [], ([], [], [(1, ([(0, 1)], 0)), (2, ([(1, 1)], (-2))), (3, ([(2, 1)], 0)), (6, ([], 1))], [([(5, 1)], 0), ([(6, (-1))], (-1)), ([(5, 1)], 0), ([(5, (-1))], 0)]), [], [])
def evOr_e4 (t : Nat) : sXe := (166, [], [(0, .inr (.inl (17 * t + 20))), (1, .inl sf32), (2, .inl sf32), (3, .inl sf32), (6, .inr (.inr sf64))], sA0, [], ([], [], [(1, ([(0, 1)], 0)), (2, ([(1, 1)], (-2))), (3, ([(2, 1)], 0)), (6, ([], 1))], [([(5, 1)], 0), ([(6, (-1))], (-1)), ([(5, 1)], (-1))]), [], [])
def evOr_e5 (t : Nat) : sXe := (166, [], [(0, .inr (.inl (17 * t + 20))), (1, .inl sf32), (2, .inl sf32), (3, .inl sf32), (6, .inr (.inr sf64))], sA0, [], ([], [], [(1, ([(0, 1)], 0)), (2, ([(1, 1)], (-2))), (3, ([(2, 1)], 0)), (6, ([], 1))], [([(5, (-1))], (-1)), ([(6, 1)], 0)]), [], [])
def evOr_e6 (t : Nat) : sXe := (166, [], [(0, .inr (.inl (17 * t + 20))), (1, .inl sf32), (2, .inl sf32), (3, .inl sf32), (6, .inr (.inr sf64))], sA0, [], ([], [], [(1, ([(0, 1)], 0)), (2, ([(1, 1)], (-2))), (3, ([(2, 1)], 0)), (6, ([], 1))], [([(5, (-1))], (-1)), ([(6, (-1))], (-1))]), [], [])
theorem evOr_b : ((List.range 2).all fun t => syeB swC sT0 (evOr_m t) 400 1 89 (evOr_L t) (evOr_S t) (evOr_A t) (evOr_P t) (evOr_G t) (evOr_B t) 21 [evOr_e0 t, evOr_e1 t, evOr_e2 t, evOr_e3 t, evOr_e4 t, evOr_e5 t, evOr_e6 t] []) = true := by decide +kernel
theorem evOr {l : Launch} {Γ : zG} {d : Nat} (hd : 1 ≤ d) {Kp : Option Value → zH → Prop} {lo : zL} {h : zH} {t : Nat} (h_t : t < 2) {la hh kk tt va vb : Int} (hi : sInv swC h) (b_la : 0 ≤ la ∧ la ≤ 2) (b_hh : 2 ≤ hh ∧ hh ≤ 64) (b_kk : 0 ≤ kk ∧ kk ≤ 63) (b_tt : 0 ≤ tt ∧ tt ≤ 64) (b_va : (-1000000000000) ≤ va ∧ va ≤ 1000000000000) (b_vb : (-1000000000000) ≤ vb ∧ vb ≤ 1000000000000) (l0 : zget lo 0 = some (.ref (17 * t + 20))) (l1 : zI lo 1 la) (l2 : zI lo 2 hh) (l3 : zI lo 3 kk) (p_tt : pI h (17 * t + 23) (la + 0).toNat = tt) (p_kn : pI h (17 * t + 21) (kk + 0).toNat = (-30)) (p_va : pL h (17 * t + 25) (hh + (-2)).toNat = va) (p_vb : pL h (17 * t + 25) (hh + (-1)).toNat = vb) (d0 : 1 ≤ tt - kk)
    (hE0 : ∀ (lo' : zL) (h' : zH), sInv swC h' → sMd (evOr_m t) h h' → 0 ≤ va → 0 ≤ vb → va = 0 → vb = 0 → zget lo' 0 = some (.ref (17 * t + 20)) → zI lo' 1 la → zI lo' 2 (hh - 2) → zI lo' 3 kk → zJ lo' 6 0 → zX l Γ false (d + 1) (zhd 89) (zMQ' Γ false (zhd 89) Kp) 0 0 166 lo' [] h')
    (hE1 : ∀ (lo' : zL) (h' : zH), sInv swC h' → sMd (evOr_m t) h h' → 0 ≤ va → 0 ≤ vb → 0 ≤ vb - 1 → va = 0 → zget lo' 0 = some (.ref (17 * t + 20)) → zI lo' 1 la → zI lo' 2 (hh - 2) → zI lo' 3 kk → zJ lo' 6 1 → zX l Γ false (d + 1) (zhd 89) (zMQ' Γ false (zhd 89) Kp) 0 0 166 lo' [] h')
    (hE2 : ∀ (lo' : zL) (h' : zH), sInv swC h' → sMd (evOr_m t) h h' → 0 ≤ va → 0 ≤ vb → 0 ≤ va - 1 → zget lo' 0 = some (.ref (17 * t + 20)) → zI lo' 1 la → zI lo' 2 (hh - 2) → zI lo' 3 kk → zJ lo' 6 1 → zX l Γ false (d + 1) (zhd 89) (zMQ' Γ false (zhd 89) Kp) 0 0 166 lo' [] h')
    (hE3 : ∀ (lo' : zL) (h' : zH), sInv swC h' → sMd (evOr_m t) h h' → 0 ≤ va → 0 ≤ -vb - 1 → va = 0 → zget lo' 0 = some (.ref (17 * t + 20)) → zI lo' 1 la → zI lo' 2 (hh - 2) → zI lo' 3 kk → zJ lo' 6 1 → zX l Γ false (d + 1) (zhd 89) (zMQ' Γ false (zhd 89) Kp) 0 0 166 lo' [] h')
    (hE4 : ∀ (lo' : zL) (h' : zH), sInv swC h' → sMd (evOr_m t) h h' → 0 ≤ va → 0 ≤ -vb - 1 → 0 ≤ va - 1 → zget lo' 0 = some (.ref (17 * t + 20)) → zI lo' 1 la → zI lo' 2 (hh - 2) → zI lo' 3 kk → zJ lo' 6 1 → zX l Γ false (d + 1) (zhd 89) (zMQ' Γ false (zhd 89) Kp) 0 0 166 lo' [] h')
    (hE5 : ∀ (lo' : zL) (h' : zH), sInv swC h' → sMd (evOr_m t) h h' → 0 ≤ -va - 1 → 0 ≤ vb → zget lo' 0 = some (.ref (17 * t + 20)) → zI lo' 1 la → zI lo' 2 (hh - 2) → zI lo' 3 kk → zJ lo' 6 1 → zX l Γ false (d + 1) (zhd 89) (zMQ' Γ false (zhd 89) Kp) 0 0 166 lo' [] h')
    (hE6 : ∀ (lo' : zL) (h' : zH), sInv swC h' → sMd (evOr_m t) h h' → 0 ≤ -va - 1 → 0 ≤ -vb - 1 → zget lo' 0 = some (.ref (17 * t + 20)) → zI lo' 1 la → zI lo' 2 (hh - 2) → zI lo' 3 kk → zJ lo' 6 1 → zX l Γ false (d + 1) (zhd 89) (zMQ' Γ false (zhd 89) Kp) 0 0 166 lo' [] h') : zX l Γ false (d + 1) (zhd 89) (zMQ' Γ false (zhd 89) Kp) 0 0 21 lo [] h := by
  refine sye_ok (mi := 89) (pc := 21) (fun i => [la, hh, kk, tt, (-30), va, vb].getD i 0) (zall_r evOr_b h_t) (fun _ _ hc _ => nomatch hc) hd ⟨l0, zIm l1 (by show 0 ≤ la; omega) (by show la ≤ 2; omega), zIm l2 (by show 2 ≤ hh; omega) (by show hh ≤ 64; omega), zIm l3 (by show 0 ≤ kk; omega) (by show kk ≤ 63; omega), trivial⟩ rfl ⟨(fun _ hc => nomatch hc), (fun _ hc => nomatch hc), (fun _ hc => nomatch hc), Or.inl rfl⟩ ⟨⟨p_tt, by show 0 ≤ tt; omega, by show tt ≤ 64; omega⟩, ⟨p_kn, by show (-30) ≤ (-30); omega, by show (-30) ≤ (-30); omega⟩, trivial⟩ ⟨⟨p_va, by show (-1000000000000) ≤ va; omega, by show va ≤ 1000000000000; omega⟩, ⟨p_vb, by show (-1000000000000) ≤ vb; omega, by show vb ≤ 1000000000000; omega⟩, trivial⟩ (sfm d0 (fun _ hc => nomatch hc)) hi ?_ ?_
  · intro e he lo' st' h' hp hi' hm
    rcases List.mem_cons.mp he with rfl | he
    · obtain ⟨p1, p2, -, hz⟩ := hp
      obtain ⟨⟨z1, z2, z3, z4⟩, z5, z6⟩ := hz
      have c0 : 0 ≤ va := by have q_ : (0 : Int) ≤ (1 * va + 0) + 0 := z4 ([(5, 1)], 0) (List.mem_of_getElem? (i := 0) rfl); omega
      have c1 : 0 ≤ vb := by have q_ : (0 : Int) ≤ (1 * vb + 0) + 0 := z4 ([(6, 1)], 0) (List.mem_of_getElem? (i := 1) rfl); omega
      have c2 : va = 0 := by have q_ : (0 : Int) ≤ (1 * va + 0) + 0 := z4 ([(5, 1)], 0) (List.mem_of_getElem? (i := 2) rfl); have q2_ : (0 : Int) ≤ ((-1) * va + 0) + 0 := z4 ([(5, (-1))], 0) (List.mem_of_getElem? (i := 3) rfl); omega
      have c4 : vb = 0 := by have q_ : (0 : Int) ≤ (1 * vb + 0) + 0 := z4 ([(6, 1)], 0) (List.mem_of_getElem? (i := 4) rfl); have q2_ : (0 : Int) ≤ ((-1) * vb + 0) + 0 := z4 ([(6, (-1))], 0) (List.mem_of_getElem? (i := 5) rfl); omega
      have o0 : zget lo' 0 = some (.ref (17 * t + 20)) := locR (p2 (0, .inr (.inl (17 * t + 20))) (List.mem_of_getElem? (i := 0) rfl))
      have o1 : zI lo' 1 la := zI_of (p2 (1, .inl sf32) (List.mem_of_getElem? (i := 1) rfl)) (z3 (1, ([(0, 1)], 0)) (List.mem_of_getElem? (i := 0) rfl)) (show (1 * la + 0) + 0 = la from by omega)
      have o2 : zI lo' 2 (hh - 2) := zI_of (p2 (2, .inl sf32) (List.mem_of_getElem? (i := 2) rfl)) (z3 (2, ([(1, 1)], (-2))) (List.mem_of_getElem? (i := 1) rfl)) (show (1 * hh + 0) + (-2) = hh - 2 from by omega)
      have o3 : zI lo' 3 kk := zI_of (p2 (3, .inl sf32) (List.mem_of_getElem? (i := 3) rfl)) (z3 (3, ([(2, 1)], 0)) (List.mem_of_getElem? (i := 2) rfl)) (show (1 * kk + 0) + 0 = kk from by omega)
      have o6 : zJ lo' 6 0 := zJ_of (p2 (6, .inr (.inr sf64)) (List.mem_of_getElem? (i := 4) rfl)) (z3 (6, ([], 0)) (List.mem_of_getElem? (i := 3) rfl)) (show 0 + 0 = 0 from by omega)
      have p1 : _ = [] := p1
      subst p1
      exact hE0 lo' h' hi' hm c0 c1 c2 c4 o0 o1 o2 o3 o6
    rcases List.mem_cons.mp he with rfl | he
    · obtain ⟨p1, p2, -, hz⟩ := hp
      obtain ⟨⟨z1, z2, z3, z4⟩, z5, z6⟩ := hz
      have c0 : 0 ≤ va := by have q_ : (0 : Int) ≤ (1 * va + 0) + 0 := z4 ([(5, 1)], 0) (List.mem_of_getElem? (i := 0) rfl); omega
      have c1 : 0 ≤ vb := by have q_ : (0 : Int) ≤ (1 * vb + 0) + 0 := z4 ([(6, 1)], 0) (List.mem_of_getElem? (i := 1) rfl); omega
      have c2 : 0 ≤ vb - 1 := by have q_ : (0 : Int) ≤ (1 * vb + 0) + (-1) := z4 ([(6, 1)], (-1)) (List.mem_of_getElem? (i := 2) rfl); omega
      have c3 : va = 0 := by have q_ : (0 : Int) ≤ (1 * va + 0) + 0 := z4 ([(5, 1)], 0) (List.mem_of_getElem? (i := 3) rfl); have q2_ : (0 : Int) ≤ ((-1) * va + 0) + 0 := z4 ([(5, (-1))], 0) (List.mem_of_getElem? (i := 4) rfl); omega
      have o0 : zget lo' 0 = some (.ref (17 * t + 20)) := locR (p2 (0, .inr (.inl (17 * t + 20))) (List.mem_of_getElem? (i := 0) rfl))
      have o1 : zI lo' 1 la := zI_of (p2 (1, .inl sf32) (List.mem_of_getElem? (i := 1) rfl)) (z3 (1, ([(0, 1)], 0)) (List.mem_of_getElem? (i := 0) rfl)) (show (1 * la + 0) + 0 = la from by omega)
      have o2 : zI lo' 2 (hh - 2) := zI_of (p2 (2, .inl sf32) (List.mem_of_getElem? (i := 2) rfl)) (z3 (2, ([(1, 1)], (-2))) (List.mem_of_getElem? (i := 1) rfl)) (show (1 * hh + 0) + (-2) = hh - 2 from by omega)
      have o3 : zI lo' 3 kk := zI_of (p2 (3, .inl sf32) (List.mem_of_getElem? (i := 3) rfl)) (z3 (3, ([(2, 1)], 0)) (List.mem_of_getElem? (i := 2) rfl)) (show (1 * kk + 0) + 0 = kk from by omega)
      have o6 : zJ lo' 6 1 := zJ_of (p2 (6, .inr (.inr sf64)) (List.mem_of_getElem? (i := 4) rfl)) (z3 (6, ([], 1)) (List.mem_of_getElem? (i := 3) rfl)) (show 0 + 1 = 1 from by omega)
      have p1 : _ = [] := p1
      subst p1
      exact hE1 lo' h' hi' hm c0 c1 c2 c3 o0 o1 o2 o3 o6
    rcases List.mem_cons.mp he with rfl | he
    · obtain ⟨p1, p2, -, hz⟩ := hp
      obtain ⟨⟨z1, z2, z3, z4⟩, z5, z6⟩ := hz
      have c0 : 0 ≤ va := by have q_ : (0 : Int) ≤ (1 * va + 0) + 0 := z4 ([(5, 1)], 0) (List.mem_of_getElem? (i := 0) rfl); omega
      have c1 : 0 ≤ vb := by have q_ : (0 : Int) ≤ (1 * vb + 0) + 0 := z4 ([(6, 1)], 0) (List.mem_of_getElem? (i := 1) rfl); omega
      have c2 : 0 ≤ va - 1 := by have q_ : (0 : Int) ≤ (1 * va + 0) + (-1) := z4 ([(5, 1)], (-1)) (List.mem_of_getElem? (i := 2) rfl); omega
      have o0 : zget lo' 0 = some (.ref (17 * t + 20)) := locR (p2 (0, .inr (.inl (17 * t + 20))) (List.mem_of_getElem? (i := 0) rfl))
      have o1 : zI lo' 1 la := zI_of (p2 (1, .inl sf32) (List.mem_of_getElem? (i := 1) rfl)) (z3 (1, ([(0, 1)], 0)) (List.mem_of_getElem? (i := 0) rfl)) (show (1 * la + 0) + 0 = la from by omega)
      have o2 : zI lo' 2 (hh - 2) := zI_of (p2 (2, .inl sf32) (List.mem_of_getElem? (i := 2) rfl)) (z3 (2, ([(1, 1)], (-2))) (List.mem_of_getElem? (i := 1) rfl)) (show (1 * hh + 0) + (-2) = hh - 2 from by omega)
      have o3 : zI lo' 3 kk := zI_of (p2 (3, .inl sf32) (List.mem_of_getElem? (i := 3) rfl)) (z3 (3, ([(2, 1)], 0)) (List.mem_of_getElem? (i := 2) rfl)) (show (1 * kk + 0) + 0 = kk from by omega)
      have o6 : zJ lo' 6 1 := zJ_of (p2 (6, .inr (.inr sf64)) (List.mem_of_getElem? (i := 4) rfl)) (z3 (6, ([], 1)) (List.mem_of_getElem? (i := 3) rfl)) (show 0 + 1 = 1 from by omega)
      have p1 : _ = [] := p1
      subst p1
      exact hE2 lo' h' hi' hm c0 c1 c2 o0 o1 o2 o3 o6
    rcases List.mem_cons.mp he with rfl | he
    · obtain ⟨p1, p2, -, hz⟩ := hp
      obtain ⟨⟨z1, z2, z3, z4⟩, z5, z6⟩ := hz
      have c0 : 0 ≤ va := by have q_ : (0 : Int) ≤ (1 * va + 0) + 0 := z4 ([(5, 1)], 0) (List.mem_of_getElem? (i := 0) rfl); omega
      have c1 : 0 ≤ -vb - 1 := by have q_ : (0 : Int) ≤ ((-1) * vb + 0) + (-1) := z4 ([(6, (-1))], (-1)) (List.mem_of_getElem? (i := 1) rfl); omega
      have c2 : va = 0 := by have q_ : (0 : Int) ≤ (1 * va + 0) + 0 := z4 ([(5, 1)], 0) (List.mem_of_getElem? (i := 2) rfl); have q2_ : (0 : Int) ≤ ((-1) * va + 0) + 0 := z4 ([(5, (-1))], 0) (List.mem_of_getElem? (i := 3) rfl); omega
      have o0 : zget lo' 0 = some (.ref (17 * t + 20)) := locR (p2 (0, .inr (.inl (17 * t + 20))) (List.mem_of_getElem? (i := 0) rfl))
      have o1 : zI lo' 1 la := zI_of (p2 (1, .inl sf32) (List.mem_of_getElem? (i := 1) rfl)) (z3 (1, ([(0, 1)], 0)) (List.mem_of_getElem? (i := 0) rfl)) (show (1 * la + 0) + 0 = la from by omega)
      have o2 : zI lo' 2 (hh - 2) := zI_of (p2 (2, .inl sf32) (List.mem_of_getElem? (i := 2) rfl)) (z3 (2, ([(1, 1)], (-2))) (List.mem_of_getElem? (i := 1) rfl)) (show (1 * hh + 0) + (-2) = hh - 2 from by omega)
      have o3 : zI lo' 3 kk := zI_of (p2 (3, .inl sf32) (List.mem_of_getElem? (i := 3) rfl)) (z3 (3, ([(2, 1)], 0)) (List.mem_of_getElem? (i := 2) rfl)) (show (1 * kk + 0) + 0 = kk from by omega)
      have o6 : zJ lo' 6 1 := zJ_of (p2 (6, .inr (.inr sf64)) (List.mem_of_getElem? (i := 4) rfl)) (z3 (6, ([], 1)) (List.mem_of_getElem? (i := 3) rfl)) (show 0 + 1 = 1 from by omega)
      have p1 : _ = [] := p1
      subst p1
      exact hE3 lo' h' hi' hm c0 c1 c2 o0 o1 o2 o3 o6
    rcases List.mem_cons.mp he with rfl | he
    · obtain ⟨p1, p2, -, hz⟩ := hp
      obtain ⟨⟨z1, z2, z3, z4⟩, z5, z6⟩ := hz
      have c0 : 0 ≤ va := by have q_ : (0 : Int) ≤ (1 * va + 0) + 0 := z4 ([(5, 1)], 0) (List.mem_of_getElem? (i := 0) rfl); omega
      have c1 : 0 ≤ -vb - 1 := by have q_ : (0 : Int) ≤ ((-1) * vb + 0) + (-1) := z4 ([(6, (-1))], (-1)) (List.mem_of_getElem? (i := 1) rfl); omega
      have c2 : 0 ≤ va - 1 := by have q_ : (0 : Int) ≤ (1 * va + 0) + (-1) := z4 ([(5, 1)], (-1)) (List.mem_of_getElem? (i := 2) rfl); omega
      have o0 : zget lo' 0 = some (.ref (17 * t + 20)) := locR (p2 (0, .inr (.inl (17 * t + 20))) (List.mem_of_getElem? (i := 0) rfl))
      have o1 : zI lo' 1 la := zI_of (p2 (1, .inl sf32) (List.mem_of_getElem? (i := 1) rfl)) (z3 (1, ([(0, 1)], 0)) (List.mem_of_getElem? (i := 0) rfl)) (show (1 * la + 0) + 0 = la from by omega)
      have o2 : zI lo' 2 (hh - 2) := zI_of (p2 (2, .inl sf32) (List.mem_of_getElem? (i := 2) rfl)) (z3 (2, ([(1, 1)], (-2))) (List.mem_of_getElem? (i := 1) rfl)) (show (1 * hh + 0) + (-2) = hh - 2 from by omega)
      have o3 : zI lo' 3 kk := zI_of (p2 (3, .inl sf32) (List.mem_of_getElem? (i := 3) rfl)) (z3 (3, ([(2, 1)], 0)) (List.mem_of_getElem? (i := 2) rfl)) (show (1 * kk + 0) + 0 = kk from by omega)
      have o6 : zJ lo' 6 1 := zJ_of (p2 (6, .inr (.inr sf64)) (List.mem_of_getElem? (i := 4) rfl)) (z3 (6, ([], 1)) (List.mem_of_getElem? (i := 3) rfl)) (show 0 + 1 = 1 from by omega)
      have p1 : _ = [] := p1
      subst p1
      exact hE4 lo' h' hi' hm c0 c1 c2 o0 o1 o2 o3 o6
    rcases List.mem_cons.mp he with rfl | he
    · obtain ⟨p1, p2, -, hz⟩ := hp
      obtain ⟨⟨z1, z2, z3, z4⟩, z5, z6⟩ := hz
      have c0 : 0 ≤ -va - 1 := by have q_ : (0 : Int) ≤ ((-1) * va + 0) + (-1) := z4 ([(5, (-1))], (-1)) (List.mem_of_getElem? (i := 0) rfl); omega
      have c1 : 0 ≤ vb := by have q_ : (0 : Int) ≤ (1 * vb + 0) + 0 := z4 ([(6, 1)], 0) (List.mem_of_getElem? (i := 1) rfl); omega
      have o0 : zget lo' 0 = some (.ref (17 * t + 20)) := locR (p2 (0, .inr (.inl (17 * t + 20))) (List.mem_of_getElem? (i := 0) rfl))
      have o1 : zI lo' 1 la := zI_of (p2 (1, .inl sf32) (List.mem_of_getElem? (i := 1) rfl)) (z3 (1, ([(0, 1)], 0)) (List.mem_of_getElem? (i := 0) rfl)) (show (1 * la + 0) + 0 = la from by omega)
      have o2 : zI lo' 2 (hh - 2) := zI_of (p2 (2, .inl sf32) (List.mem_of_getElem? (i := 2) rfl)) (z3 (2, ([(1, 1)], (-2))) (List.mem_of_getElem? (i := 1) rfl)) (show (1 * hh + 0) + (-2) = hh - 2 from by omega)
      have o3 : zI lo' 3 kk := zI_of (p2 (3, .inl sf32) (List.mem_of_getElem? (i := 3) rfl)) (z3 (3, ([(2, 1)], 0)) (List.mem_of_getElem? (i := 2) rfl)) (show (1 * kk + 0) + 0 = kk from by omega)
      have o6 : zJ lo' 6 1 := zJ_of (p2 (6, .inr (.inr sf64)) (List.mem_of_getElem? (i := 4) rfl)) (z3 (6, ([], 1)) (List.mem_of_getElem? (i := 3) rfl)) (show 0 + 1 = 1 from by omega)
      have p1 : _ = [] := p1
      subst p1
      exact hE5 lo' h' hi' hm c0 c1 o0 o1 o2 o3 o6
    rcases List.mem_cons.mp he with rfl | he
    · obtain ⟨p1, p2, -, hz⟩ := hp
      obtain ⟨⟨z1, z2, z3, z4⟩, z5, z6⟩ := hz
      have c0 : 0 ≤ -va - 1 := by have q_ : (0 : Int) ≤ ((-1) * va + 0) + (-1) := z4 ([(5, (-1))], (-1)) (List.mem_of_getElem? (i := 0) rfl); omega
      have c1 : 0 ≤ -vb - 1 := by have q_ : (0 : Int) ≤ ((-1) * vb + 0) + (-1) := z4 ([(6, (-1))], (-1)) (List.mem_of_getElem? (i := 1) rfl); omega
      have o0 : zget lo' 0 = some (.ref (17 * t + 20)) := locR (p2 (0, .inr (.inl (17 * t + 20))) (List.mem_of_getElem? (i := 0) rfl))
      have o1 : zI lo' 1 la := zI_of (p2 (1, .inl sf32) (List.mem_of_getElem? (i := 1) rfl)) (z3 (1, ([(0, 1)], 0)) (List.mem_of_getElem? (i := 0) rfl)) (show (1 * la + 0) + 0 = la from by omega)
      have o2 : zI lo' 2 (hh - 2) := zI_of (p2 (2, .inl sf32) (List.mem_of_getElem? (i := 2) rfl)) (z3 (2, ([(1, 1)], (-2))) (List.mem_of_getElem? (i := 1) rfl)) (show (1 * hh + 0) + (-2) = hh - 2 from by omega)
      have o3 : zI lo' 3 kk := zI_of (p2 (3, .inl sf32) (List.mem_of_getElem? (i := 3) rfl)) (z3 (3, ([(2, 1)], 0)) (List.mem_of_getElem? (i := 2) rfl)) (show (1 * kk + 0) + 0 = kk from by omega)
      have o6 : zJ lo' 6 1 := zJ_of (p2 (6, .inr (.inr sf64)) (List.mem_of_getElem? (i := 4) rfl)) (z3 (6, ([], 1)) (List.mem_of_getElem? (i := 3) rfl)) (show 0 + 1 = 1 from by omega)
      have p1 : _ = [] := p1
      subst p1
      exact hE6 lo' h' hi' hm c0 c1 o0 o1 o2 o3 o6
    cases he
  · intro e he r' h' hp hi' hm
    cases he
def evPl_L (t : Nat) : List (Nat × sT) := [(0, .inr (.inl (17 * t + 20))), (1, .inl (0, 2)), (2, .inl (2, 64)), (3, .inl (0, 63))]
def evPl_S (t : Nat) : List sT := []
def evPl_A (t : Nat) : sAs := ([], [], [], [])
def evPl_P (t : Nat) : List sP0 := [((17 * t + 23), (some 0, 0), (0, 64)), ((17 * t + 21), (some 2, 0), ((-31), (-31)))]
def evPl_G (t : Nat) : List sP0 := [((17 * t + 25), (some 1, (-2)), ((-1000000000000), 1000000000000)), ((17 * t + 25), (some 1, (-1)), ((-1000000000000), 1000000000000))]
def evPl_B (t : Nat) : List (Nat × Nat × Int) := [(3, 2, 1)]
def evPl_m (t : Nat) : sM := []
def evPl_e0 (t : Nat) : sXe := (166, [], [(0, .inr (.inl (17 * t + 20))), (1, .inl sf32), (2, .inl sf32), (3, .inl sf32), (6, .inr (.inr sf64))], sA0, [], ([], [], [(1, ([(0, 1)], 0)), (2, ([(1, 1)], (-2))), (3, ([(2, 1)], 0)), (6, ([(5, 1), (6, 1)], 0))], [([(5, 1)], 0), ([(6, 1)], 0)]), [], [])
def evPl_e1 (t : Nat) : sXe := (166, [], [(0, .inr (.inl (17 * t + 20))), (1, .inl sf32), (2, .inl sf32), (3, .inl sf32), (6, .inr (.inr sf64))], sA0, [], ([], [], [(1, ([(0, 1)], 0)), (2, ([(1, 1)], (-2))), (3, ([(2, 1)], 0)), (6, ([(5, 1), (6, 1)], 0))], [([(5, 1)], 0), ([(6, (-1))], (-1))]), [], [])
def evPl_e2 (t : Nat) : sXe := (166, [], [(0, .inr (.inl (17 * t + 20))), (1, .inl sf32), (2, .inl sf32), (3, .inl sf32), (6, .inr (.inr sf64))], sA0, [], ([], [], [(1, ([(0, 1)], 0)), (2, ([(1, 1)], (-2))), (3, ([(2, 1)], 0)), (6, ([(5, 1), (6, 1)], 0))], [([(5, (-1))], (-1)), ([(6, 1)], 0)]), [], [])
def evPl_e3 (t : Nat) : sXe := (166, [], [(0, .inr (.inl (17 * t + 20))), (1, .inl sf32), (2, .inl sf32), (3, .inl sf32), (6, .inr (.inr sf64))], sA0, [], ([], [], [(1, ([(0, 1)], 0)), (2, ([(1, 1)], (-2))), (3, ([(2, 1)], 0)), (6, ([(5, 1), (6, 1)], 0))], [([(5, (-1))], (-1)), ([(6, (-1))], (-1))]), [], [])
theorem evPl_b : ((List.range 2).all fun t => syeB swC sT0 (evPl_m t) 400 1 89 (evPl_L t) (evPl_S t) (evPl_A t) (evPl_P t) (evPl_G t) (evPl_B t) 21 [evPl_e0 t, evPl_e1 t, evPl_e2 t, evPl_e3 t] []) = true := by decide +kernel
theorem evPl {l : Launch} {Γ : zG} {d : Nat} (hd : 1 ≤ d) {Kp : Option Value → zH → Prop} {lo : zL} {h : zH} {t : Nat} (h_t : t < 2) {la hh kk tt va vb : Int} (hi : sInv swC h) (b_la : 0 ≤ la ∧ la ≤ 2) (b_hh : 2 ≤ hh ∧ hh ≤ 64) (b_kk : 0 ≤ kk ∧ kk ≤ 63) (b_tt : 0 ≤ tt ∧ tt ≤ 64) (b_va : (-1000000000000) ≤ va ∧ va ≤ 1000000000000) (b_vb : (-1000000000000) ≤ vb ∧ vb ≤ 1000000000000) (l0 : zget lo 0 = some (.ref (17 * t + 20))) (l1 : zI lo 1 la) (l2 : zI lo 2 hh) (l3 : zI lo 3 kk) (p_tt : pI h (17 * t + 23) (la + 0).toNat = tt) (p_kn : pI h (17 * t + 21) (kk + 0).toNat = (-31)) (p_va : pL h (17 * t + 25) (hh + (-2)).toNat = va) (p_vb : pL h (17 * t + 25) (hh + (-1)).toNat = vb) (d0 : 1 ≤ tt - kk)
    (hE0 : ∀ (lo' : zL) (h' : zH), sInv swC h' → sMd (evPl_m t) h h' → 0 ≤ va → 0 ≤ vb → zget lo' 0 = some (.ref (17 * t + 20)) → zI lo' 1 la → zI lo' 2 (hh - 2) → zI lo' 3 kk → zJ lo' 6 (va + vb) → zX l Γ false (d + 1) (zhd 89) (zMQ' Γ false (zhd 89) Kp) 0 0 166 lo' [] h')
    (hE1 : ∀ (lo' : zL) (h' : zH), sInv swC h' → sMd (evPl_m t) h h' → 0 ≤ va → 0 ≤ -vb - 1 → zget lo' 0 = some (.ref (17 * t + 20)) → zI lo' 1 la → zI lo' 2 (hh - 2) → zI lo' 3 kk → zJ lo' 6 (va + vb) → zX l Γ false (d + 1) (zhd 89) (zMQ' Γ false (zhd 89) Kp) 0 0 166 lo' [] h')
    (hE2 : ∀ (lo' : zL) (h' : zH), sInv swC h' → sMd (evPl_m t) h h' → 0 ≤ -va - 1 → 0 ≤ vb → zget lo' 0 = some (.ref (17 * t + 20)) → zI lo' 1 la → zI lo' 2 (hh - 2) → zI lo' 3 kk → zJ lo' 6 (va + vb) → zX l Γ false (d + 1) (zhd 89) (zMQ' Γ false (zhd 89) Kp) 0 0 166 lo' [] h')
    (hE3 : ∀ (lo' : zL) (h' : zH), sInv swC h' → sMd (evPl_m t) h h' → 0 ≤ -va - 1 → 0 ≤ -vb - 1 → zget lo' 0 = some (.ref (17 * t + 20)) → zI lo' 1 la → zI lo' 2 (hh - 2) → zI lo' 3 kk → zJ lo' 6 (va + vb) → zX l Γ false (d + 1) (zhd 89) (zMQ' Γ false (zhd 89) Kp) 0 0 166 lo' [] h') : zX l Γ false (d + 1) (zhd 89) (zMQ' Γ false (zhd 89) Kp) 0 0 21 lo [] h := by
  refine sye_ok (mi := 89) (pc := 21) (fun i => [la, hh, kk, tt, (-31), va, vb].getD i 0) (zall_r evPl_b h_t) (fun _ _ hc _ => nomatch hc) hd ⟨l0, zIm l1 (by show 0 ≤ la; omega) (by show la ≤ 2; omega), zIm l2 (by show 2 ≤ hh; omega) (by show hh ≤ 64; omega), zIm l3 (by show 0 ≤ kk; omega) (by show kk ≤ 63; omega), trivial⟩ rfl ⟨(fun _ hc => nomatch hc), (fun _ hc => nomatch hc), (fun _ hc => nomatch hc), Or.inl rfl⟩ ⟨⟨p_tt, by show 0 ≤ tt; omega, by show tt ≤ 64; omega⟩, ⟨p_kn, by show (-31) ≤ (-31); omega, by show (-31) ≤ (-31); omega⟩, trivial⟩ ⟨⟨p_va, by show (-1000000000000) ≤ va; omega, by show va ≤ 1000000000000; omega⟩, ⟨p_vb, by show (-1000000000000) ≤ vb; omega, by show vb ≤ 1000000000000; omega⟩, trivial⟩ (sfm d0 (fun _ hc => nomatch hc)) hi ?_ ?_
  · intro e he lo' st' h' hp hi' hm
    rcases List.mem_cons.mp he with rfl | he
    · obtain ⟨p1, p2, -, hz⟩ := hp
      obtain ⟨⟨z1, z2, z3, z4⟩, z5, z6⟩ := hz
      have c0 : 0 ≤ va := by have q_ : (0 : Int) ≤ (1 * va + 0) + 0 := z4 ([(5, 1)], 0) (List.mem_of_getElem? (i := 0) rfl); omega
      have c1 : 0 ≤ vb := by have q_ : (0 : Int) ≤ (1 * vb + 0) + 0 := z4 ([(6, 1)], 0) (List.mem_of_getElem? (i := 1) rfl); omega
      have o0 : zget lo' 0 = some (.ref (17 * t + 20)) := locR (p2 (0, .inr (.inl (17 * t + 20))) (List.mem_of_getElem? (i := 0) rfl))
      have o1 : zI lo' 1 la := zI_of (p2 (1, .inl sf32) (List.mem_of_getElem? (i := 1) rfl)) (z3 (1, ([(0, 1)], 0)) (List.mem_of_getElem? (i := 0) rfl)) (show (1 * la + 0) + 0 = la from by omega)
      have o2 : zI lo' 2 (hh - 2) := zI_of (p2 (2, .inl sf32) (List.mem_of_getElem? (i := 2) rfl)) (z3 (2, ([(1, 1)], (-2))) (List.mem_of_getElem? (i := 1) rfl)) (show (1 * hh + 0) + (-2) = hh - 2 from by omega)
      have o3 : zI lo' 3 kk := zI_of (p2 (3, .inl sf32) (List.mem_of_getElem? (i := 3) rfl)) (z3 (3, ([(2, 1)], 0)) (List.mem_of_getElem? (i := 2) rfl)) (show (1 * kk + 0) + 0 = kk from by omega)
      have o6 : zJ lo' 6 (va + vb) := zJ_of (p2 (6, .inr (.inr sf64)) (List.mem_of_getElem? (i := 4) rfl)) (z3 (6, ([(5, 1), (6, 1)], 0)) (List.mem_of_getElem? (i := 3) rfl)) (show (1 * va + (1 * vb + 0)) + 0 = va + vb from by omega)
      have p1 : _ = [] := p1
      subst p1
      exact hE0 lo' h' hi' hm c0 c1 o0 o1 o2 o3 o6
    rcases List.mem_cons.mp he with rfl | he
    · obtain ⟨p1, p2, -, hz⟩ := hp
      obtain ⟨⟨z1, z2, z3, z4⟩, z5, z6⟩ := hz
      have c0 : 0 ≤ va := by have q_ : (0 : Int) ≤ (1 * va + 0) + 0 := z4 ([(5, 1)], 0) (List.mem_of_getElem? (i := 0) rfl); omega
      have c1 : 0 ≤ -vb - 1 := by have q_ : (0 : Int) ≤ ((-1) * vb + 0) + (-1) := z4 ([(6, (-1))], (-1)) (List.mem_of_getElem? (i := 1) rfl); omega
      have o0 : zget lo' 0 = some (.ref (17 * t + 20)) := locR (p2 (0, .inr (.inl (17 * t + 20))) (List.mem_of_getElem? (i := 0) rfl))
      have o1 : zI lo' 1 la := zI_of (p2 (1, .inl sf32) (List.mem_of_getElem? (i := 1) rfl)) (z3 (1, ([(0, 1)], 0)) (List.mem_of_getElem? (i := 0) rfl)) (show (1 * la + 0) + 0 = la from by omega)
      have o2 : zI lo' 2 (hh - 2) := zI_of (p2 (2, .inl sf32) (List.mem_of_getElem? (i := 2) rfl)) (z3 (2, ([(1, 1)], (-2))) (List.mem_of_getElem? (i := 1) rfl)) (show (1 * hh + 0) + (-2) = hh - 2 from by omega)
      have o3 : zI lo' 3 kk := zI_of (p2 (3, .inl sf32) (List.mem_of_getElem? (i := 3) rfl)) (z3 (3, ([(2, 1)], 0)) (List.mem_of_getElem? (i := 2) rfl)) (show (1 * kk + 0) + 0 = kk from by omega)
      have o6 : zJ lo' 6 (va + vb) := zJ_of (p2 (6, .inr (.inr sf64)) (List.mem_of_getElem? (i := 4) rfl)) (z3 (6, ([(5, 1), (6, 1)], 0)) (List.mem_of_getElem? (i := 3) rfl)) (show (1 * va + (1 * vb + 0)) + 0 = va + vb from by omega)
      have p1 : _ = [] := p1
      subst p1
      exact hE1 lo' h' hi' hm c0 c1 o0 o1 o2 o3 o6
    rcases List.mem_cons.mp he with rfl | he
    · obtain ⟨p1, p2, -, hz⟩ := hp
      obtain ⟨⟨z1, z2, z3, z4⟩, z5, z6⟩ := hz
      have c0 : 0 ≤ -va - 1 := by have q_ : (0 : Int) ≤ ((-1) * va + 0) + (-1) := z4 ([(5, (-1))], (-1)) (List.mem_of_getElem? (i := 0) rfl); omega
      have c1 : 0 ≤ vb := by have q_ : (0 : Int) ≤ (1 * vb + 0) + 0 := z4 ([(6, 1)], 0) (List.mem_of_getElem? (i := 1) rfl); omega
      have o0 : zget lo' 0 = some (.ref (17 * t + 20)) := locR (p2 (0, .inr (.inl (17 * t + 20))) (List.mem_of_getElem? (i := 0) rfl))
      have o1 : zI lo' 1 la := zI_of (p2 (1, .inl sf32) (List.mem_of_getElem? (i := 1) rfl)) (z3 (1, ([(0, 1)], 0)) (List.mem_of_getElem? (i := 0) rfl)) (show (1 * la + 0) + 0 = la from by omega)
      have o2 : zI lo' 2 (hh - 2) := zI_of (p2 (2, .inl sf32) (List.mem_of_getElem? (i := 2) rfl)) (z3 (2, ([(1, 1)], (-2))) (List.mem_of_getElem? (i := 1) rfl)) (show (1 * hh + 0) + (-2) = hh - 2 from by omega)
      have o3 : zI lo' 3 kk := zI_of (p2 (3, .inl sf32) (List.mem_of_getElem? (i := 3) rfl)) (z3 (3, ([(2, 1)], 0)) (List.mem_of_getElem? (i := 2) rfl)) (show (1 * kk + 0) + 0 = kk from by omega)
      have o6 : zJ lo' 6 (va + vb) := zJ_of (p2 (6, .inr (.inr sf64)) (List.mem_of_getElem? (i := 4) rfl)) (z3 (6, ([(5, 1), (6, 1)], 0)) (List.mem_of_getElem? (i := 3) rfl)) (show (1 * va + (1 * vb + 0)) + 0 = va + vb from by omega)
      have p1 : _ = [] := p1
      subst p1
      exact hE2 lo' h' hi' hm c0 c1 o0 o1 o2 o3 o6
    rcases List.mem_cons.mp he with rfl | he
    · obtain ⟨p1, p2, -, hz⟩ := hp
      obtain ⟨⟨z1, z2, z3, z4⟩, z5, z6⟩ := hz
      have c0 : 0 ≤ -va - 1 := by have q_ : (0 : Int) ≤ ((-1) * va + 0) + (-1) := z4 ([(5, (-1))], (-1)) (List.mem_of_getElem? (i := 0) rfl); omega
      have c1 : 0 ≤ -vb - 1 := by have q_ : (0 : Int) ≤ ((-1) * vb + 0) + (-1) := z4 ([(6, (-1))], (-1)) (List.mem_of_getElem? (i := 1) rfl); omega
      have o0 : zget lo' 0 = some (.ref (17 * t + 20)) := locR (p2 (0, .inr (.inl (17 * t + 20))) (List.mem_of_getElem? (i := 0) rfl))
      have o1 : zI lo' 1 la := zI_of (p2 (1, .inl sf32) (List.mem_of_getElem? (i := 1) rfl)) (z3 (1, ([(0, 1)], 0)) (List.mem_of_getElem? (i := 0) rfl)) (show (1 * la + 0) + 0 = la from by omega)
      have o2 : zI lo' 2 (hh - 2) := zI_of (p2 (2, .inl sf32) (List.mem_of_getElem? (i := 2) rfl)) (z3 (2, ([(1, 1)], (-2))) (List.mem_of_getElem? (i := 1) rfl)) (show (1 * hh + 0) + (-2) = hh - 2 from by omega)
      have o3 : zI lo' 3 kk := zI_of (p2 (3, .inl sf32) (List.mem_of_getElem? (i := 3) rfl)) (z3 (3, ([(2, 1)], 0)) (List.mem_of_getElem? (i := 2) rfl)) (show (1 * kk + 0) + 0 = kk from by omega)
      have o6 : zJ lo' 6 (va + vb) := zJ_of (p2 (6, .inr (.inr sf64)) (List.mem_of_getElem? (i := 4) rfl)) (z3 (6, ([(5, 1), (6, 1)], 0)) (List.mem_of_getElem? (i := 3) rfl)) (show (1 * va + (1 * vb + 0)) + 0 = va + vb from by omega)
      have p1 : _ = [] := p1
      subst p1
      exact hE3 lo' h' hi' hm c0 c1 o0 o1 o2 o3 o6
    cases he
  · intro e he r' h' hp hi' hm
    cases he
def evMi_L (t : Nat) : List (Nat × sT) := [(0, .inr (.inl (17 * t + 20))), (1, .inl (0, 2)), (2, .inl (2, 64)), (3, .inl (0, 63))]
def evMi_S (t : Nat) : List sT := []
def evMi_A (t : Nat) : sAs := ([], [], [], [])
def evMi_P (t : Nat) : List sP0 := [((17 * t + 23), (some 0, 0), (0, 64)), ((17 * t + 21), (some 2, 0), ((-32), (-32)))]
def evMi_G (t : Nat) : List sP0 := [((17 * t + 25), (some 1, (-2)), ((-1000000000000), 1000000000000)), ((17 * t + 25), (some 1, (-1)), ((-1000000000000), 1000000000000))]
def evMi_B (t : Nat) : List (Nat × Nat × Int) := [(3, 2, 1)]
def evMi_m (t : Nat) : sM := []
def evMi_e0 (t : Nat) : sXe := (166, [], [(0, .inr (.inl (17 * t + 20))), (1, .inl sf32), (2, .inl sf32), (3, .inl sf32), (6, .inr (.inr sf64))], sA0, [], ([], [], [(1, ([(0, 1)], 0)), (2, ([(1, 1)], (-2))), (3, ([(2, 1)], 0)), (6, ([(5, 1), (6, (-1))], 0))], [([(5, 1)], 0), ([(6, 1)], 0)]), [], [])
def evMi_e1 (t : Nat) : sXe := (166, [], [(0, .inr (.inl (17 * t + 20))), (1, .inl sf32), (2, .inl sf32), (3, .inl sf32), (6, .inr (.inr sf64))], sA0, [], ([], [], [(1, ([(0, 1)], 0)), (2, ([(1, 1)], (-2))), (3, ([(2, 1)], 0)), (6, ([(5, 1), (6, (-1))], 0))], [([(5, 1)], 0), ([(6, (-1))], (-1))]), [], [])
def evMi_e2 (t : Nat) : sXe := (166, [], [(0, .inr (.inl (17 * t + 20))), (1, .inl sf32), (2, .inl sf32), (3, .inl sf32), (6, .inr (.inr sf64))], sA0, [], ([], [], [(1, ([(0, 1)], 0)), (2, ([(1, 1)], (-2))), (3, ([(2, 1)], 0)), (6, ([(5, 1), (6, (-1))], 0))], [([(5, (-1))], (-1)), ([(6, 1)], 0)]), [], [])
def evMi_e3 (t : Nat) : sXe := (166, [], [(0, .inr (.inl (17 * t + 20))), (1, .inl sf32), (2, .inl sf32), (3, .inl sf32), (6, .inr (.inr sf64))], sA0, [], ([], [], [(1, ([(0, 1)], 0)), (2, ([(1, 1)], (-2))), (3, ([(2, 1)], 0)), (6, ([(5, 1), (6, (-1))], 0))], [([(5, (-1))], (-1)), ([(6, (-1))], (-1))]), [], [])
theorem evMi_b : ((List.range 2).all fun t => syeB swC sT0 (evMi_m t) 400 1 89 (evMi_L t) (evMi_S t) (evMi_A t) (evMi_P t) (evMi_G t) (evMi_B t) 21 [evMi_e0 t, evMi_e1 t, evMi_e2 t, evMi_e3 t] []) = true := by decide +kernel
theorem evMi {l : Launch} {Γ : zG} {d : Nat} (hd : 1 ≤ d) {Kp : Option Value → zH → Prop} {lo : zL} {h : zH} {t : Nat} (h_t : t < 2) {la hh kk tt va vb : Int} (hi : sInv swC h) (b_la : 0 ≤ la ∧ la ≤ 2) (b_hh : 2 ≤ hh ∧ hh ≤ 64) (b_kk : 0 ≤ kk ∧ kk ≤ 63) (b_tt : 0 ≤ tt ∧ tt ≤ 64) (b_va : (-1000000000000) ≤ va ∧ va ≤ 1000000000000) (b_vb : (-1000000000000) ≤ vb ∧ vb ≤ 1000000000000) (l0 : zget lo 0 = some (.ref (17 * t + 20))) (l1 : zI lo 1 la) (l2 : zI lo 2 hh) (l3 : zI lo 3 kk) (p_tt : pI h (17 * t + 23) (la + 0).toNat = tt) (p_kn : pI h (17 * t + 21) (kk + 0).toNat = (-32)) (p_va : pL h (17 * t + 25) (hh + (-2)).toNat = va) (p_vb : pL h (17 * t + 25) (hh + (-1)).toNat = vb) (d0 : 1 ≤ tt - kk)
    (hE0 : ∀ (lo' : zL) (h' : zH), sInv swC h' → sMd (evMi_m t) h h' → 0 ≤ va → 0 ≤ vb → zget lo' 0 = some (.ref (17 * t + 20)) → zI lo' 1 la → zI lo' 2 (hh - 2) → zI lo' 3 kk → zJ lo' 6 (va - vb) → zX l Γ false (d + 1) (zhd 89) (zMQ' Γ false (zhd 89) Kp) 0 0 166 lo' [] h')
    (hE1 : ∀ (lo' : zL) (h' : zH), sInv swC h' → sMd (evMi_m t) h h' → 0 ≤ va → 0 ≤ -vb - 1 → zget lo' 0 = some (.ref (17 * t + 20)) → zI lo' 1 la → zI lo' 2 (hh - 2) → zI lo' 3 kk → zJ lo' 6 (va - vb) → zX l Γ false (d + 1) (zhd 89) (zMQ' Γ false (zhd 89) Kp) 0 0 166 lo' [] h')
    (hE2 : ∀ (lo' : zL) (h' : zH), sInv swC h' → sMd (evMi_m t) h h' → 0 ≤ -va - 1 → 0 ≤ vb → zget lo' 0 = some (.ref (17 * t + 20)) → zI lo' 1 la → zI lo' 2 (hh - 2) → zI lo' 3 kk → zJ lo' 6 (va - vb) → zX l Γ false (d + 1) (zhd 89) (zMQ' Γ false (zhd 89) Kp) 0 0 166 lo' [] h')
    (hE3 : ∀ (lo' : zL) (h' : zH), sInv swC h' → sMd (evMi_m t) h h' → 0 ≤ -va - 1 → 0 ≤ -vb - 1 → zget lo' 0 = some (.ref (17 * t + 20)) → zI lo' 1 la → zI lo' 2 (hh - 2) → zI lo' 3 kk → zJ lo' 6 (va - vb) → zX l Γ false (d + 1) (zhd 89) (zMQ' Γ false (zhd 89) Kp) 0 0 166 lo' [] h') : zX l Γ false (d + 1) (zhd 89) (zMQ' Γ false (zhd 89) Kp) 0 0 21 lo [] h := by
  refine sye_ok (mi := 89) (pc := 21) (fun i => [la, hh, kk, tt, (-32), va, vb].getD i 0) (zall_r evMi_b h_t) (fun _ _ hc _ => nomatch hc) hd ⟨l0, zIm l1 (by show 0 ≤ la; omega) (by show la ≤ 2; omega), zIm l2 (by show 2 ≤ hh; omega) (by show hh ≤ 64; omega), zIm l3 (by show 0 ≤ kk; omega) (by show kk ≤ 63; omega), trivial⟩ rfl ⟨(fun _ hc => nomatch hc), (fun _ hc => nomatch hc), (fun _ hc => nomatch hc), Or.inl rfl⟩ ⟨⟨p_tt, by show 0 ≤ tt; omega, by show tt ≤ 64; omega⟩, ⟨p_kn, by show (-32) ≤ (-32); omega, by show (-32) ≤ (-32); omega⟩, trivial⟩ ⟨⟨p_va, by show (-1000000000000) ≤ va; omega, by show va ≤ 1000000000000; omega⟩, ⟨p_vb, by show (-1000000000000) ≤ vb; omega, by show vb ≤ 1000000000000; omega⟩, trivial⟩ (sfm d0 (fun _ hc => nomatch hc)) hi ?_ ?_
  · intro e he lo' st' h' hp hi' hm
    rcases List.mem_cons.mp he with rfl | he
    · obtain ⟨p1, p2, -, hz⟩ := hp
      obtain ⟨⟨z1, z2, z3, z4⟩, z5, z6⟩ := hz
      have c0 : 0 ≤ va := by have q_ : (0 : Int) ≤ (1 * va + 0) + 0 := z4 ([(5, 1)], 0) (List.mem_of_getElem? (i := 0) rfl); omega
      have c1 : 0 ≤ vb := by have q_ : (0 : Int) ≤ (1 * vb + 0) + 0 := z4 ([(6, 1)], 0) (List.mem_of_getElem? (i := 1) rfl); omega
      have o0 : zget lo' 0 = some (.ref (17 * t + 20)) := locR (p2 (0, .inr (.inl (17 * t + 20))) (List.mem_of_getElem? (i := 0) rfl))
      have o1 : zI lo' 1 la := zI_of (p2 (1, .inl sf32) (List.mem_of_getElem? (i := 1) rfl)) (z3 (1, ([(0, 1)], 0)) (List.mem_of_getElem? (i := 0) rfl)) (show (1 * la + 0) + 0 = la from by omega)
      have o2 : zI lo' 2 (hh - 2) := zI_of (p2 (2, .inl sf32) (List.mem_of_getElem? (i := 2) rfl)) (z3 (2, ([(1, 1)], (-2))) (List.mem_of_getElem? (i := 1) rfl)) (show (1 * hh + 0) + (-2) = hh - 2 from by omega)
      have o3 : zI lo' 3 kk := zI_of (p2 (3, .inl sf32) (List.mem_of_getElem? (i := 3) rfl)) (z3 (3, ([(2, 1)], 0)) (List.mem_of_getElem? (i := 2) rfl)) (show (1 * kk + 0) + 0 = kk from by omega)
      have o6 : zJ lo' 6 (va - vb) := zJ_of (p2 (6, .inr (.inr sf64)) (List.mem_of_getElem? (i := 4) rfl)) (z3 (6, ([(5, 1), (6, (-1))], 0)) (List.mem_of_getElem? (i := 3) rfl)) (show (1 * va + ((-1) * vb + 0)) + 0 = va - vb from by omega)
      have p1 : _ = [] := p1
      subst p1
      exact hE0 lo' h' hi' hm c0 c1 o0 o1 o2 o3 o6
    rcases List.mem_cons.mp he with rfl | he
    · obtain ⟨p1, p2, -, hz⟩ := hp
      obtain ⟨⟨z1, z2, z3, z4⟩, z5, z6⟩ := hz
      have c0 : 0 ≤ va := by have q_ : (0 : Int) ≤ (1 * va + 0) + 0 := z4 ([(5, 1)], 0) (List.mem_of_getElem? (i := 0) rfl); omega
      have c1 : 0 ≤ -vb - 1 := by have q_ : (0 : Int) ≤ ((-1) * vb + 0) + (-1) := z4 ([(6, (-1))], (-1)) (List.mem_of_getElem? (i := 1) rfl); omega
      have o0 : zget lo' 0 = some (.ref (17 * t + 20)) := locR (p2 (0, .inr (.inl (17 * t + 20))) (List.mem_of_getElem? (i := 0) rfl))
      have o1 : zI lo' 1 la := zI_of (p2 (1, .inl sf32) (List.mem_of_getElem? (i := 1) rfl)) (z3 (1, ([(0, 1)], 0)) (List.mem_of_getElem? (i := 0) rfl)) (show (1 * la + 0) + 0 = la from by omega)
      have o2 : zI lo' 2 (hh - 2) := zI_of (p2 (2, .inl sf32) (List.mem_of_getElem? (i := 2) rfl)) (z3 (2, ([(1, 1)], (-2))) (List.mem_of_getElem? (i := 1) rfl)) (show (1 * hh + 0) + (-2) = hh - 2 from by omega)
      have o3 : zI lo' 3 kk := zI_of (p2 (3, .inl sf32) (List.mem_of_getElem? (i := 3) rfl)) (z3 (3, ([(2, 1)], 0)) (List.mem_of_getElem? (i := 2) rfl)) (show (1 * kk + 0) + 0 = kk from by omega)
      have o6 : zJ lo' 6 (va - vb) := zJ_of (p2 (6, .inr (.inr sf64)) (List.mem_of_getElem? (i := 4) rfl)) (z3 (6, ([(5, 1), (6, (-1))], 0)) (List.mem_of_getElem? (i := 3) rfl)) (show (1 * va + ((-1) * vb + 0)) + 0 = va - vb from by omega)
      have p1 : _ = [] := p1
      subst p1
      exact hE1 lo' h' hi' hm c0 c1 o0 o1 o2 o3 o6
    rcases List.mem_cons.mp he with rfl | he
    · obtain ⟨p1, p2, -, hz⟩ := hp
      obtain ⟨⟨z1, z2, z3, z4⟩, z5, z6⟩ := hz
      have c0 : 0 ≤ -va - 1 := by have q_ : (0 : Int) ≤ ((-1) * va + 0) + (-1) := z4 ([(5, (-1))], (-1)) (List.mem_of_getElem? (i := 0) rfl); omega
      have c1 : 0 ≤ vb := by have q_ : (0 : Int) ≤ (1 * vb + 0) + 0 := z4 ([(6, 1)], 0) (List.mem_of_getElem? (i := 1) rfl); omega
      have o0 : zget lo' 0 = some (.ref (17 * t + 20)) := locR (p2 (0, .inr (.inl (17 * t + 20))) (List.mem_of_getElem? (i := 0) rfl))
      have o1 : zI lo' 1 la := zI_of (p2 (1, .inl sf32) (List.mem_of_getElem? (i := 1) rfl)) (z3 (1, ([(0, 1)], 0)) (List.mem_of_getElem? (i := 0) rfl)) (show (1 * la + 0) + 0 = la from by omega)
      have o2 : zI lo' 2 (hh - 2) := zI_of (p2 (2, .inl sf32) (List.mem_of_getElem? (i := 2) rfl)) (z3 (2, ([(1, 1)], (-2))) (List.mem_of_getElem? (i := 1) rfl)) (show (1 * hh + 0) + (-2) = hh - 2 from by omega)
      have o3 : zI lo' 3 kk := zI_of (p2 (3, .inl sf32) (List.mem_of_getElem? (i := 3) rfl)) (z3 (3, ([(2, 1)], 0)) (List.mem_of_getElem? (i := 2) rfl)) (show (1 * kk + 0) + 0 = kk from by omega)
      have o6 : zJ lo' 6 (va - vb) := zJ_of (p2 (6, .inr (.inr sf64)) (List.mem_of_getElem? (i := 4) rfl)) (z3 (6, ([(5, 1), (6, (-1))], 0)) (List.mem_of_getElem? (i := 3) rfl)) (show (1 * va + ((-1) * vb + 0)) + 0 = va - vb from by omega)
      have p1 : _ = [] := p1
      subst p1
      exact hE2 lo' h' hi' hm c0 c1 o0 o1 o2 o3 o6
    rcases List.mem_cons.mp he with rfl | he
    · obtain ⟨p1, p2, -, hz⟩ := hp
      obtain ⟨⟨z1, z2, z3, z4⟩, z5, z6⟩ := hz
      have c0 : 0 ≤ -va - 1 := by have q_ : (0 : Int) ≤ ((-1) * va + 0) + (-1) := z4 ([(5, (-1))], (-1)) (List.mem_of_getElem? (i := 0) rfl); omega
      have c1 : 0 ≤ -vb - 1 := by have q_ : (0 : Int) ≤ ((-1) * vb + 0) + (-1) := z4 ([(6, (-1))], (-1)) (List.mem_of_getElem? (i := 1) rfl); omega
      have o0 : zget lo' 0 = some (.ref (17 * t + 20)) := locR (p2 (0, .inr (.inl (17 * t + 20))) (List.mem_of_getElem? (i := 0) rfl))
      have o1 : zI lo' 1 la := zI_of (p2 (1, .inl sf32) (List.mem_of_getElem? (i := 1) rfl)) (z3 (1, ([(0, 1)], 0)) (List.mem_of_getElem? (i := 0) rfl)) (show (1 * la + 0) + 0 = la from by omega)
      have o2 : zI lo' 2 (hh - 2) := zI_of (p2 (2, .inl sf32) (List.mem_of_getElem? (i := 2) rfl)) (z3 (2, ([(1, 1)], (-2))) (List.mem_of_getElem? (i := 1) rfl)) (show (1 * hh + 0) + (-2) = hh - 2 from by omega)
      have o3 : zI lo' 3 kk := zI_of (p2 (3, .inl sf32) (List.mem_of_getElem? (i := 3) rfl)) (z3 (3, ([(2, 1)], 0)) (List.mem_of_getElem? (i := 2) rfl)) (show (1 * kk + 0) + 0 = kk from by omega)
      have o6 : zJ lo' 6 (va - vb) := zJ_of (p2 (6, .inr (.inr sf64)) (List.mem_of_getElem? (i := 4) rfl)) (z3 (6, ([(5, 1), (6, (-1))], 0)) (List.mem_of_getElem? (i := 3) rfl)) (show (1 * va + ((-1) * vb + 0)) + 0 = va - vb from by omega)
      have p1 : _ = [] := p1
      subst p1
      exact hE3 lo' h' hi' hm c0 c1 o0 o1 o2 o3 o6
    cases he
  · intro e he r' h' hp hi' hm
    cases he
def evTi_L (t : Nat) : List (Nat × sT) := [(0, .inr (.inl (17 * t + 20))), (1, .inl (0, 2)), (2, .inl (2, 64)), (3, .inl (0, 63))]
def evTi_S (t : Nat) : List sT := []
def evTi_A (t : Nat) : sAs := ([], [], [], [])
def evTi_P (t : Nat) : List sP0 := [((17 * t + 23), (some 0, 0), (0, 64)), ((17 * t + 21), (some 2, 0), ((-33), (-33)))]
def evTi_G (t : Nat) : List sP0 := [((17 * t + 25), (some 1, (-2)), ((-1000000000000), 1000000000000)), ((17 * t + 25), (some 1, (-1)), ((-1000000000000), 1000000000000))]
def evTi_B (t : Nat) : List (Nat × Nat × Int) := [(3, 2, 1)]
def evTi_m (t : Nat) : sM := []
def evTi_e0 (t : Nat) : sXe := (166, [], [(0, .inr (.inl (17 * t + 20))), (1, .inl sf32), (2, .inl sf32), (3, .inl sf32), (6, .inr (.inr sf64))], sA0, [], ([], [], [(1, ([(0, 1)], 0)), (2, ([(1, 1)], (-2))), (3, ([(2, 1)], 0)), (6, ([], 0))], [([(5, 1)], 0), ([(6, 1)], 0), ([(5, 1)], 0), ([(5, (-1))], 0)]), [], [])
def evTi_e1 (t : Nat) : sXe := (166, [], [(0, .inr (.inl (17 * t + 20))), (1, .inl sf32), (2, .inl sf32), (3, .inl sf32), (6, .inr (.inr sf64))], sA0, [(0, 16, ([(5, 1)], 0), ([(6, 1)], 0)), (0, 17, ([], 1000000000000), ([(5, 1)], 0))], ([], [], [(1, ([(0, 1)], 0)), (2, ([(1, 1)], (-2))), (3, ([(2, 1)], 0)), (6, ([(7, 1)], 0))], [([(5, 1)], 0), ([(6, 1)], 0), ([(5, 1)], (-1)), ([(6, (-1)), (8, 1)], 0)]), [], [])
def evTi_e2 (t : Nat) : sXe := (166, [], [(0, .inr (.inl (17 * t + 20))), (1, .inl sf32), (2, .inl sf32), (3, .inl sf32), (6, .inr (.inr sf64))], sA0, [(0, 17, ([], 1000000000000), ([(5, 1)], 0))], ([], [], [(1, ([(0, 1)], 0)), (2, ([(1, 1)], (-2))), (3, ([(2, 1)], 0)), (6, ([], (-9223372036854775808)))], [([(5, 1)], 0), ([(6, 1)], 0), ([(5, 1)], (-1)), ([(6, 1), (7, (-1))], (-1))]), [], [])
def evTi_e3 (t : Nat) : sXe := (166, [], [(0, .inr (.inl (17 * t + 20))), (1, .inl sf32), (2, .inl sf32), (3, .inl sf32), (6, .inr (.inr sf64))], sA0, [(0, 16, ([(5, 1)], 0), ([(6, 1)], 0))], ([], [], [(1, ([(0, 1)], 0)), (2, ([(1, 1)], (-2))), (3, ([(2, 1)], 0)), (6, ([(7, 1)], 0))], [([(5, 1)], 0), ([(6, (-1))], (-1)), ([(5, 1)], 0), ([(5, (-1))], 0)]), [], [])
def evTi_e4 (t : Nat) : sXe := (166, [], [(0, .inr (.inl (17 * t + 20))), (1, .inl sf32), (2, .inl sf32), (3, .inl sf32), (6, .inr (.inr sf64))], sA0, [(0, 16, ([(5, 1)], 0), ([(6, 1)], 0)), (0, 20, ([], 0), ([(6, 1)], 0)), (0, 17, ([], 1000000000000), ([(5, 1)], 0))], ([], [], [(1, ([(0, 1)], 0)), (2, ([(1, 1)], (-2))), (3, ([(2, 1)], 0)), (6, ([(7, 1)], 0))], [([(5, 1)], 0), ([(6, (-1))], (-1)), ([(5, 1)], (-1)), ([(8, (-1)), (9, 1)], 0)]), [], [])
def evTi_e5 (t : Nat) : sXe := (166, [], [(0, .inr (.inl (17 * t + 20))), (1, .inl sf32), (2, .inl sf32), (3, .inl sf32), (6, .inr (.inr sf64))], sA0, [(0, 20, ([], 0), ([(6, 1)], 0)), (0, 17, ([], 1000000000000), ([(5, 1)], 0))], ([], [], [(1, ([(0, 1)], 0)), (2, ([(1, 1)], (-2))), (3, ([(2, 1)], 0)), (6, ([], (-9223372036854775808)))], [([(5, 1)], 0), ([(6, (-1))], (-1)), ([(5, 1)], (-1)), ([(7, 1), (8, (-1))], (-1))]), [], [])
def evTi_e6 (t : Nat) : sXe := (166, [], [(0, .inr (.inl (17 * t + 20))), (1, .inl sf32), (2, .inl sf32), (3, .inl sf32), (6, .inr (.inr sf64))], sA0, [(0, 16, ([(5, 1)], 0), ([(6, 1)], 0)), (0, 20, ([], 0), ([(5, 1)], 0)), (0, 17, ([], 1000000000000), ([(8, 1)], 0))], ([], [], [(1, ([(0, 1)], 0)), (2, ([(1, 1)], (-2))), (3, ([(2, 1)], 0)), (6, ([(7, 1)], 0))], [([(5, (-1))], (-1)), ([(6, 1)], 0), ([(6, (-1)), (9, 1)], 0)]), [], [])
def evTi_e7 (t : Nat) : sXe := (166, [], [(0, .inr (.inl (17 * t + 20))), (1, .inl sf32), (2, .inl sf32), (3, .inl sf32), (6, .inr (.inr sf64))], sA0, [(0, 20, ([], 0), ([(5, 1)], 0)), (0, 17, ([], 1000000000000), ([(7, 1)], 0))], ([], [], [(1, ([(0, 1)], 0)), (2, ([(1, 1)], (-2))), (3, ([(2, 1)], 0)), (6, ([], (-9223372036854775808)))], [([(5, (-1))], (-1)), ([(6, 1)], 0), ([(6, 1), (8, (-1))], (-1))]), [], [])
def evTi_e8 (t : Nat) : sXe := (166, [], [(0, .inr (.inl (17 * t + 20))), (1, .inl sf32), (2, .inl sf32), (3, .inl sf32), (6, .inr (.inr sf64))], sA0, [(0, 16, ([(5, 1)], 0), ([(6, 1)], 0)), (0, 20, ([], 0), ([(6, 1)], 0)), (0, 20, ([], 0), ([(5, 1)], 0)), (0, 17, ([], 1000000000000), ([(9, 1)], 0))], ([], [], [(1, ([(0, 1)], 0)), (2, ([(1, 1)], (-2))), (3, ([(2, 1)], 0)), (6, ([(7, 1)], 0))], [([(5, (-1))], (-1)), ([(6, (-1))], (-1)), ([(8, (-1)), (10, 1)], 0)]), [], [])
def evTi_e9 (t : Nat) : sXe := (166, [], [(0, .inr (.inl (17 * t + 20))), (1, .inl sf32), (2, .inl sf32), (3, .inl sf32), (6, .inr (.inr sf64))], sA0, [(0, 20, ([], 0), ([(6, 1)], 0)), (0, 20, ([], 0), ([(5, 1)], 0)), (0, 17, ([], 1000000000000), ([(8, 1)], 0))], ([], [], [(1, ([(0, 1)], 0)), (2, ([(1, 1)], (-2))), (3, ([(2, 1)], 0)), (6, ([], (-9223372036854775808)))], [([(5, (-1))], (-1)), ([(6, (-1))], (-1)), ([(7, 1), (9, (-1))], (-1))]), [], [])
theorem evTi_b : ((List.range 2).all fun t => syeB swC sT0 (evTi_m t) 400 1 89 (evTi_L t) (evTi_S t) (evTi_A t) (evTi_P t) (evTi_G t) (evTi_B t) 21 [evTi_e0 t, evTi_e1 t, evTi_e2 t, evTi_e3 t, evTi_e4 t, evTi_e5 t, evTi_e6 t, evTi_e7 t, evTi_e8 t, evTi_e9 t] []) = true := by decide +kernel
theorem evTi {l : Launch} {Γ : zG} {d : Nat} (hd : 1 ≤ d) {Kp : Option Value → zH → Prop} {lo : zL} {h : zH} {t : Nat} (h_t : t < 2) {la hh kk tt va vb : Int} (hi : sInv swC h) (b_la : 0 ≤ la ∧ la ≤ 2) (b_hh : 2 ≤ hh ∧ hh ≤ 64) (b_kk : 0 ≤ kk ∧ kk ≤ 63) (b_tt : 0 ≤ tt ∧ tt ≤ 64) (b_va : (-1000000000000) ≤ va ∧ va ≤ 1000000000000) (b_vb : (-1000000000000) ≤ vb ∧ vb ≤ 1000000000000) (l0 : zget lo 0 = some (.ref (17 * t + 20))) (l1 : zI lo 1 la) (l2 : zI lo 2 hh) (l3 : zI lo 3 kk) (p_tt : pI h (17 * t + 23) (la + 0).toNat = tt) (p_kn : pI h (17 * t + 21) (kk + 0).toNat = (-33)) (p_va : pL h (17 * t + 25) (hh + (-2)).toNat = va) (p_vb : pL h (17 * t + 25) (hh + (-1)).toNat = vb) (d0 : 1 ≤ tt - kk)
    (hE0 : ∀ (lo' : zL) (h' : zH), sInv swC h' → sMd (evTi_m t) h h' → 0 ≤ va → 0 ≤ vb → va = 0 → zget lo' 0 = some (.ref (17 * t + 20)) → zI lo' 1 la → zI lo' 2 (hh - 2) → zI lo' 3 kk → zJ lo' 6 0 → zX l Γ false (d + 1) (zhd 89) (zMQ' Γ false (zhd 89) Kp) 0 0 166 lo' [] h')
    (hE1 : ∀ (lo' : zL) (h' : zH) (w0 w1 : Int), sInv swC h' → sMd (evTi_m t) h h' → w0 = sgfn 16 va vb → w1 = sgfn 17 1000000000000 va → 0 ≤ va → 0 ≤ vb → 0 ≤ va - 1 → 0 ≤ -vb + w1 → zget lo' 0 = some (.ref (17 * t + 20)) → zI lo' 1 la → zI lo' 2 (hh - 2) → zI lo' 3 kk → zJ lo' 6 w0 → zX l Γ false (d + 1) (zhd 89) (zMQ' Γ false (zhd 89) Kp) 0 0 166 lo' [] h')
    (hE2 : ∀ (lo' : zL) (h' : zH) (w0 : Int), sInv swC h' → sMd (evTi_m t) h h' → w0 = sgfn 17 1000000000000 va → 0 ≤ va → 0 ≤ vb → 0 ≤ va - 1 → 0 ≤ vb - w0 - 1 → zget lo' 0 = some (.ref (17 * t + 20)) → zI lo' 1 la → zI lo' 2 (hh - 2) → zI lo' 3 kk → zJ lo' 6 (-9223372036854775808) → zX l Γ false (d + 1) (zhd 89) (zMQ' Γ false (zhd 89) Kp) 0 0 166 lo' [] h')
    (hE3 : ∀ (lo' : zL) (h' : zH) (w0 : Int), sInv swC h' → sMd (evTi_m t) h h' → w0 = sgfn 16 va vb → 0 ≤ va → 0 ≤ -vb - 1 → va = 0 → zget lo' 0 = some (.ref (17 * t + 20)) → zI lo' 1 la → zI lo' 2 (hh - 2) → zI lo' 3 kk → zJ lo' 6 w0 → zX l Γ false (d + 1) (zhd 89) (zMQ' Γ false (zhd 89) Kp) 0 0 166 lo' [] h')
    (hE4 : ∀ (lo' : zL) (h' : zH) (w0 w1 w2 : Int), sInv swC h' → sMd (evTi_m t) h h' → w0 = sgfn 16 va vb → w1 = sgfn 20 0 vb → w2 = sgfn 17 1000000000000 va → 0 ≤ va → 0 ≤ -vb - 1 → 0 ≤ va - 1 → 0 ≤ -w1 + w2 → zget lo' 0 = some (.ref (17 * t + 20)) → zI lo' 1 la → zI lo' 2 (hh - 2) → zI lo' 3 kk → zJ lo' 6 w0 → zX l Γ false (d + 1) (zhd 89) (zMQ' Γ false (zhd 89) Kp) 0 0 166 lo' [] h')
    (hE5 : ∀ (lo' : zL) (h' : zH) (w0 w1 : Int), sInv swC h' → sMd (evTi_m t) h h' → w0 = sgfn 20 0 vb → w1 = sgfn 17 1000000000000 va → 0 ≤ va → 0 ≤ -vb - 1 → 0 ≤ va - 1 → 0 ≤ w0 - w1 - 1 → zget lo' 0 = some (.ref (17 * t + 20)) → zI lo' 1 la → zI lo' 2 (hh - 2) → zI lo' 3 kk → zJ lo' 6 (-9223372036854775808) → zX l Γ false (d + 1) (zhd 89) (zMQ' Γ false (zhd 89) Kp) 0 0 166 lo' [] h')
    (hE6 : ∀ (lo' : zL) (h' : zH) (w0 w1 w2 : Int), sInv swC h' → sMd (evTi_m t) h h' → w0 = sgfn 16 va vb → w1 = sgfn 20 0 va → w2 = sgfn 17 1000000000000 w1 → 0 ≤ -va - 1 → 0 ≤ vb → 0 ≤ -vb + w2 → zget lo' 0 = some (.ref (17 * t + 20)) → zI lo' 1 la → zI lo' 2 (hh - 2) → zI lo' 3 kk → zJ lo' 6 w0 → zX l Γ false (d + 1) (zhd 89) (zMQ' Γ false (zhd 89) Kp) 0 0 166 lo' [] h')
    (hE7 : ∀ (lo' : zL) (h' : zH) (w0 w1 : Int), sInv swC h' → sMd (evTi_m t) h h' → w0 = sgfn 20 0 va → w1 = sgfn 17 1000000000000 w0 → 0 ≤ -va - 1 → 0 ≤ vb → 0 ≤ vb - w1 - 1 → zget lo' 0 = some (.ref (17 * t + 20)) → zI lo' 1 la → zI lo' 2 (hh - 2) → zI lo' 3 kk → zJ lo' 6 (-9223372036854775808) → zX l Γ false (d + 1) (zhd 89) (zMQ' Γ false (zhd 89) Kp) 0 0 166 lo' [] h')
    (hE8 : ∀ (lo' : zL) (h' : zH) (w0 w1 w2 w3 : Int), sInv swC h' → sMd (evTi_m t) h h' → w0 = sgfn 16 va vb → w1 = sgfn 20 0 vb → w2 = sgfn 20 0 va → w3 = sgfn 17 1000000000000 w2 → 0 ≤ -va - 1 → 0 ≤ -vb - 1 → 0 ≤ -w1 + w3 → zget lo' 0 = some (.ref (17 * t + 20)) → zI lo' 1 la → zI lo' 2 (hh - 2) → zI lo' 3 kk → zJ lo' 6 w0 → zX l Γ false (d + 1) (zhd 89) (zMQ' Γ false (zhd 89) Kp) 0 0 166 lo' [] h')
    (hE9 : ∀ (lo' : zL) (h' : zH) (w0 w1 w2 : Int), sInv swC h' → sMd (evTi_m t) h h' → w0 = sgfn 20 0 vb → w1 = sgfn 20 0 va → w2 = sgfn 17 1000000000000 w1 → 0 ≤ -va - 1 → 0 ≤ -vb - 1 → 0 ≤ w0 - w2 - 1 → zget lo' 0 = some (.ref (17 * t + 20)) → zI lo' 1 la → zI lo' 2 (hh - 2) → zI lo' 3 kk → zJ lo' 6 (-9223372036854775808) → zX l Γ false (d + 1) (zhd 89) (zMQ' Γ false (zhd 89) Kp) 0 0 166 lo' [] h') : zX l Γ false (d + 1) (zhd 89) (zMQ' Γ false (zhd 89) Kp) 0 0 21 lo [] h := by
  refine sye_ok (mi := 89) (pc := 21) (fun i => [la, hh, kk, tt, (-33), va, vb].getD i 0) (zall_r evTi_b h_t) (fun _ _ hc _ => nomatch hc) hd ⟨l0, zIm l1 (by show 0 ≤ la; omega) (by show la ≤ 2; omega), zIm l2 (by show 2 ≤ hh; omega) (by show hh ≤ 64; omega), zIm l3 (by show 0 ≤ kk; omega) (by show kk ≤ 63; omega), trivial⟩ rfl ⟨(fun _ hc => nomatch hc), (fun _ hc => nomatch hc), (fun _ hc => nomatch hc), Or.inl rfl⟩ ⟨⟨p_tt, by show 0 ≤ tt; omega, by show tt ≤ 64; omega⟩, ⟨p_kn, by show (-33) ≤ (-33); omega, by show (-33) ≤ (-33); omega⟩, trivial⟩ ⟨⟨p_va, by show (-1000000000000) ≤ va; omega, by show va ≤ 1000000000000; omega⟩, ⟨p_vb, by show (-1000000000000) ≤ vb; omega, by show vb ≤ 1000000000000; omega⟩, trivial⟩ (sfm d0 (fun _ hc => nomatch hc)) hi ?_ ?_
  · intro e he lo' st' h' hp hi' hm
    rcases List.mem_cons.mp he with rfl | he
    · obtain ⟨p1, p2, -, hz⟩ := hp
      obtain ⟨⟨z1, z2, z3, z4⟩, z5, z6⟩ := hz
      have c0 : 0 ≤ va := by have q_ : (0 : Int) ≤ (1 * va + 0) + 0 := z4 ([(5, 1)], 0) (List.mem_of_getElem? (i := 0) rfl); omega
      have c1 : 0 ≤ vb := by have q_ : (0 : Int) ≤ (1 * vb + 0) + 0 := z4 ([(6, 1)], 0) (List.mem_of_getElem? (i := 1) rfl); omega
      have c2 : va = 0 := by have q_ : (0 : Int) ≤ (1 * va + 0) + 0 := z4 ([(5, 1)], 0) (List.mem_of_getElem? (i := 2) rfl); have q2_ : (0 : Int) ≤ ((-1) * va + 0) + 0 := z4 ([(5, (-1))], 0) (List.mem_of_getElem? (i := 3) rfl); omega
      have o0 : zget lo' 0 = some (.ref (17 * t + 20)) := locR (p2 (0, .inr (.inl (17 * t + 20))) (List.mem_of_getElem? (i := 0) rfl))
      have o1 : zI lo' 1 la := zI_of (p2 (1, .inl sf32) (List.mem_of_getElem? (i := 1) rfl)) (z3 (1, ([(0, 1)], 0)) (List.mem_of_getElem? (i := 0) rfl)) (show (1 * la + 0) + 0 = la from by omega)
      have o2 : zI lo' 2 (hh - 2) := zI_of (p2 (2, .inl sf32) (List.mem_of_getElem? (i := 2) rfl)) (z3 (2, ([(1, 1)], (-2))) (List.mem_of_getElem? (i := 1) rfl)) (show (1 * hh + 0) + (-2) = hh - 2 from by omega)
      have o3 : zI lo' 3 kk := zI_of (p2 (3, .inl sf32) (List.mem_of_getElem? (i := 3) rfl)) (z3 (3, ([(2, 1)], 0)) (List.mem_of_getElem? (i := 2) rfl)) (show (1 * kk + 0) + 0 = kk from by omega)
      have o6 : zJ lo' 6 0 := zJ_of (p2 (6, .inr (.inr sf64)) (List.mem_of_getElem? (i := 4) rfl)) (z3 (6, ([], 0)) (List.mem_of_getElem? (i := 3) rfl)) (show 0 + 0 = 0 from by omega)
      have p1 : _ = [] := p1
      subst p1
      exact hE0 lo' h' hi' hm c0 c1 c2 o0 o1 o2 o3 o6
    rcases List.mem_cons.mp he with rfl | he
    · obtain ⟨p1, p2, -, hz⟩ := hp
      obtain ⟨w0, f0, hz⟩ := hz
      obtain ⟨w1, f1, hz⟩ := hz
      obtain ⟨⟨z1, z2, z3, z4⟩, z5, z6⟩ := hz
      have g0 : w0 = sgfn 16 va vb := (show w0 = sgfn 16 ((1 * va + 0) + 0) ((1 * vb + 0) + 0) from f0).trans (sgfn_c (by omega) (by omega))
      have g1 : w1 = sgfn 17 1000000000000 va := (show w1 = sgfn 17 (0 + 1000000000000) ((1 * va + 0) + 0) from f1).trans (sgfn_c (by omega) (by omega))
      have c0 : 0 ≤ va := by have q_ : (0 : Int) ≤ (1 * va + 0) + 0 := z4 ([(5, 1)], 0) (List.mem_of_getElem? (i := 0) rfl); omega
      have c1 : 0 ≤ vb := by have q_ : (0 : Int) ≤ (1 * vb + 0) + 0 := z4 ([(6, 1)], 0) (List.mem_of_getElem? (i := 1) rfl); omega
      have c2 : 0 ≤ va - 1 := by have q_ : (0 : Int) ≤ (1 * va + 0) + (-1) := z4 ([(5, 1)], (-1)) (List.mem_of_getElem? (i := 2) rfl); omega
      have c3 : 0 ≤ -vb + w1 := by have q_ : (0 : Int) ≤ ((-1) * vb + (1 * w1 + 0)) + 0 := z4 ([(6, (-1)), (8, 1)], 0) (List.mem_of_getElem? (i := 3) rfl); omega
      have o0 : zget lo' 0 = some (.ref (17 * t + 20)) := locR (p2 (0, .inr (.inl (17 * t + 20))) (List.mem_of_getElem? (i := 0) rfl))
      have o1 : zI lo' 1 la := zI_of (p2 (1, .inl sf32) (List.mem_of_getElem? (i := 1) rfl)) (z3 (1, ([(0, 1)], 0)) (List.mem_of_getElem? (i := 0) rfl)) (show (1 * la + 0) + 0 = la from by omega)
      have o2 : zI lo' 2 (hh - 2) := zI_of (p2 (2, .inl sf32) (List.mem_of_getElem? (i := 2) rfl)) (z3 (2, ([(1, 1)], (-2))) (List.mem_of_getElem? (i := 1) rfl)) (show (1 * hh + 0) + (-2) = hh - 2 from by omega)
      have o3 : zI lo' 3 kk := zI_of (p2 (3, .inl sf32) (List.mem_of_getElem? (i := 3) rfl)) (z3 (3, ([(2, 1)], 0)) (List.mem_of_getElem? (i := 2) rfl)) (show (1 * kk + 0) + 0 = kk from by omega)
      have o6 : zJ lo' 6 w0 := zJ_of (p2 (6, .inr (.inr sf64)) (List.mem_of_getElem? (i := 4) rfl)) (z3 (6, ([(7, 1)], 0)) (List.mem_of_getElem? (i := 3) rfl)) (show (1 * w0 + 0) + 0 = w0 from by omega)
      have p1 : _ = [] := p1
      subst p1
      exact hE1 lo' h' w0 w1 hi' hm g0 g1 c0 c1 c2 c3 o0 o1 o2 o3 o6
    rcases List.mem_cons.mp he with rfl | he
    · obtain ⟨p1, p2, -, hz⟩ := hp
      obtain ⟨w0, f0, hz⟩ := hz
      obtain ⟨⟨z1, z2, z3, z4⟩, z5, z6⟩ := hz
      have g0 : w0 = sgfn 17 1000000000000 va := (show w0 = sgfn 17 (0 + 1000000000000) ((1 * va + 0) + 0) from f0).trans (sgfn_c (by omega) (by omega))
      have c0 : 0 ≤ va := by have q_ : (0 : Int) ≤ (1 * va + 0) + 0 := z4 ([(5, 1)], 0) (List.mem_of_getElem? (i := 0) rfl); omega
      have c1 : 0 ≤ vb := by have q_ : (0 : Int) ≤ (1 * vb + 0) + 0 := z4 ([(6, 1)], 0) (List.mem_of_getElem? (i := 1) rfl); omega
      have c2 : 0 ≤ va - 1 := by have q_ : (0 : Int) ≤ (1 * va + 0) + (-1) := z4 ([(5, 1)], (-1)) (List.mem_of_getElem? (i := 2) rfl); omega
      have c3 : 0 ≤ vb - w0 - 1 := by have q_ : (0 : Int) ≤ (1 * vb + ((-1) * w0 + 0)) + (-1) := z4 ([(6, 1), (7, (-1))], (-1)) (List.mem_of_getElem? (i := 3) rfl); omega
      have o0 : zget lo' 0 = some (.ref (17 * t + 20)) := locR (p2 (0, .inr (.inl (17 * t + 20))) (List.mem_of_getElem? (i := 0) rfl))
      have o1 : zI lo' 1 la := zI_of (p2 (1, .inl sf32) (List.mem_of_getElem? (i := 1) rfl)) (z3 (1, ([(0, 1)], 0)) (List.mem_of_getElem? (i := 0) rfl)) (show (1 * la + 0) + 0 = la from by omega)
      have o2 : zI lo' 2 (hh - 2) := zI_of (p2 (2, .inl sf32) (List.mem_of_getElem? (i := 2) rfl)) (z3 (2, ([(1, 1)], (-2))) (List.mem_of_getElem? (i := 1) rfl)) (show (1 * hh + 0) + (-2) = hh - 2 from by omega)
      have o3 : zI lo' 3 kk := zI_of (p2 (3, .inl sf32) (List.mem_of_getElem? (i := 3) rfl)) (z3 (3, ([(2, 1)], 0)) (List.mem_of_getElem? (i := 2) rfl)) (show (1 * kk + 0) + 0 = kk from by omega)
      have o6 : zJ lo' 6 (-9223372036854775808) := zJ_of (p2 (6, .inr (.inr sf64)) (List.mem_of_getElem? (i := 4) rfl)) (z3 (6, ([], (-9223372036854775808))) (List.mem_of_getElem? (i := 3) rfl)) (show 0 + (-9223372036854775808) = (-9223372036854775808) from by omega)
      have p1 : _ = [] := p1
      subst p1
      exact hE2 lo' h' w0 hi' hm g0 c0 c1 c2 c3 o0 o1 o2 o3 o6
    rcases List.mem_cons.mp he with rfl | he
    · obtain ⟨p1, p2, -, hz⟩ := hp
      obtain ⟨w0, f0, hz⟩ := hz
      obtain ⟨⟨z1, z2, z3, z4⟩, z5, z6⟩ := hz
      have g0 : w0 = sgfn 16 va vb := (show w0 = sgfn 16 ((1 * va + 0) + 0) ((1 * vb + 0) + 0) from f0).trans (sgfn_c (by omega) (by omega))
      have c0 : 0 ≤ va := by have q_ : (0 : Int) ≤ (1 * va + 0) + 0 := z4 ([(5, 1)], 0) (List.mem_of_getElem? (i := 0) rfl); omega
      have c1 : 0 ≤ -vb - 1 := by have q_ : (0 : Int) ≤ ((-1) * vb + 0) + (-1) := z4 ([(6, (-1))], (-1)) (List.mem_of_getElem? (i := 1) rfl); omega
      have c2 : va = 0 := by have q_ : (0 : Int) ≤ (1 * va + 0) + 0 := z4 ([(5, 1)], 0) (List.mem_of_getElem? (i := 2) rfl); have q2_ : (0 : Int) ≤ ((-1) * va + 0) + 0 := z4 ([(5, (-1))], 0) (List.mem_of_getElem? (i := 3) rfl); omega
      have o0 : zget lo' 0 = some (.ref (17 * t + 20)) := locR (p2 (0, .inr (.inl (17 * t + 20))) (List.mem_of_getElem? (i := 0) rfl))
      have o1 : zI lo' 1 la := zI_of (p2 (1, .inl sf32) (List.mem_of_getElem? (i := 1) rfl)) (z3 (1, ([(0, 1)], 0)) (List.mem_of_getElem? (i := 0) rfl)) (show (1 * la + 0) + 0 = la from by omega)
      have o2 : zI lo' 2 (hh - 2) := zI_of (p2 (2, .inl sf32) (List.mem_of_getElem? (i := 2) rfl)) (z3 (2, ([(1, 1)], (-2))) (List.mem_of_getElem? (i := 1) rfl)) (show (1 * hh + 0) + (-2) = hh - 2 from by omega)
      have o3 : zI lo' 3 kk := zI_of (p2 (3, .inl sf32) (List.mem_of_getElem? (i := 3) rfl)) (z3 (3, ([(2, 1)], 0)) (List.mem_of_getElem? (i := 2) rfl)) (show (1 * kk + 0) + 0 = kk from by omega)
      have o6 : zJ lo' 6 w0 := zJ_of (p2 (6, .inr (.inr sf64)) (List.mem_of_getElem? (i := 4) rfl)) (z3 (6, ([(7, 1)], 0)) (List.mem_of_getElem? (i := 3) rfl)) (show (1 * w0 + 0) + 0 = w0 from by omega)
      have p1 : _ = [] := p1
      subst p1
      exact hE3 lo' h' w0 hi' hm g0 c0 c1 c2 o0 o1 o2 o3 o6
    rcases List.mem_cons.mp he with rfl | he
    · obtain ⟨p1, p2, -, hz⟩ := hp
      obtain ⟨w0, f0, hz⟩ := hz
      obtain ⟨w1, f1, hz⟩ := hz
      obtain ⟨w2, f2, hz⟩ := hz
      obtain ⟨⟨z1, z2, z3, z4⟩, z5, z6⟩ := hz
      have g0 : w0 = sgfn 16 va vb := (show w0 = sgfn 16 ((1 * va + 0) + 0) ((1 * vb + 0) + 0) from f0).trans (sgfn_c (by omega) (by omega))
      have g1 : w1 = sgfn 20 0 vb := (show w1 = sgfn 20 (0 + 0) ((1 * vb + 0) + 0) from f1).trans (sgfn_c (by omega) (by omega))
      have g2 : w2 = sgfn 17 1000000000000 va := (show w2 = sgfn 17 (0 + 1000000000000) ((1 * va + 0) + 0) from f2).trans (sgfn_c (by omega) (by omega))
      have c0 : 0 ≤ va := by have q_ : (0 : Int) ≤ (1 * va + 0) + 0 := z4 ([(5, 1)], 0) (List.mem_of_getElem? (i := 0) rfl); omega
      have c1 : 0 ≤ -vb - 1 := by have q_ : (0 : Int) ≤ ((-1) * vb + 0) + (-1) := z4 ([(6, (-1))], (-1)) (List.mem_of_getElem? (i := 1) rfl); omega
      have c2 : 0 ≤ va - 1 := by have q_ : (0 : Int) ≤ (1 * va + 0) + (-1) := z4 ([(5, 1)], (-1)) (List.mem_of_getElem? (i := 2) rfl); omega
      have c3 : 0 ≤ -w1 + w2 := by have q_ : (0 : Int) ≤ ((-1) * w1 + (1 * w2 + 0)) + 0 := z4 ([(8, (-1)), (9, 1)], 0) (List.mem_of_getElem? (i := 3) rfl); omega
      have o0 : zget lo' 0 = some (.ref (17 * t + 20)) := locR (p2 (0, .inr (.inl (17 * t + 20))) (List.mem_of_getElem? (i := 0) rfl))
      have o1 : zI lo' 1 la := zI_of (p2 (1, .inl sf32) (List.mem_of_getElem? (i := 1) rfl)) (z3 (1, ([(0, 1)], 0)) (List.mem_of_getElem? (i := 0) rfl)) (show (1 * la + 0) + 0 = la from by omega)
      have o2 : zI lo' 2 (hh - 2) := zI_of (p2 (2, .inl sf32) (List.mem_of_getElem? (i := 2) rfl)) (z3 (2, ([(1, 1)], (-2))) (List.mem_of_getElem? (i := 1) rfl)) (show (1 * hh + 0) + (-2) = hh - 2 from by omega)
      have o3 : zI lo' 3 kk := zI_of (p2 (3, .inl sf32) (List.mem_of_getElem? (i := 3) rfl)) (z3 (3, ([(2, 1)], 0)) (List.mem_of_getElem? (i := 2) rfl)) (show (1 * kk + 0) + 0 = kk from by omega)
      have o6 : zJ lo' 6 w0 := zJ_of (p2 (6, .inr (.inr sf64)) (List.mem_of_getElem? (i := 4) rfl)) (z3 (6, ([(7, 1)], 0)) (List.mem_of_getElem? (i := 3) rfl)) (show (1 * w0 + 0) + 0 = w0 from by omega)
      have p1 : _ = [] := p1
      subst p1
      exact hE4 lo' h' w0 w1 w2 hi' hm g0 g1 g2 c0 c1 c2 c3 o0 o1 o2 o3 o6
    rcases List.mem_cons.mp he with rfl | he
    · obtain ⟨p1, p2, -, hz⟩ := hp
      obtain ⟨w0, f0, hz⟩ := hz
      obtain ⟨w1, f1, hz⟩ := hz
      obtain ⟨⟨z1, z2, z3, z4⟩, z5, z6⟩ := hz
      have g0 : w0 = sgfn 20 0 vb := (show w0 = sgfn 20 (0 + 0) ((1 * vb + 0) + 0) from f0).trans (sgfn_c (by omega) (by omega))
      have g1 : w1 = sgfn 17 1000000000000 va := (show w1 = sgfn 17 (0 + 1000000000000) ((1 * va + 0) + 0) from f1).trans (sgfn_c (by omega) (by omega))
      have c0 : 0 ≤ va := by have q_ : (0 : Int) ≤ (1 * va + 0) + 0 := z4 ([(5, 1)], 0) (List.mem_of_getElem? (i := 0) rfl); omega
      have c1 : 0 ≤ -vb - 1 := by have q_ : (0 : Int) ≤ ((-1) * vb + 0) + (-1) := z4 ([(6, (-1))], (-1)) (List.mem_of_getElem? (i := 1) rfl); omega
      have c2 : 0 ≤ va - 1 := by have q_ : (0 : Int) ≤ (1 * va + 0) + (-1) := z4 ([(5, 1)], (-1)) (List.mem_of_getElem? (i := 2) rfl); omega
      have c3 : 0 ≤ w0 - w1 - 1 := by have q_ : (0 : Int) ≤ (1 * w0 + ((-1) * w1 + 0)) + (-1) := z4 ([(7, 1), (8, (-1))], (-1)) (List.mem_of_getElem? (i := 3) rfl); omega
      have o0 : zget lo' 0 = some (.ref (17 * t + 20)) := locR (p2 (0, .inr (.inl (17 * t + 20))) (List.mem_of_getElem? (i := 0) rfl))
      have o1 : zI lo' 1 la := zI_of (p2 (1, .inl sf32) (List.mem_of_getElem? (i := 1) rfl)) (z3 (1, ([(0, 1)], 0)) (List.mem_of_getElem? (i := 0) rfl)) (show (1 * la + 0) + 0 = la from by omega)
      have o2 : zI lo' 2 (hh - 2) := zI_of (p2 (2, .inl sf32) (List.mem_of_getElem? (i := 2) rfl)) (z3 (2, ([(1, 1)], (-2))) (List.mem_of_getElem? (i := 1) rfl)) (show (1 * hh + 0) + (-2) = hh - 2 from by omega)
      have o3 : zI lo' 3 kk := zI_of (p2 (3, .inl sf32) (List.mem_of_getElem? (i := 3) rfl)) (z3 (3, ([(2, 1)], 0)) (List.mem_of_getElem? (i := 2) rfl)) (show (1 * kk + 0) + 0 = kk from by omega)
      have o6 : zJ lo' 6 (-9223372036854775808) := zJ_of (p2 (6, .inr (.inr sf64)) (List.mem_of_getElem? (i := 4) rfl)) (z3 (6, ([], (-9223372036854775808))) (List.mem_of_getElem? (i := 3) rfl)) (show 0 + (-9223372036854775808) = (-9223372036854775808) from by omega)
      have p1 : _ = [] := p1
      subst p1
      exact hE5 lo' h' w0 w1 hi' hm g0 g1 c0 c1 c2 c3 o0 o1 o2 o3 o6
    rcases List.mem_cons.mp he with rfl | he
    · obtain ⟨p1, p2, -, hz⟩ := hp
      obtain ⟨w0, f0, hz⟩ := hz
      obtain ⟨w1, f1, hz⟩ := hz
      obtain ⟨w2, f2, hz⟩ := hz
      obtain ⟨⟨z1, z2, z3, z4⟩, z5, z6⟩ := hz
      have g0 : w0 = sgfn 16 va vb := (show w0 = sgfn 16 ((1 * va + 0) + 0) ((1 * vb + 0) + 0) from f0).trans (sgfn_c (by omega) (by omega))
      have g1 : w1 = sgfn 20 0 va := (show w1 = sgfn 20 (0 + 0) ((1 * va + 0) + 0) from f1).trans (sgfn_c (by omega) (by omega))
      have g2 : w2 = sgfn 17 1000000000000 w1 := (show w2 = sgfn 17 (0 + 1000000000000) ((1 * w1 + 0) + 0) from f2).trans (sgfn_c (by omega) (by omega))
      have c0 : 0 ≤ -va - 1 := by have q_ : (0 : Int) ≤ ((-1) * va + 0) + (-1) := z4 ([(5, (-1))], (-1)) (List.mem_of_getElem? (i := 0) rfl); omega
      have c1 : 0 ≤ vb := by have q_ : (0 : Int) ≤ (1 * vb + 0) + 0 := z4 ([(6, 1)], 0) (List.mem_of_getElem? (i := 1) rfl); omega
      have c2 : 0 ≤ -vb + w2 := by have q_ : (0 : Int) ≤ ((-1) * vb + (1 * w2 + 0)) + 0 := z4 ([(6, (-1)), (9, 1)], 0) (List.mem_of_getElem? (i := 2) rfl); omega
      have o0 : zget lo' 0 = some (.ref (17 * t + 20)) := locR (p2 (0, .inr (.inl (17 * t + 20))) (List.mem_of_getElem? (i := 0) rfl))
      have o1 : zI lo' 1 la := zI_of (p2 (1, .inl sf32) (List.mem_of_getElem? (i := 1) rfl)) (z3 (1, ([(0, 1)], 0)) (List.mem_of_getElem? (i := 0) rfl)) (show (1 * la + 0) + 0 = la from by omega)
      have o2 : zI lo' 2 (hh - 2) := zI_of (p2 (2, .inl sf32) (List.mem_of_getElem? (i := 2) rfl)) (z3 (2, ([(1, 1)], (-2))) (List.mem_of_getElem? (i := 1) rfl)) (show (1 * hh + 0) + (-2) = hh - 2 from by omega)
      have o3 : zI lo' 3 kk := zI_of (p2 (3, .inl sf32) (List.mem_of_getElem? (i := 3) rfl)) (z3 (3, ([(2, 1)], 0)) (List.mem_of_getElem? (i := 2) rfl)) (show (1 * kk + 0) + 0 = kk from by omega)
      have o6 : zJ lo' 6 w0 := zJ_of (p2 (6, .inr (.inr sf64)) (List.mem_of_getElem? (i := 4) rfl)) (z3 (6, ([(7, 1)], 0)) (List.mem_of_getElem? (i := 3) rfl)) (show (1 * w0 + 0) + 0 = w0 from by omega)
      have p1 : _ = [] := p1
      subst p1
      exact hE6 lo' h' w0 w1 w2 hi' hm g0 g1 g2 c0 c1 c2 o0 o1 o2 o3 o6
    rcases List.mem_cons.mp he with rfl | he
    · obtain ⟨p1, p2, -, hz⟩ := hp
      obtain ⟨w0, f0, hz⟩ := hz
      obtain ⟨w1, f1, hz⟩ := hz
      obtain ⟨⟨z1, z2, z3, z4⟩, z5, z6⟩ := hz
      have g0 : w0 = sgfn 20 0 va := (show w0 = sgfn 20 (0 + 0) ((1 * va + 0) + 0) from f0).trans (sgfn_c (by omega) (by omega))
      have g1 : w1 = sgfn 17 1000000000000 w0 := (show w1 = sgfn 17 (0 + 1000000000000) ((1 * w0 + 0) + 0) from f1).trans (sgfn_c (by omega) (by omega))
      have c0 : 0 ≤ -va - 1 := by have q_ : (0 : Int) ≤ ((-1) * va + 0) + (-1) := z4 ([(5, (-1))], (-1)) (List.mem_of_getElem? (i := 0) rfl); omega
      have c1 : 0 ≤ vb := by have q_ : (0 : Int) ≤ (1 * vb + 0) + 0 := z4 ([(6, 1)], 0) (List.mem_of_getElem? (i := 1) rfl); omega
      have c2 : 0 ≤ vb - w1 - 1 := by have q_ : (0 : Int) ≤ (1 * vb + ((-1) * w1 + 0)) + (-1) := z4 ([(6, 1), (8, (-1))], (-1)) (List.mem_of_getElem? (i := 2) rfl); omega
      have o0 : zget lo' 0 = some (.ref (17 * t + 20)) := locR (p2 (0, .inr (.inl (17 * t + 20))) (List.mem_of_getElem? (i := 0) rfl))
      have o1 : zI lo' 1 la := zI_of (p2 (1, .inl sf32) (List.mem_of_getElem? (i := 1) rfl)) (z3 (1, ([(0, 1)], 0)) (List.mem_of_getElem? (i := 0) rfl)) (show (1 * la + 0) + 0 = la from by omega)
      have o2 : zI lo' 2 (hh - 2) := zI_of (p2 (2, .inl sf32) (List.mem_of_getElem? (i := 2) rfl)) (z3 (2, ([(1, 1)], (-2))) (List.mem_of_getElem? (i := 1) rfl)) (show (1 * hh + 0) + (-2) = hh - 2 from by omega)
      have o3 : zI lo' 3 kk := zI_of (p2 (3, .inl sf32) (List.mem_of_getElem? (i := 3) rfl)) (z3 (3, ([(2, 1)], 0)) (List.mem_of_getElem? (i := 2) rfl)) (show (1 * kk + 0) + 0 = kk from by omega)
      have o6 : zJ lo' 6 (-9223372036854775808) := zJ_of (p2 (6, .inr (.inr sf64)) (List.mem_of_getElem? (i := 4) rfl)) (z3 (6, ([], (-9223372036854775808))) (List.mem_of_getElem? (i := 3) rfl)) (show 0 + (-9223372036854775808) = (-9223372036854775808) from by omega)
      have p1 : _ = [] := p1
      subst p1
      exact hE7 lo' h' w0 w1 hi' hm g0 g1 c0 c1 c2 o0 o1 o2 o3 o6
    rcases List.mem_cons.mp he with rfl | he
    · obtain ⟨p1, p2, -, hz⟩ := hp
      obtain ⟨w0, f0, hz⟩ := hz
      obtain ⟨w1, f1, hz⟩ := hz
      obtain ⟨w2, f2, hz⟩ := hz
      obtain ⟨w3, f3, hz⟩ := hz
      obtain ⟨⟨z1, z2, z3, z4⟩, z5, z6⟩ := hz
      have g0 : w0 = sgfn 16 va vb := (show w0 = sgfn 16 ((1 * va + 0) + 0) ((1 * vb + 0) + 0) from f0).trans (sgfn_c (by omega) (by omega))
      have g1 : w1 = sgfn 20 0 vb := (show w1 = sgfn 20 (0 + 0) ((1 * vb + 0) + 0) from f1).trans (sgfn_c (by omega) (by omega))
      have g2 : w2 = sgfn 20 0 va := (show w2 = sgfn 20 (0 + 0) ((1 * va + 0) + 0) from f2).trans (sgfn_c (by omega) (by omega))
      have g3 : w3 = sgfn 17 1000000000000 w2 := (show w3 = sgfn 17 (0 + 1000000000000) ((1 * w2 + 0) + 0) from f3).trans (sgfn_c (by omega) (by omega))
      have c0 : 0 ≤ -va - 1 := by have q_ : (0 : Int) ≤ ((-1) * va + 0) + (-1) := z4 ([(5, (-1))], (-1)) (List.mem_of_getElem? (i := 0) rfl); omega
      have c1 : 0 ≤ -vb - 1 := by have q_ : (0 : Int) ≤ ((-1) * vb + 0) + (-1) := z4 ([(6, (-1))], (-1)) (List.mem_of_getElem? (i := 1) rfl); omega
      have c2 : 0 ≤ -w1 + w3 := by have q_ : (0 : Int) ≤ ((-1) * w1 + (1 * w3 + 0)) + 0 := z4 ([(8, (-1)), (10, 1)], 0) (List.mem_of_getElem? (i := 2) rfl); omega
      have o0 : zget lo' 0 = some (.ref (17 * t + 20)) := locR (p2 (0, .inr (.inl (17 * t + 20))) (List.mem_of_getElem? (i := 0) rfl))
      have o1 : zI lo' 1 la := zI_of (p2 (1, .inl sf32) (List.mem_of_getElem? (i := 1) rfl)) (z3 (1, ([(0, 1)], 0)) (List.mem_of_getElem? (i := 0) rfl)) (show (1 * la + 0) + 0 = la from by omega)
      have o2 : zI lo' 2 (hh - 2) := zI_of (p2 (2, .inl sf32) (List.mem_of_getElem? (i := 2) rfl)) (z3 (2, ([(1, 1)], (-2))) (List.mem_of_getElem? (i := 1) rfl)) (show (1 * hh + 0) + (-2) = hh - 2 from by omega)
      have o3 : zI lo' 3 kk := zI_of (p2 (3, .inl sf32) (List.mem_of_getElem? (i := 3) rfl)) (z3 (3, ([(2, 1)], 0)) (List.mem_of_getElem? (i := 2) rfl)) (show (1 * kk + 0) + 0 = kk from by omega)
      have o6 : zJ lo' 6 w0 := zJ_of (p2 (6, .inr (.inr sf64)) (List.mem_of_getElem? (i := 4) rfl)) (z3 (6, ([(7, 1)], 0)) (List.mem_of_getElem? (i := 3) rfl)) (show (1 * w0 + 0) + 0 = w0 from by omega)
      have p1 : _ = [] := p1
      subst p1
      exact hE8 lo' h' w0 w1 w2 w3 hi' hm g0 g1 g2 g3 c0 c1 c2 o0 o1 o2 o3 o6
    rcases List.mem_cons.mp he with rfl | he
    · obtain ⟨p1, p2, -, hz⟩ := hp
      obtain ⟨w0, f0, hz⟩ := hz
      obtain ⟨w1, f1, hz⟩ := hz
      obtain ⟨w2, f2, hz⟩ := hz
      obtain ⟨⟨z1, z2, z3, z4⟩, z5, z6⟩ := hz
      have g0 : w0 = sgfn 20 0 vb := (show w0 = sgfn 20 (0 + 0) ((1 * vb + 0) + 0) from f0).trans (sgfn_c (by omega) (by omega))
      have g1 : w1 = sgfn 20 0 va := (show w1 = sgfn 20 (0 + 0) ((1 * va + 0) + 0) from f1).trans (sgfn_c (by omega) (by omega))
      have g2 : w2 = sgfn 17 1000000000000 w1 := (show w2 = sgfn 17 (0 + 1000000000000) ((1 * w1 + 0) + 0) from f2).trans (sgfn_c (by omega) (by omega))
      have c0 : 0 ≤ -va - 1 := by have q_ : (0 : Int) ≤ ((-1) * va + 0) + (-1) := z4 ([(5, (-1))], (-1)) (List.mem_of_getElem? (i := 0) rfl); omega
      have c1 : 0 ≤ -vb - 1 := by have q_ : (0 : Int) ≤ ((-1) * vb + 0) + (-1) := z4 ([(6, (-1))], (-1)) (List.mem_of_getElem? (i := 1) rfl); omega
      have c2 : 0 ≤ w0 - w2 - 1 := by have q_ : (0 : Int) ≤ (1 * w0 + ((-1) * w2 + 0)) + (-1) := z4 ([(7, 1), (9, (-1))], (-1)) (List.mem_of_getElem? (i := 2) rfl); omega
      have o0 : zget lo' 0 = some (.ref (17 * t + 20)) := locR (p2 (0, .inr (.inl (17 * t + 20))) (List.mem_of_getElem? (i := 0) rfl))
      have o1 : zI lo' 1 la := zI_of (p2 (1, .inl sf32) (List.mem_of_getElem? (i := 1) rfl)) (z3 (1, ([(0, 1)], 0)) (List.mem_of_getElem? (i := 0) rfl)) (show (1 * la + 0) + 0 = la from by omega)
      have o2 : zI lo' 2 (hh - 2) := zI_of (p2 (2, .inl sf32) (List.mem_of_getElem? (i := 2) rfl)) (z3 (2, ([(1, 1)], (-2))) (List.mem_of_getElem? (i := 1) rfl)) (show (1 * hh + 0) + (-2) = hh - 2 from by omega)
      have o3 : zI lo' 3 kk := zI_of (p2 (3, .inl sf32) (List.mem_of_getElem? (i := 3) rfl)) (z3 (3, ([(2, 1)], 0)) (List.mem_of_getElem? (i := 2) rfl)) (show (1 * kk + 0) + 0 = kk from by omega)
      have o6 : zJ lo' 6 (-9223372036854775808) := zJ_of (p2 (6, .inr (.inr sf64)) (List.mem_of_getElem? (i := 4) rfl)) (z3 (6, ([], (-9223372036854775808))) (List.mem_of_getElem? (i := 3) rfl)) (show 0 + (-9223372036854775808) = (-9223372036854775808) from by omega)
      have p1 : _ = [] := p1
      subst p1
      exact hE9 lo' h' w0 w1 w2 hi' hm g0 g1 g2 c0 c1 c2 o0 o1 o2 o3 o6
    cases he
  · intro e he r' h' hp hi' hm
    cases he
def evOv_L (t : Nat) : List (Nat × sT) := [(0, .inr (.inl (17 * t + 20))), (1, .inl (0, 2)), (2, .inl (2, 64)), (3, .inl (0, 63))]
def evOv_S (t : Nat) : List sT := []
def evOv_A (t : Nat) : sAs := ([], [], [], [])
def evOv_P (t : Nat) : List sP0 := [((17 * t + 23), (some 0, 0), (0, 64)), ((17 * t + 21), (some 2, 0), ((-34), (-34)))]
def evOv_G (t : Nat) : List sP0 := [((17 * t + 25), (some 1, (-2)), ((-1000000000000), 1000000000000)), ((17 * t + 25), (some 1, (-1)), ((-1000000000000), 1000000000000))]
def evOv_B (t : Nat) : List (Nat × Nat × Int) := [(3, 2, 1)]
def evOv_m (t : Nat) : sM := []
def evOv_e0 (t : Nat) : sXe := (166, [], [(0, .inr (.inl (17 * t + 20))), (1, .inl sf32), (2, .inl sf32), (3, .inl sf32), (6, .inr (.inr sf64))], sA0, [], ([], [], [(1, ([(0, 1)], 0)), (2, ([(1, 1)], (-2))), (3, ([(2, 1)], 0)), (6, ([], (-9223372036854775808)))], [([(5, 1)], 0), ([(6, 1)], 0), ([(6, 1)], 0), ([(6, (-1))], 0)]), [], [])
def evOv_e1 (t : Nat) : sXe := (166, [], [(0, .inr (.inl (17 * t + 20))), (1, .inl sf32), (2, .inl sf32), (3, .inl sf32), (6, .inr (.inr sf64))], sA0, [(0, 17, ([(5, 1)], 0), ([(6, 1)], 0))], ([], [], [(1, ([(0, 1)], 0)), (2, ([(1, 1)], (-2))), (3, ([(2, 1)], 0)), (6, ([(7, 1)], 0))], [([(5, 1)], 0), ([(6, 1)], 0), ([(6, 1)], (-1))]), [], [])
def evOv_e2 (t : Nat) : sXe := (166, [], [(0, .inr (.inl (17 * t + 20))), (1, .inl sf32), (2, .inl sf32), (3, .inl sf32), (6, .inr (.inr sf64))], sA0, [(0, 17, ([(5, 1)], 0), ([(6, 1)], 0))], ([], [], [(1, ([(0, 1)], 0)), (2, ([(1, 1)], (-2))), (3, ([(2, 1)], 0)), (6, ([(7, 1)], 0))], [([(5, 1)], 0), ([(6, (-1))], (-1))]), [], [])
def evOv_e3 (t : Nat) : sXe := (166, [], [(0, .inr (.inl (17 * t + 20))), (1, .inl sf32), (2, .inl sf32), (3, .inl sf32), (6, .inr (.inr sf64))], sA0, [], ([], [], [(1, ([(0, 1)], 0)), (2, ([(1, 1)], (-2))), (3, ([(2, 1)], 0)), (6, ([], (-9223372036854775808)))], [([(5, (-1))], (-1)), ([(6, 1)], 0), ([(6, 1)], 0), ([(6, (-1))], 0)]), [], [])
def evOv_e4 (t : Nat) : sXe := (166, [], [(0, .inr (.inl (17 * t + 20))), (1, .inl sf32), (2, .inl sf32), (3, .inl sf32), (6, .inr (.inr sf64))], sA0, [(0, 17, ([(5, 1)], 0), ([(6, 1)], 0))], ([], [], [(1, ([(0, 1)], 0)), (2, ([(1, 1)], (-2))), (3, ([(2, 1)], 0)), (6, ([(7, 1)], 0))], [([(5, (-1))], (-1)), ([(6, 1)], 0), ([(6, 1)], (-1))]), [], [])
def evOv_e5 (t : Nat) : sXe := (166, [], [(0, .inr (.inl (17 * t + 20))), (1, .inl sf32), (2, .inl sf32), (3, .inl sf32), (6, .inr (.inr sf64))], sA0, [(0, 17, ([(5, 1)], 0), ([(6, 1)], 0))], ([], [], [(1, ([(0, 1)], 0)), (2, ([(1, 1)], (-2))), (3, ([(2, 1)], 0)), (6, ([(7, 1)], 0))], [([(5, (-1))], (-1)), ([(6, (-1))], (-1))]), [], [])
theorem evOv_b : ((List.range 2).all fun t => syeB swC sT0 (evOv_m t) 400 1 89 (evOv_L t) (evOv_S t) (evOv_A t) (evOv_P t) (evOv_G t) (evOv_B t) 21 [evOv_e0 t, evOv_e1 t, evOv_e2 t, evOv_e3 t, evOv_e4 t, evOv_e5 t] []) = true := by decide +kernel
theorem evOv {l : Launch} {Γ : zG} {d : Nat} (hd : 1 ≤ d) {Kp : Option Value → zH → Prop} {lo : zL} {h : zH} {t : Nat} (h_t : t < 2) {la hh kk tt va vb : Int} (hi : sInv swC h) (b_la : 0 ≤ la ∧ la ≤ 2) (b_hh : 2 ≤ hh ∧ hh ≤ 64) (b_kk : 0 ≤ kk ∧ kk ≤ 63) (b_tt : 0 ≤ tt ∧ tt ≤ 64) (b_va : (-1000000000000) ≤ va ∧ va ≤ 1000000000000) (b_vb : (-1000000000000) ≤ vb ∧ vb ≤ 1000000000000) (l0 : zget lo 0 = some (.ref (17 * t + 20))) (l1 : zI lo 1 la) (l2 : zI lo 2 hh) (l3 : zI lo 3 kk) (p_tt : pI h (17 * t + 23) (la + 0).toNat = tt) (p_kn : pI h (17 * t + 21) (kk + 0).toNat = (-34)) (p_va : pL h (17 * t + 25) (hh + (-2)).toNat = va) (p_vb : pL h (17 * t + 25) (hh + (-1)).toNat = vb) (d0 : 1 ≤ tt - kk)
    (hE0 : ∀ (lo' : zL) (h' : zH), sInv swC h' → sMd (evOv_m t) h h' → 0 ≤ va → 0 ≤ vb → vb = 0 → zget lo' 0 = some (.ref (17 * t + 20)) → zI lo' 1 la → zI lo' 2 (hh - 2) → zI lo' 3 kk → zJ lo' 6 (-9223372036854775808) → zX l Γ false (d + 1) (zhd 89) (zMQ' Γ false (zhd 89) Kp) 0 0 166 lo' [] h')
    (hE1 : ∀ (lo' : zL) (h' : zH) (w0 : Int), sInv swC h' → sMd (evOv_m t) h h' → w0 = sgfn 17 va vb → 0 ≤ va → 0 ≤ vb → 0 ≤ vb - 1 → zget lo' 0 = some (.ref (17 * t + 20)) → zI lo' 1 la → zI lo' 2 (hh - 2) → zI lo' 3 kk → zJ lo' 6 w0 → zX l Γ false (d + 1) (zhd 89) (zMQ' Γ false (zhd 89) Kp) 0 0 166 lo' [] h')
    (hE2 : ∀ (lo' : zL) (h' : zH) (w0 : Int), sInv swC h' → sMd (evOv_m t) h h' → w0 = sgfn 17 va vb → 0 ≤ va → 0 ≤ -vb - 1 → zget lo' 0 = some (.ref (17 * t + 20)) → zI lo' 1 la → zI lo' 2 (hh - 2) → zI lo' 3 kk → zJ lo' 6 w0 → zX l Γ false (d + 1) (zhd 89) (zMQ' Γ false (zhd 89) Kp) 0 0 166 lo' [] h')
    (hE3 : ∀ (lo' : zL) (h' : zH), sInv swC h' → sMd (evOv_m t) h h' → 0 ≤ -va - 1 → 0 ≤ vb → vb = 0 → zget lo' 0 = some (.ref (17 * t + 20)) → zI lo' 1 la → zI lo' 2 (hh - 2) → zI lo' 3 kk → zJ lo' 6 (-9223372036854775808) → zX l Γ false (d + 1) (zhd 89) (zMQ' Γ false (zhd 89) Kp) 0 0 166 lo' [] h')
    (hE4 : ∀ (lo' : zL) (h' : zH) (w0 : Int), sInv swC h' → sMd (evOv_m t) h h' → w0 = sgfn 17 va vb → 0 ≤ -va - 1 → 0 ≤ vb → 0 ≤ vb - 1 → zget lo' 0 = some (.ref (17 * t + 20)) → zI lo' 1 la → zI lo' 2 (hh - 2) → zI lo' 3 kk → zJ lo' 6 w0 → zX l Γ false (d + 1) (zhd 89) (zMQ' Γ false (zhd 89) Kp) 0 0 166 lo' [] h')
    (hE5 : ∀ (lo' : zL) (h' : zH) (w0 : Int), sInv swC h' → sMd (evOv_m t) h h' → w0 = sgfn 17 va vb → 0 ≤ -va - 1 → 0 ≤ -vb - 1 → zget lo' 0 = some (.ref (17 * t + 20)) → zI lo' 1 la → zI lo' 2 (hh - 2) → zI lo' 3 kk → zJ lo' 6 w0 → zX l Γ false (d + 1) (zhd 89) (zMQ' Γ false (zhd 89) Kp) 0 0 166 lo' [] h') : zX l Γ false (d + 1) (zhd 89) (zMQ' Γ false (zhd 89) Kp) 0 0 21 lo [] h := by
  refine sye_ok (mi := 89) (pc := 21) (fun i => [la, hh, kk, tt, (-34), va, vb].getD i 0) (zall_r evOv_b h_t) (fun _ _ hc _ => nomatch hc) hd ⟨l0, zIm l1 (by show 0 ≤ la; omega) (by show la ≤ 2; omega), zIm l2 (by show 2 ≤ hh; omega) (by show hh ≤ 64; omega), zIm l3 (by show 0 ≤ kk; omega) (by show kk ≤ 63; omega), trivial⟩ rfl ⟨(fun _ hc => nomatch hc), (fun _ hc => nomatch hc), (fun _ hc => nomatch hc), Or.inl rfl⟩ ⟨⟨p_tt, by show 0 ≤ tt; omega, by show tt ≤ 64; omega⟩, ⟨p_kn, by show (-34) ≤ (-34); omega, by show (-34) ≤ (-34); omega⟩, trivial⟩ ⟨⟨p_va, by show (-1000000000000) ≤ va; omega, by show va ≤ 1000000000000; omega⟩, ⟨p_vb, by show (-1000000000000) ≤ vb; omega, by show vb ≤ 1000000000000; omega⟩, trivial⟩ (sfm d0 (fun _ hc => nomatch hc)) hi ?_ ?_
  · intro e he lo' st' h' hp hi' hm
    rcases List.mem_cons.mp he with rfl | he
    · obtain ⟨p1, p2, -, hz⟩ := hp
      obtain ⟨⟨z1, z2, z3, z4⟩, z5, z6⟩ := hz
      have c0 : 0 ≤ va := by have q_ : (0 : Int) ≤ (1 * va + 0) + 0 := z4 ([(5, 1)], 0) (List.mem_of_getElem? (i := 0) rfl); omega
      have c1 : 0 ≤ vb := by have q_ : (0 : Int) ≤ (1 * vb + 0) + 0 := z4 ([(6, 1)], 0) (List.mem_of_getElem? (i := 1) rfl); omega
      have c2 : vb = 0 := by have q_ : (0 : Int) ≤ (1 * vb + 0) + 0 := z4 ([(6, 1)], 0) (List.mem_of_getElem? (i := 2) rfl); have q2_ : (0 : Int) ≤ ((-1) * vb + 0) + 0 := z4 ([(6, (-1))], 0) (List.mem_of_getElem? (i := 3) rfl); omega
      have o0 : zget lo' 0 = some (.ref (17 * t + 20)) := locR (p2 (0, .inr (.inl (17 * t + 20))) (List.mem_of_getElem? (i := 0) rfl))
      have o1 : zI lo' 1 la := zI_of (p2 (1, .inl sf32) (List.mem_of_getElem? (i := 1) rfl)) (z3 (1, ([(0, 1)], 0)) (List.mem_of_getElem? (i := 0) rfl)) (show (1 * la + 0) + 0 = la from by omega)
      have o2 : zI lo' 2 (hh - 2) := zI_of (p2 (2, .inl sf32) (List.mem_of_getElem? (i := 2) rfl)) (z3 (2, ([(1, 1)], (-2))) (List.mem_of_getElem? (i := 1) rfl)) (show (1 * hh + 0) + (-2) = hh - 2 from by omega)
      have o3 : zI lo' 3 kk := zI_of (p2 (3, .inl sf32) (List.mem_of_getElem? (i := 3) rfl)) (z3 (3, ([(2, 1)], 0)) (List.mem_of_getElem? (i := 2) rfl)) (show (1 * kk + 0) + 0 = kk from by omega)
      have o6 : zJ lo' 6 (-9223372036854775808) := zJ_of (p2 (6, .inr (.inr sf64)) (List.mem_of_getElem? (i := 4) rfl)) (z3 (6, ([], (-9223372036854775808))) (List.mem_of_getElem? (i := 3) rfl)) (show 0 + (-9223372036854775808) = (-9223372036854775808) from by omega)
      have p1 : _ = [] := p1
      subst p1
      exact hE0 lo' h' hi' hm c0 c1 c2 o0 o1 o2 o3 o6
    rcases List.mem_cons.mp he with rfl | he
    · obtain ⟨p1, p2, -, hz⟩ := hp
      obtain ⟨w0, f0, hz⟩ := hz
      obtain ⟨⟨z1, z2, z3, z4⟩, z5, z6⟩ := hz
      have g0 : w0 = sgfn 17 va vb := (show w0 = sgfn 17 ((1 * va + 0) + 0) ((1 * vb + 0) + 0) from f0).trans (sgfn_c (by omega) (by omega))
      have c0 : 0 ≤ va := by have q_ : (0 : Int) ≤ (1 * va + 0) + 0 := z4 ([(5, 1)], 0) (List.mem_of_getElem? (i := 0) rfl); omega
      have c1 : 0 ≤ vb := by have q_ : (0 : Int) ≤ (1 * vb + 0) + 0 := z4 ([(6, 1)], 0) (List.mem_of_getElem? (i := 1) rfl); omega
      have c2 : 0 ≤ vb - 1 := by have q_ : (0 : Int) ≤ (1 * vb + 0) + (-1) := z4 ([(6, 1)], (-1)) (List.mem_of_getElem? (i := 2) rfl); omega
      have o0 : zget lo' 0 = some (.ref (17 * t + 20)) := locR (p2 (0, .inr (.inl (17 * t + 20))) (List.mem_of_getElem? (i := 0) rfl))
      have o1 : zI lo' 1 la := zI_of (p2 (1, .inl sf32) (List.mem_of_getElem? (i := 1) rfl)) (z3 (1, ([(0, 1)], 0)) (List.mem_of_getElem? (i := 0) rfl)) (show (1 * la + 0) + 0 = la from by omega)
      have o2 : zI lo' 2 (hh - 2) := zI_of (p2 (2, .inl sf32) (List.mem_of_getElem? (i := 2) rfl)) (z3 (2, ([(1, 1)], (-2))) (List.mem_of_getElem? (i := 1) rfl)) (show (1 * hh + 0) + (-2) = hh - 2 from by omega)
      have o3 : zI lo' 3 kk := zI_of (p2 (3, .inl sf32) (List.mem_of_getElem? (i := 3) rfl)) (z3 (3, ([(2, 1)], 0)) (List.mem_of_getElem? (i := 2) rfl)) (show (1 * kk + 0) + 0 = kk from by omega)
      have o6 : zJ lo' 6 w0 := zJ_of (p2 (6, .inr (.inr sf64)) (List.mem_of_getElem? (i := 4) rfl)) (z3 (6, ([(7, 1)], 0)) (List.mem_of_getElem? (i := 3) rfl)) (show (1 * w0 + 0) + 0 = w0 from by omega)
      have p1 : _ = [] := p1
      subst p1
      exact hE1 lo' h' w0 hi' hm g0 c0 c1 c2 o0 o1 o2 o3 o6
    rcases List.mem_cons.mp he with rfl | he
    · obtain ⟨p1, p2, -, hz⟩ := hp
      obtain ⟨w0, f0, hz⟩ := hz
      obtain ⟨⟨z1, z2, z3, z4⟩, z5, z6⟩ := hz
      have g0 : w0 = sgfn 17 va vb := (show w0 = sgfn 17 ((1 * va + 0) + 0) ((1 * vb + 0) + 0) from f0).trans (sgfn_c (by omega) (by omega))
      have c0 : 0 ≤ va := by have q_ : (0 : Int) ≤ (1 * va + 0) + 0 := z4 ([(5, 1)], 0) (List.mem_of_getElem? (i := 0) rfl); omega
      have c1 : 0 ≤ -vb - 1 := by have q_ : (0 : Int) ≤ ((-1) * vb + 0) + (-1) := z4 ([(6, (-1))], (-1)) (List.mem_of_getElem? (i := 1) rfl); omega
      have o0 : zget lo' 0 = some (.ref (17 * t + 20)) := locR (p2 (0, .inr (.inl (17 * t + 20))) (List.mem_of_getElem? (i := 0) rfl))
      have o1 : zI lo' 1 la := zI_of (p2 (1, .inl sf32) (List.mem_of_getElem? (i := 1) rfl)) (z3 (1, ([(0, 1)], 0)) (List.mem_of_getElem? (i := 0) rfl)) (show (1 * la + 0) + 0 = la from by omega)
      have o2 : zI lo' 2 (hh - 2) := zI_of (p2 (2, .inl sf32) (List.mem_of_getElem? (i := 2) rfl)) (z3 (2, ([(1, 1)], (-2))) (List.mem_of_getElem? (i := 1) rfl)) (show (1 * hh + 0) + (-2) = hh - 2 from by omega)
      have o3 : zI lo' 3 kk := zI_of (p2 (3, .inl sf32) (List.mem_of_getElem? (i := 3) rfl)) (z3 (3, ([(2, 1)], 0)) (List.mem_of_getElem? (i := 2) rfl)) (show (1 * kk + 0) + 0 = kk from by omega)
      have o6 : zJ lo' 6 w0 := zJ_of (p2 (6, .inr (.inr sf64)) (List.mem_of_getElem? (i := 4) rfl)) (z3 (6, ([(7, 1)], 0)) (List.mem_of_getElem? (i := 3) rfl)) (show (1 * w0 + 0) + 0 = w0 from by omega)
      have p1 : _ = [] := p1
      subst p1
      exact hE2 lo' h' w0 hi' hm g0 c0 c1 o0 o1 o2 o3 o6
    rcases List.mem_cons.mp he with rfl | he
    · obtain ⟨p1, p2, -, hz⟩ := hp
      obtain ⟨⟨z1, z2, z3, z4⟩, z5, z6⟩ := hz
      have c0 : 0 ≤ -va - 1 := by have q_ : (0 : Int) ≤ ((-1) * va + 0) + (-1) := z4 ([(5, (-1))], (-1)) (List.mem_of_getElem? (i := 0) rfl); omega
      have c1 : 0 ≤ vb := by have q_ : (0 : Int) ≤ (1 * vb + 0) + 0 := z4 ([(6, 1)], 0) (List.mem_of_getElem? (i := 1) rfl); omega
      have c2 : vb = 0 := by have q_ : (0 : Int) ≤ (1 * vb + 0) + 0 := z4 ([(6, 1)], 0) (List.mem_of_getElem? (i := 2) rfl); have q2_ : (0 : Int) ≤ ((-1) * vb + 0) + 0 := z4 ([(6, (-1))], 0) (List.mem_of_getElem? (i := 3) rfl); omega
      have o0 : zget lo' 0 = some (.ref (17 * t + 20)) := locR (p2 (0, .inr (.inl (17 * t + 20))) (List.mem_of_getElem? (i := 0) rfl))
      have o1 : zI lo' 1 la := zI_of (p2 (1, .inl sf32) (List.mem_of_getElem? (i := 1) rfl)) (z3 (1, ([(0, 1)], 0)) (List.mem_of_getElem? (i := 0) rfl)) (show (1 * la + 0) + 0 = la from by omega)
      have o2 : zI lo' 2 (hh - 2) := zI_of (p2 (2, .inl sf32) (List.mem_of_getElem? (i := 2) rfl)) (z3 (2, ([(1, 1)], (-2))) (List.mem_of_getElem? (i := 1) rfl)) (show (1 * hh + 0) + (-2) = hh - 2 from by omega)
      have o3 : zI lo' 3 kk := zI_of (p2 (3, .inl sf32) (List.mem_of_getElem? (i := 3) rfl)) (z3 (3, ([(2, 1)], 0)) (List.mem_of_getElem? (i := 2) rfl)) (show (1 * kk + 0) + 0 = kk from by omega)
      have o6 : zJ lo' 6 (-9223372036854775808) := zJ_of (p2 (6, .inr (.inr sf64)) (List.mem_of_getElem? (i := 4) rfl)) (z3 (6, ([], (-9223372036854775808))) (List.mem_of_getElem? (i := 3) rfl)) (show 0 + (-9223372036854775808) = (-9223372036854775808) from by omega)
      have p1 : _ = [] := p1
      subst p1
      exact hE3 lo' h' hi' hm c0 c1 c2 o0 o1 o2 o3 o6
    rcases List.mem_cons.mp he with rfl | he
    · obtain ⟨p1, p2, -, hz⟩ := hp
      obtain ⟨w0, f0, hz⟩ := hz
      obtain ⟨⟨z1, z2, z3, z4⟩, z5, z6⟩ := hz
      have g0 : w0 = sgfn 17 va vb := (show w0 = sgfn 17 ((1 * va + 0) + 0) ((1 * vb + 0) + 0) from f0).trans (sgfn_c (by omega) (by omega))
      have c0 : 0 ≤ -va - 1 := by have q_ : (0 : Int) ≤ ((-1) * va + 0) + (-1) := z4 ([(5, (-1))], (-1)) (List.mem_of_getElem? (i := 0) rfl); omega
      have c1 : 0 ≤ vb := by have q_ : (0 : Int) ≤ (1 * vb + 0) + 0 := z4 ([(6, 1)], 0) (List.mem_of_getElem? (i := 1) rfl); omega
      have c2 : 0 ≤ vb - 1 := by have q_ : (0 : Int) ≤ (1 * vb + 0) + (-1) := z4 ([(6, 1)], (-1)) (List.mem_of_getElem? (i := 2) rfl); omega
      have o0 : zget lo' 0 = some (.ref (17 * t + 20)) := locR (p2 (0, .inr (.inl (17 * t + 20))) (List.mem_of_getElem? (i := 0) rfl))
      have o1 : zI lo' 1 la := zI_of (p2 (1, .inl sf32) (List.mem_of_getElem? (i := 1) rfl)) (z3 (1, ([(0, 1)], 0)) (List.mem_of_getElem? (i := 0) rfl)) (show (1 * la + 0) + 0 = la from by omega)
      have o2 : zI lo' 2 (hh - 2) := zI_of (p2 (2, .inl sf32) (List.mem_of_getElem? (i := 2) rfl)) (z3 (2, ([(1, 1)], (-2))) (List.mem_of_getElem? (i := 1) rfl)) (show (1 * hh + 0) + (-2) = hh - 2 from by omega)
      have o3 : zI lo' 3 kk := zI_of (p2 (3, .inl sf32) (List.mem_of_getElem? (i := 3) rfl)) (z3 (3, ([(2, 1)], 0)) (List.mem_of_getElem? (i := 2) rfl)) (show (1 * kk + 0) + 0 = kk from by omega)
      have o6 : zJ lo' 6 w0 := zJ_of (p2 (6, .inr (.inr sf64)) (List.mem_of_getElem? (i := 4) rfl)) (z3 (6, ([(7, 1)], 0)) (List.mem_of_getElem? (i := 3) rfl)) (show (1 * w0 + 0) + 0 = w0 from by omega)
      have p1 : _ = [] := p1
      subst p1
      exact hE4 lo' h' w0 hi' hm g0 c0 c1 c2 o0 o1 o2 o3 o6
    rcases List.mem_cons.mp he with rfl | he
    · obtain ⟨p1, p2, -, hz⟩ := hp
      obtain ⟨w0, f0, hz⟩ := hz
      obtain ⟨⟨z1, z2, z3, z4⟩, z5, z6⟩ := hz
      have g0 : w0 = sgfn 17 va vb := (show w0 = sgfn 17 ((1 * va + 0) + 0) ((1 * vb + 0) + 0) from f0).trans (sgfn_c (by omega) (by omega))
      have c0 : 0 ≤ -va - 1 := by have q_ : (0 : Int) ≤ ((-1) * va + 0) + (-1) := z4 ([(5, (-1))], (-1)) (List.mem_of_getElem? (i := 0) rfl); omega
      have c1 : 0 ≤ -vb - 1 := by have q_ : (0 : Int) ≤ ((-1) * vb + 0) + (-1) := z4 ([(6, (-1))], (-1)) (List.mem_of_getElem? (i := 1) rfl); omega
      have o0 : zget lo' 0 = some (.ref (17 * t + 20)) := locR (p2 (0, .inr (.inl (17 * t + 20))) (List.mem_of_getElem? (i := 0) rfl))
      have o1 : zI lo' 1 la := zI_of (p2 (1, .inl sf32) (List.mem_of_getElem? (i := 1) rfl)) (z3 (1, ([(0, 1)], 0)) (List.mem_of_getElem? (i := 0) rfl)) (show (1 * la + 0) + 0 = la from by omega)
      have o2 : zI lo' 2 (hh - 2) := zI_of (p2 (2, .inl sf32) (List.mem_of_getElem? (i := 2) rfl)) (z3 (2, ([(1, 1)], (-2))) (List.mem_of_getElem? (i := 1) rfl)) (show (1 * hh + 0) + (-2) = hh - 2 from by omega)
      have o3 : zI lo' 3 kk := zI_of (p2 (3, .inl sf32) (List.mem_of_getElem? (i := 3) rfl)) (z3 (3, ([(2, 1)], 0)) (List.mem_of_getElem? (i := 2) rfl)) (show (1 * kk + 0) + 0 = kk from by omega)
      have o6 : zJ lo' 6 w0 := zJ_of (p2 (6, .inr (.inr sf64)) (List.mem_of_getElem? (i := 4) rfl)) (z3 (6, ([(7, 1)], 0)) (List.mem_of_getElem? (i := 3) rfl)) (show (1 * w0 + 0) + 0 = w0 from by omega)
      have p1 : _ = [] := p1
      subst p1
      exact hE5 lo' h' w0 hi' hm g0 c0 c1 o0 o1 o2 o3 o6
    cases he
  · intro e he r' h' hp hi' hm
    cases he
def evLs_L (t : Nat) : List (Nat × sT) := [(0, .inr (.inl (17 * t + 20))), (1, .inl (0, 2)), (2, .inl (2, 64)), (3, .inl (0, 63))]
def evLs_S (t : Nat) : List sT := []
def evLs_A (t : Nat) : sAs := ([], [], [], [])
def evLs_P (t : Nat) : List sP0 := [((17 * t + 23), (some 0, 0), (0, 64)), ((17 * t + 21), (some 2, 0), ((-35), (-35)))]
def evLs_G (t : Nat) : List sP0 := [((17 * t + 25), (some 1, (-2)), ((-1000000000000), 1000000000000)), ((17 * t + 25), (some 1, (-1)), ((-1000000000000), 1000000000000))]
def evLs_B (t : Nat) : List (Nat × Nat × Int) := [(3, 2, 1)]
def evLs_m (t : Nat) : sM := []
def evLs_e0 (t : Nat) : sXe := (166, [], [(0, .inr (.inl (17 * t + 20))), (1, .inl sf32), (2, .inl sf32), (3, .inl sf32), (6, .inr (.inr sf64))], sA0, [], ([], [], [(1, ([(0, 1)], 0)), (2, ([(1, 1)], (-2))), (3, ([(2, 1)], 0)), (6, ([], 0))], [([(5, 1)], 0), ([(6, 1)], 0), ([(5, 1), (6, (-1))], 0)]), [], [])
def evLs_e1 (t : Nat) : sXe := (166, [], [(0, .inr (.inl (17 * t + 20))), (1, .inl sf32), (2, .inl sf32), (3, .inl sf32), (6, .inr (.inr sf64))], sA0, [], ([], [], [(1, ([(0, 1)], 0)), (2, ([(1, 1)], (-2))), (3, ([(2, 1)], 0)), (6, ([], 1))], [([(5, 1)], 0), ([(6, 1)], 0), ([(5, (-1)), (6, 1)], (-1))]), [], [])
def evLs_e2 (t : Nat) : sXe := (166, [], [(0, .inr (.inl (17 * t + 20))), (1, .inl sf32), (2, .inl sf32), (3, .inl sf32), (6, .inr (.inr sf64))], sA0, [], ([], [], [(1, ([(0, 1)], 0)), (2, ([(1, 1)], (-2))), (3, ([(2, 1)], 0)), (6, ([], 0))], [([(5, 1)], 0), ([(6, (-1))], (-1))]), [], [])
def evLs_e3 (t : Nat) : sXe := (166, [], [(0, .inr (.inl (17 * t + 20))), (1, .inl sf32), (2, .inl sf32), (3, .inl sf32), (6, .inr (.inr sf64))], sA0, [], ([], [], [(1, ([(0, 1)], 0)), (2, ([(1, 1)], (-2))), (3, ([(2, 1)], 0)), (6, ([], 1))], [([(5, (-1))], (-1)), ([(6, 1)], 0)]), [], [])
def evLs_e4 (t : Nat) : sXe := (166, [], [(0, .inr (.inl (17 * t + 20))), (1, .inl sf32), (2, .inl sf32), (3, .inl sf32), (6, .inr (.inr sf64))], sA0, [], ([], [], [(1, ([(0, 1)], 0)), (2, ([(1, 1)], (-2))), (3, ([(2, 1)], 0)), (6, ([], 0))], [([(5, (-1))], (-1)), ([(6, (-1))], (-1)), ([(5, 1), (6, (-1))], 0)]), [], [])
def evLs_e5 (t : Nat) : sXe := (166, [], [(0, .inr (.inl (17 * t + 20))), (1, .inl sf32), (2, .inl sf32), (3, .inl sf32), (6, .inr (.inr sf64))], sA0, [], ([], [], [(1, ([(0, 1)], 0)), (2, ([(1, 1)], (-2))), (3, ([(2, 1)], 0)), (6, ([], 1))], [([(5, (-1))], (-1)), ([(6, (-1))], (-1)), ([(5, (-1)), (6, 1)], (-1))]), [], [])
theorem evLs_b : ((List.range 2).all fun t => syeB swC sT0 (evLs_m t) 400 1 89 (evLs_L t) (evLs_S t) (evLs_A t) (evLs_P t) (evLs_G t) (evLs_B t) 21 [evLs_e0 t, evLs_e1 t, evLs_e2 t, evLs_e3 t, evLs_e4 t, evLs_e5 t] []) = true := by decide +kernel
theorem evLs {l : Launch} {Γ : zG} {d : Nat} (hd : 1 ≤ d) {Kp : Option Value → zH → Prop} {lo : zL} {h : zH} {t : Nat} (h_t : t < 2) {la hh kk tt va vb : Int} (hi : sInv swC h) (b_la : 0 ≤ la ∧ la ≤ 2) (b_hh : 2 ≤ hh ∧ hh ≤ 64) (b_kk : 0 ≤ kk ∧ kk ≤ 63) (b_tt : 0 ≤ tt ∧ tt ≤ 64) (b_va : (-1000000000000) ≤ va ∧ va ≤ 1000000000000) (b_vb : (-1000000000000) ≤ vb ∧ vb ≤ 1000000000000) (l0 : zget lo 0 = some (.ref (17 * t + 20))) (l1 : zI lo 1 la) (l2 : zI lo 2 hh) (l3 : zI lo 3 kk) (p_tt : pI h (17 * t + 23) (la + 0).toNat = tt) (p_kn : pI h (17 * t + 21) (kk + 0).toNat = (-35)) (p_va : pL h (17 * t + 25) (hh + (-2)).toNat = va) (p_vb : pL h (17 * t + 25) (hh + (-1)).toNat = vb) (d0 : 1 ≤ tt - kk)
    (hE0 : ∀ (lo' : zL) (h' : zH), sInv swC h' → sMd (evLs_m t) h h' → 0 ≤ va → 0 ≤ vb → 0 ≤ va - vb → zget lo' 0 = some (.ref (17 * t + 20)) → zI lo' 1 la → zI lo' 2 (hh - 2) → zI lo' 3 kk → zJ lo' 6 0 → zX l Γ false (d + 1) (zhd 89) (zMQ' Γ false (zhd 89) Kp) 0 0 166 lo' [] h')
    (hE1 : ∀ (lo' : zL) (h' : zH), sInv swC h' → sMd (evLs_m t) h h' → 0 ≤ va → 0 ≤ vb → 0 ≤ -va + vb - 1 → zget lo' 0 = some (.ref (17 * t + 20)) → zI lo' 1 la → zI lo' 2 (hh - 2) → zI lo' 3 kk → zJ lo' 6 1 → zX l Γ false (d + 1) (zhd 89) (zMQ' Γ false (zhd 89) Kp) 0 0 166 lo' [] h')
    (hE2 : ∀ (lo' : zL) (h' : zH), sInv swC h' → sMd (evLs_m t) h h' → 0 ≤ va → 0 ≤ -vb - 1 → zget lo' 0 = some (.ref (17 * t + 20)) → zI lo' 1 la → zI lo' 2 (hh - 2) → zI lo' 3 kk → zJ lo' 6 0 → zX l Γ false (d + 1) (zhd 89) (zMQ' Γ false (zhd 89) Kp) 0 0 166 lo' [] h')
    (hE3 : ∀ (lo' : zL) (h' : zH), sInv swC h' → sMd (evLs_m t) h h' → 0 ≤ -va - 1 → 0 ≤ vb → zget lo' 0 = some (.ref (17 * t + 20)) → zI lo' 1 la → zI lo' 2 (hh - 2) → zI lo' 3 kk → zJ lo' 6 1 → zX l Γ false (d + 1) (zhd 89) (zMQ' Γ false (zhd 89) Kp) 0 0 166 lo' [] h')
    (hE4 : ∀ (lo' : zL) (h' : zH), sInv swC h' → sMd (evLs_m t) h h' → 0 ≤ -va - 1 → 0 ≤ -vb - 1 → 0 ≤ va - vb → zget lo' 0 = some (.ref (17 * t + 20)) → zI lo' 1 la → zI lo' 2 (hh - 2) → zI lo' 3 kk → zJ lo' 6 0 → zX l Γ false (d + 1) (zhd 89) (zMQ' Γ false (zhd 89) Kp) 0 0 166 lo' [] h')
    (hE5 : ∀ (lo' : zL) (h' : zH), sInv swC h' → sMd (evLs_m t) h h' → 0 ≤ -va - 1 → 0 ≤ -vb - 1 → 0 ≤ -va + vb - 1 → zget lo' 0 = some (.ref (17 * t + 20)) → zI lo' 1 la → zI lo' 2 (hh - 2) → zI lo' 3 kk → zJ lo' 6 1 → zX l Γ false (d + 1) (zhd 89) (zMQ' Γ false (zhd 89) Kp) 0 0 166 lo' [] h') : zX l Γ false (d + 1) (zhd 89) (zMQ' Γ false (zhd 89) Kp) 0 0 21 lo [] h := by
  refine sye_ok (mi := 89) (pc := 21) (fun i => [la, hh, kk, tt, (-35), va, vb].getD i 0) (zall_r evLs_b h_t) (fun _ _ hc _ => nomatch hc) hd ⟨l0, zIm l1 (by show 0 ≤ la; omega) (by show la ≤ 2; omega), zIm l2 (by show 2 ≤ hh; omega) (by show hh ≤ 64; omega), zIm l3 (by show 0 ≤ kk; omega) (by show kk ≤ 63; omega), trivial⟩ rfl ⟨(fun _ hc => nomatch hc), (fun _ hc => nomatch hc), (fun _ hc => nomatch hc), Or.inl rfl⟩ ⟨⟨p_tt, by show 0 ≤ tt; omega, by show tt ≤ 64; omega⟩, ⟨p_kn, by show (-35) ≤ (-35); omega, by show (-35) ≤ (-35); omega⟩, trivial⟩ ⟨⟨p_va, by show (-1000000000000) ≤ va; omega, by show va ≤ 1000000000000; omega⟩, ⟨p_vb, by show (-1000000000000) ≤ vb; omega, by show vb ≤ 1000000000000; omega⟩, trivial⟩ (sfm d0 (fun _ hc => nomatch hc)) hi ?_ ?_
  · intro e he lo' st' h' hp hi' hm
    rcases List.mem_cons.mp he with rfl | he
    · obtain ⟨p1, p2, -, hz⟩ := hp
      obtain ⟨⟨z1, z2, z3, z4⟩, z5, z6⟩ := hz
      have c0 : 0 ≤ va := by have q_ : (0 : Int) ≤ (1 * va + 0) + 0 := z4 ([(5, 1)], 0) (List.mem_of_getElem? (i := 0) rfl); omega
      have c1 : 0 ≤ vb := by have q_ : (0 : Int) ≤ (1 * vb + 0) + 0 := z4 ([(6, 1)], 0) (List.mem_of_getElem? (i := 1) rfl); omega
      have c2 : 0 ≤ va - vb := by have q_ : (0 : Int) ≤ (1 * va + ((-1) * vb + 0)) + 0 := z4 ([(5, 1), (6, (-1))], 0) (List.mem_of_getElem? (i := 2) rfl); omega
      have o0 : zget lo' 0 = some (.ref (17 * t + 20)) := locR (p2 (0, .inr (.inl (17 * t + 20))) (List.mem_of_getElem? (i := 0) rfl))
      have o1 : zI lo' 1 la := zI_of (p2 (1, .inl sf32) (List.mem_of_getElem? (i := 1) rfl)) (z3 (1, ([(0, 1)], 0)) (List.mem_of_getElem? (i := 0) rfl)) (show (1 * la + 0) + 0 = la from by omega)
      have o2 : zI lo' 2 (hh - 2) := zI_of (p2 (2, .inl sf32) (List.mem_of_getElem? (i := 2) rfl)) (z3 (2, ([(1, 1)], (-2))) (List.mem_of_getElem? (i := 1) rfl)) (show (1 * hh + 0) + (-2) = hh - 2 from by omega)
      have o3 : zI lo' 3 kk := zI_of (p2 (3, .inl sf32) (List.mem_of_getElem? (i := 3) rfl)) (z3 (3, ([(2, 1)], 0)) (List.mem_of_getElem? (i := 2) rfl)) (show (1 * kk + 0) + 0 = kk from by omega)
      have o6 : zJ lo' 6 0 := zJ_of (p2 (6, .inr (.inr sf64)) (List.mem_of_getElem? (i := 4) rfl)) (z3 (6, ([], 0)) (List.mem_of_getElem? (i := 3) rfl)) (show 0 + 0 = 0 from by omega)
      have p1 : _ = [] := p1
      subst p1
      exact hE0 lo' h' hi' hm c0 c1 c2 o0 o1 o2 o3 o6
    rcases List.mem_cons.mp he with rfl | he
    · obtain ⟨p1, p2, -, hz⟩ := hp
      obtain ⟨⟨z1, z2, z3, z4⟩, z5, z6⟩ := hz
      have c0 : 0 ≤ va := by have q_ : (0 : Int) ≤ (1 * va + 0) + 0 := z4 ([(5, 1)], 0) (List.mem_of_getElem? (i := 0) rfl); omega
      have c1 : 0 ≤ vb := by have q_ : (0 : Int) ≤ (1 * vb + 0) + 0 := z4 ([(6, 1)], 0) (List.mem_of_getElem? (i := 1) rfl); omega
      have c2 : 0 ≤ -va + vb - 1 := by have q_ : (0 : Int) ≤ ((-1) * va + (1 * vb + 0)) + (-1) := z4 ([(5, (-1)), (6, 1)], (-1)) (List.mem_of_getElem? (i := 2) rfl); omega
      have o0 : zget lo' 0 = some (.ref (17 * t + 20)) := locR (p2 (0, .inr (.inl (17 * t + 20))) (List.mem_of_getElem? (i := 0) rfl))
      have o1 : zI lo' 1 la := zI_of (p2 (1, .inl sf32) (List.mem_of_getElem? (i := 1) rfl)) (z3 (1, ([(0, 1)], 0)) (List.mem_of_getElem? (i := 0) rfl)) (show (1 * la + 0) + 0 = la from by omega)
      have o2 : zI lo' 2 (hh - 2) := zI_of (p2 (2, .inl sf32) (List.mem_of_getElem? (i := 2) rfl)) (z3 (2, ([(1, 1)], (-2))) (List.mem_of_getElem? (i := 1) rfl)) (show (1 * hh + 0) + (-2) = hh - 2 from by omega)
      have o3 : zI lo' 3 kk := zI_of (p2 (3, .inl sf32) (List.mem_of_getElem? (i := 3) rfl)) (z3 (3, ([(2, 1)], 0)) (List.mem_of_getElem? (i := 2) rfl)) (show (1 * kk + 0) + 0 = kk from by omega)
      have o6 : zJ lo' 6 1 := zJ_of (p2 (6, .inr (.inr sf64)) (List.mem_of_getElem? (i := 4) rfl)) (z3 (6, ([], 1)) (List.mem_of_getElem? (i := 3) rfl)) (show 0 + 1 = 1 from by omega)
      have p1 : _ = [] := p1
      subst p1
      exact hE1 lo' h' hi' hm c0 c1 c2 o0 o1 o2 o3 o6
    rcases List.mem_cons.mp he with rfl | he
    · obtain ⟨p1, p2, -, hz⟩ := hp
      obtain ⟨⟨z1, z2, z3, z4⟩, z5, z6⟩ := hz
      have c0 : 0 ≤ va := by have q_ : (0 : Int) ≤ (1 * va + 0) + 0 := z4 ([(5, 1)], 0) (List.mem_of_getElem? (i := 0) rfl); omega
      have c1 : 0 ≤ -vb - 1 := by have q_ : (0 : Int) ≤ ((-1) * vb + 0) + (-1) := z4 ([(6, (-1))], (-1)) (List.mem_of_getElem? (i := 1) rfl); omega
      have o0 : zget lo' 0 = some (.ref (17 * t + 20)) := locR (p2 (0, .inr (.inl (17 * t + 20))) (List.mem_of_getElem? (i := 0) rfl))
      have o1 : zI lo' 1 la := zI_of (p2 (1, .inl sf32) (List.mem_of_getElem? (i := 1) rfl)) (z3 (1, ([(0, 1)], 0)) (List.mem_of_getElem? (i := 0) rfl)) (show (1 * la + 0) + 0 = la from by omega)
      have o2 : zI lo' 2 (hh - 2) := zI_of (p2 (2, .inl sf32) (List.mem_of_getElem? (i := 2) rfl)) (z3 (2, ([(1, 1)], (-2))) (List.mem_of_getElem? (i := 1) rfl)) (show (1 * hh + 0) + (-2) = hh - 2 from by omega)
      have o3 : zI lo' 3 kk := zI_of (p2 (3, .inl sf32) (List.mem_of_getElem? (i := 3) rfl)) (z3 (3, ([(2, 1)], 0)) (List.mem_of_getElem? (i := 2) rfl)) (show (1 * kk + 0) + 0 = kk from by omega)
      have o6 : zJ lo' 6 0 := zJ_of (p2 (6, .inr (.inr sf64)) (List.mem_of_getElem? (i := 4) rfl)) (z3 (6, ([], 0)) (List.mem_of_getElem? (i := 3) rfl)) (show 0 + 0 = 0 from by omega)
      have p1 : _ = [] := p1
      subst p1
      exact hE2 lo' h' hi' hm c0 c1 o0 o1 o2 o3 o6
    rcases List.mem_cons.mp he with rfl | he
    · obtain ⟨p1, p2, -, hz⟩ := hp
      obtain ⟨⟨z1, z2, z3, z4⟩, z5, z6⟩ := hz
      have c0 : 0 ≤ -va - 1 := by have q_ : (0 : Int) ≤ ((-1) * va + 0) + (-1) := z4 ([(5, (-1))], (-1)) (List.mem_of_getElem? (i := 0) rfl); omega
      have c1 : 0 ≤ vb := by have q_ : (0 : Int) ≤ (1 * vb + 0) + 0 := z4 ([(6, 1)], 0) (List.mem_of_getElem? (i := 1) rfl); omega
      have o0 : zget lo' 0 = some (.ref (17 * t + 20)) := locR (p2 (0, .inr (.inl (17 * t + 20))) (List.mem_of_getElem? (i := 0) rfl))
      have o1 : zI lo' 1 la := zI_of (p2 (1, .inl sf32) (List.mem_of_getElem? (i := 1) rfl)) (z3 (1, ([(0, 1)], 0)) (List.mem_of_getElem? (i := 0) rfl)) (show (1 * la + 0) + 0 = la from by omega)
      have o2 : zI lo' 2 (hh - 2) := zI_of (p2 (2, .inl sf32) (List.mem_of_getElem? (i := 2) rfl)) (z3 (2, ([(1, 1)], (-2))) (List.mem_of_getElem? (i := 1) rfl)) (show (1 * hh + 0) + (-2) = hh - 2 from by omega)
      have o3 : zI lo' 3 kk := zI_of (p2 (3, .inl sf32) (List.mem_of_getElem? (i := 3) rfl)) (z3 (3, ([(2, 1)], 0)) (List.mem_of_getElem? (i := 2) rfl)) (show (1 * kk + 0) + 0 = kk from by omega)
      have o6 : zJ lo' 6 1 := zJ_of (p2 (6, .inr (.inr sf64)) (List.mem_of_getElem? (i := 4) rfl)) (z3 (6, ([], 1)) (List.mem_of_getElem? (i := 3) rfl)) (show 0 + 1 = 1 from by omega)
      have p1 : _ = [] := p1
      subst p1
      exact hE3 lo' h' hi' hm c0 c1 o0 o1 o2 o3 o6
    rcases List.mem_cons.mp he with rfl | he
    · obtain ⟨p1, p2, -, hz⟩ := hp
      obtain ⟨⟨z1, z2, z3, z4⟩, z5, z6⟩ := hz
      have c0 : 0 ≤ -va - 1 := by have q_ : (0 : Int) ≤ ((-1) * va + 0) + (-1) := z4 ([(5, (-1))], (-1)) (List.mem_of_getElem? (i := 0) rfl); omega
      have c1 : 0 ≤ -vb - 1 := by have q_ : (0 : Int) ≤ ((-1) * vb + 0) + (-1) := z4 ([(6, (-1))], (-1)) (List.mem_of_getElem? (i := 1) rfl); omega
      have c2 : 0 ≤ va - vb := by have q_ : (0 : Int) ≤ (1 * va + ((-1) * vb + 0)) + 0 := z4 ([(5, 1), (6, (-1))], 0) (List.mem_of_getElem? (i := 2) rfl); omega
      have o0 : zget lo' 0 = some (.ref (17 * t + 20)) := locR (p2 (0, .inr (.inl (17 * t + 20))) (List.mem_of_getElem? (i := 0) rfl))
      have o1 : zI lo' 1 la := zI_of (p2 (1, .inl sf32) (List.mem_of_getElem? (i := 1) rfl)) (z3 (1, ([(0, 1)], 0)) (List.mem_of_getElem? (i := 0) rfl)) (show (1 * la + 0) + 0 = la from by omega)
      have o2 : zI lo' 2 (hh - 2) := zI_of (p2 (2, .inl sf32) (List.mem_of_getElem? (i := 2) rfl)) (z3 (2, ([(1, 1)], (-2))) (List.mem_of_getElem? (i := 1) rfl)) (show (1 * hh + 0) + (-2) = hh - 2 from by omega)
      have o3 : zI lo' 3 kk := zI_of (p2 (3, .inl sf32) (List.mem_of_getElem? (i := 3) rfl)) (z3 (3, ([(2, 1)], 0)) (List.mem_of_getElem? (i := 2) rfl)) (show (1 * kk + 0) + 0 = kk from by omega)
      have o6 : zJ lo' 6 0 := zJ_of (p2 (6, .inr (.inr sf64)) (List.mem_of_getElem? (i := 4) rfl)) (z3 (6, ([], 0)) (List.mem_of_getElem? (i := 3) rfl)) (show 0 + 0 = 0 from by omega)
      have p1 : _ = [] := p1
      subst p1
      exact hE4 lo' h' hi' hm c0 c1 c2 o0 o1 o2 o3 o6
    rcases List.mem_cons.mp he with rfl | he
    · obtain ⟨p1, p2, -, hz⟩ := hp
      obtain ⟨⟨z1, z2, z3, z4⟩, z5, z6⟩ := hz
      have c0 : 0 ≤ -va - 1 := by have q_ : (0 : Int) ≤ ((-1) * va + 0) + (-1) := z4 ([(5, (-1))], (-1)) (List.mem_of_getElem? (i := 0) rfl); omega
      have c1 : 0 ≤ -vb - 1 := by have q_ : (0 : Int) ≤ ((-1) * vb + 0) + (-1) := z4 ([(6, (-1))], (-1)) (List.mem_of_getElem? (i := 1) rfl); omega
      have c2 : 0 ≤ -va + vb - 1 := by have q_ : (0 : Int) ≤ ((-1) * va + (1 * vb + 0)) + (-1) := z4 ([(5, (-1)), (6, 1)], (-1)) (List.mem_of_getElem? (i := 2) rfl); omega
      have o0 : zget lo' 0 = some (.ref (17 * t + 20)) := locR (p2 (0, .inr (.inl (17 * t + 20))) (List.mem_of_getElem? (i := 0) rfl))
      have o1 : zI lo' 1 la := zI_of (p2 (1, .inl sf32) (List.mem_of_getElem? (i := 1) rfl)) (z3 (1, ([(0, 1)], 0)) (List.mem_of_getElem? (i := 0) rfl)) (show (1 * la + 0) + 0 = la from by omega)
      have o2 : zI lo' 2 (hh - 2) := zI_of (p2 (2, .inl sf32) (List.mem_of_getElem? (i := 2) rfl)) (z3 (2, ([(1, 1)], (-2))) (List.mem_of_getElem? (i := 1) rfl)) (show (1 * hh + 0) + (-2) = hh - 2 from by omega)
      have o3 : zI lo' 3 kk := zI_of (p2 (3, .inl sf32) (List.mem_of_getElem? (i := 3) rfl)) (z3 (3, ([(2, 1)], 0)) (List.mem_of_getElem? (i := 2) rfl)) (show (1 * kk + 0) + 0 = kk from by omega)
      have o6 : zJ lo' 6 1 := zJ_of (p2 (6, .inr (.inr sf64)) (List.mem_of_getElem? (i := 4) rfl)) (z3 (6, ([], 1)) (List.mem_of_getElem? (i := 3) rfl)) (show 0 + 1 = 1 from by omega)
      have p1 : _ = [] := p1
      subst p1
      exact hE5 lo' h' hi' hm c0 c1 c2 o0 o1 o2 o3 o6
    cases he
  · intro e he r' h' hp hi' hm
    cases he
def evLe_L (t : Nat) : List (Nat × sT) := [(0, .inr (.inl (17 * t + 20))), (1, .inl (0, 2)), (2, .inl (2, 64)), (3, .inl (0, 63))]
def evLe_S (t : Nat) : List sT := []
def evLe_A (t : Nat) : sAs := ([], [], [], [])
def evLe_P (t : Nat) : List sP0 := [((17 * t + 23), (some 0, 0), (0, 64)), ((17 * t + 21), (some 2, 0), ((-36), (-36)))]
def evLe_G (t : Nat) : List sP0 := [((17 * t + 25), (some 1, (-2)), ((-1000000000000), 1000000000000)), ((17 * t + 25), (some 1, (-1)), ((-1000000000000), 1000000000000))]
def evLe_B (t : Nat) : List (Nat × Nat × Int) := [(3, 2, 1)]
def evLe_m (t : Nat) : sM := []
def evLe_e0 (t : Nat) : sXe := (166, [], [(0, .inr (.inl (17 * t + 20))), (1, .inl sf32), (2, .inl sf32), (3, .inl sf32), (6, .inr (.inr sf64))], sA0, [], ([], [], [(1, ([(0, 1)], 0)), (2, ([(1, 1)], (-2))), (3, ([(2, 1)], 0)), (6, ([], 0))], [([(5, 1)], 0), ([(6, 1)], 0), ([(5, 1), (6, (-1))], (-1))]), [], [])
def evLe_e1 (t : Nat) : sXe := (166, [], [(0, .inr (.inl (17 * t + 20))), (1, .inl sf32), (2, .inl sf32), (3, .inl sf32), (6, .inr (.inr sf64))], sA0, [], ([], [], [(1, ([(0, 1)], 0)), (2, ([(1, 1)], (-2))), (3, ([(2, 1)], 0)), (6, ([], 1))], [([(5, 1)], 0), ([(6, 1)], 0), ([(5, (-1)), (6, 1)], 0)]), [], [])
def evLe_e2 (t : Nat) : sXe := (166, [], [(0, .inr (.inl (17 * t + 20))), (1, .inl sf32), (2, .inl sf32), (3, .inl sf32), (6, .inr (.inr sf64))], sA0, [], ([], [], [(1, ([(0, 1)], 0)), (2, ([(1, 1)], (-2))), (3, ([(2, 1)], 0)), (6, ([], 0))], [([(5, 1)], 0), ([(6, (-1))], (-1))]), [], [])
def evLe_e3 (t : Nat) : sXe := (166, [], [(0, .inr (.inl (17 * t + 20))), (1, .inl sf32), (2, .inl sf32), (3, .inl sf32), (6, .inr (.inr sf64))], sA0, [], ([], [], [(1, ([(0, 1)], 0)), (2, ([(1, 1)], (-2))), (3, ([(2, 1)], 0)), (6, ([], 1))], [([(5, (-1))], (-1)), ([(6, 1)], 0)]), [], [])
def evLe_e4 (t : Nat) : sXe := (166, [], [(0, .inr (.inl (17 * t + 20))), (1, .inl sf32), (2, .inl sf32), (3, .inl sf32), (6, .inr (.inr sf64))], sA0, [], ([], [], [(1, ([(0, 1)], 0)), (2, ([(1, 1)], (-2))), (3, ([(2, 1)], 0)), (6, ([], 0))], [([(5, (-1))], (-1)), ([(6, (-1))], (-1)), ([(5, 1), (6, (-1))], (-1))]), [], [])
def evLe_e5 (t : Nat) : sXe := (166, [], [(0, .inr (.inl (17 * t + 20))), (1, .inl sf32), (2, .inl sf32), (3, .inl sf32), (6, .inr (.inr sf64))], sA0, [], ([], [], [(1, ([(0, 1)], 0)), (2, ([(1, 1)], (-2))), (3, ([(2, 1)], 0)), (6, ([], 1))], [([(5, (-1))], (-1)), ([(6, (-1))], (-1)), ([(5, (-1)), (6, 1)], 0)]), [], [])
theorem evLe_b : ((List.range 2).all fun t => syeB swC sT0 (evLe_m t) 400 1 89 (evLe_L t) (evLe_S t) (evLe_A t) (evLe_P t) (evLe_G t) (evLe_B t) 21 [evLe_e0 t, evLe_e1 t, evLe_e2 t, evLe_e3 t, evLe_e4 t, evLe_e5 t] []) = true := by decide +kernel
theorem evLe {l : Launch} {Γ : zG} {d : Nat} (hd : 1 ≤ d) {Kp : Option Value → zH → Prop} {lo : zL} {h : zH} {t : Nat} (h_t : t < 2) {la hh kk tt va vb : Int} (hi : sInv swC h) (b_la : 0 ≤ la ∧ la ≤ 2) (b_hh : 2 ≤ hh ∧ hh ≤ 64) (b_kk : 0 ≤ kk ∧ kk ≤ 63) (b_tt : 0 ≤ tt ∧ tt ≤ 64) (b_va : (-1000000000000) ≤ va ∧ va ≤ 1000000000000) (b_vb : (-1000000000000) ≤ vb ∧ vb ≤ 1000000000000) (l0 : zget lo 0 = some (.ref (17 * t + 20))) (l1 : zI lo 1 la) (l2 : zI lo 2 hh) (l3 : zI lo 3 kk) (p_tt : pI h (17 * t + 23) (la + 0).toNat = tt) (p_kn : pI h (17 * t + 21) (kk + 0).toNat = (-36)) (p_va : pL h (17 * t + 25) (hh + (-2)).toNat = va) (p_vb : pL h (17 * t + 25) (hh + (-1)).toNat = vb) (d0 : 1 ≤ tt - kk)
    (hE0 : ∀ (lo' : zL) (h' : zH), sInv swC h' → sMd (evLe_m t) h h' → 0 ≤ va → 0 ≤ vb → 0 ≤ va - vb - 1 → zget lo' 0 = some (.ref (17 * t + 20)) → zI lo' 1 la → zI lo' 2 (hh - 2) → zI lo' 3 kk → zJ lo' 6 0 → zX l Γ false (d + 1) (zhd 89) (zMQ' Γ false (zhd 89) Kp) 0 0 166 lo' [] h')
    (hE1 : ∀ (lo' : zL) (h' : zH), sInv swC h' → sMd (evLe_m t) h h' → 0 ≤ va → 0 ≤ vb → 0 ≤ -va + vb → zget lo' 0 = some (.ref (17 * t + 20)) → zI lo' 1 la → zI lo' 2 (hh - 2) → zI lo' 3 kk → zJ lo' 6 1 → zX l Γ false (d + 1) (zhd 89) (zMQ' Γ false (zhd 89) Kp) 0 0 166 lo' [] h')
    (hE2 : ∀ (lo' : zL) (h' : zH), sInv swC h' → sMd (evLe_m t) h h' → 0 ≤ va → 0 ≤ -vb - 1 → zget lo' 0 = some (.ref (17 * t + 20)) → zI lo' 1 la → zI lo' 2 (hh - 2) → zI lo' 3 kk → zJ lo' 6 0 → zX l Γ false (d + 1) (zhd 89) (zMQ' Γ false (zhd 89) Kp) 0 0 166 lo' [] h')
    (hE3 : ∀ (lo' : zL) (h' : zH), sInv swC h' → sMd (evLe_m t) h h' → 0 ≤ -va - 1 → 0 ≤ vb → zget lo' 0 = some (.ref (17 * t + 20)) → zI lo' 1 la → zI lo' 2 (hh - 2) → zI lo' 3 kk → zJ lo' 6 1 → zX l Γ false (d + 1) (zhd 89) (zMQ' Γ false (zhd 89) Kp) 0 0 166 lo' [] h')
    (hE4 : ∀ (lo' : zL) (h' : zH), sInv swC h' → sMd (evLe_m t) h h' → 0 ≤ -va - 1 → 0 ≤ -vb - 1 → 0 ≤ va - vb - 1 → zget lo' 0 = some (.ref (17 * t + 20)) → zI lo' 1 la → zI lo' 2 (hh - 2) → zI lo' 3 kk → zJ lo' 6 0 → zX l Γ false (d + 1) (zhd 89) (zMQ' Γ false (zhd 89) Kp) 0 0 166 lo' [] h')
    (hE5 : ∀ (lo' : zL) (h' : zH), sInv swC h' → sMd (evLe_m t) h h' → 0 ≤ -va - 1 → 0 ≤ -vb - 1 → 0 ≤ -va + vb → zget lo' 0 = some (.ref (17 * t + 20)) → zI lo' 1 la → zI lo' 2 (hh - 2) → zI lo' 3 kk → zJ lo' 6 1 → zX l Γ false (d + 1) (zhd 89) (zMQ' Γ false (zhd 89) Kp) 0 0 166 lo' [] h') : zX l Γ false (d + 1) (zhd 89) (zMQ' Γ false (zhd 89) Kp) 0 0 21 lo [] h := by
  refine sye_ok (mi := 89) (pc := 21) (fun i => [la, hh, kk, tt, (-36), va, vb].getD i 0) (zall_r evLe_b h_t) (fun _ _ hc _ => nomatch hc) hd ⟨l0, zIm l1 (by show 0 ≤ la; omega) (by show la ≤ 2; omega), zIm l2 (by show 2 ≤ hh; omega) (by show hh ≤ 64; omega), zIm l3 (by show 0 ≤ kk; omega) (by show kk ≤ 63; omega), trivial⟩ rfl ⟨(fun _ hc => nomatch hc), (fun _ hc => nomatch hc), (fun _ hc => nomatch hc), Or.inl rfl⟩ ⟨⟨p_tt, by show 0 ≤ tt; omega, by show tt ≤ 64; omega⟩, ⟨p_kn, by show (-36) ≤ (-36); omega, by show (-36) ≤ (-36); omega⟩, trivial⟩ ⟨⟨p_va, by show (-1000000000000) ≤ va; omega, by show va ≤ 1000000000000; omega⟩, ⟨p_vb, by show (-1000000000000) ≤ vb; omega, by show vb ≤ 1000000000000; omega⟩, trivial⟩ (sfm d0 (fun _ hc => nomatch hc)) hi ?_ ?_
  · intro e he lo' st' h' hp hi' hm
    rcases List.mem_cons.mp he with rfl | he
    · obtain ⟨p1, p2, -, hz⟩ := hp
      obtain ⟨⟨z1, z2, z3, z4⟩, z5, z6⟩ := hz
      have c0 : 0 ≤ va := by have q_ : (0 : Int) ≤ (1 * va + 0) + 0 := z4 ([(5, 1)], 0) (List.mem_of_getElem? (i := 0) rfl); omega
      have c1 : 0 ≤ vb := by have q_ : (0 : Int) ≤ (1 * vb + 0) + 0 := z4 ([(6, 1)], 0) (List.mem_of_getElem? (i := 1) rfl); omega
      have c2 : 0 ≤ va - vb - 1 := by have q_ : (0 : Int) ≤ (1 * va + ((-1) * vb + 0)) + (-1) := z4 ([(5, 1), (6, (-1))], (-1)) (List.mem_of_getElem? (i := 2) rfl); omega
      have o0 : zget lo' 0 = some (.ref (17 * t + 20)) := locR (p2 (0, .inr (.inl (17 * t + 20))) (List.mem_of_getElem? (i := 0) rfl))
      have o1 : zI lo' 1 la := zI_of (p2 (1, .inl sf32) (List.mem_of_getElem? (i := 1) rfl)) (z3 (1, ([(0, 1)], 0)) (List.mem_of_getElem? (i := 0) rfl)) (show (1 * la + 0) + 0 = la from by omega)
      have o2 : zI lo' 2 (hh - 2) := zI_of (p2 (2, .inl sf32) (List.mem_of_getElem? (i := 2) rfl)) (z3 (2, ([(1, 1)], (-2))) (List.mem_of_getElem? (i := 1) rfl)) (show (1 * hh + 0) + (-2) = hh - 2 from by omega)
      have o3 : zI lo' 3 kk := zI_of (p2 (3, .inl sf32) (List.mem_of_getElem? (i := 3) rfl)) (z3 (3, ([(2, 1)], 0)) (List.mem_of_getElem? (i := 2) rfl)) (show (1 * kk + 0) + 0 = kk from by omega)
      have o6 : zJ lo' 6 0 := zJ_of (p2 (6, .inr (.inr sf64)) (List.mem_of_getElem? (i := 4) rfl)) (z3 (6, ([], 0)) (List.mem_of_getElem? (i := 3) rfl)) (show 0 + 0 = 0 from by omega)
      have p1 : _ = [] := p1
      subst p1
      exact hE0 lo' h' hi' hm c0 c1 c2 o0 o1 o2 o3 o6
    rcases List.mem_cons.mp he with rfl | he
    · obtain ⟨p1, p2, -, hz⟩ := hp
      obtain ⟨⟨z1, z2, z3, z4⟩, z5, z6⟩ := hz
      have c0 : 0 ≤ va := by have q_ : (0 : Int) ≤ (1 * va + 0) + 0 := z4 ([(5, 1)], 0) (List.mem_of_getElem? (i := 0) rfl); omega
      have c1 : 0 ≤ vb := by have q_ : (0 : Int) ≤ (1 * vb + 0) + 0 := z4 ([(6, 1)], 0) (List.mem_of_getElem? (i := 1) rfl); omega
      have c2 : 0 ≤ -va + vb := by have q_ : (0 : Int) ≤ ((-1) * va + (1 * vb + 0)) + 0 := z4 ([(5, (-1)), (6, 1)], 0) (List.mem_of_getElem? (i := 2) rfl); omega
      have o0 : zget lo' 0 = some (.ref (17 * t + 20)) := locR (p2 (0, .inr (.inl (17 * t + 20))) (List.mem_of_getElem? (i := 0) rfl))
      have o1 : zI lo' 1 la := zI_of (p2 (1, .inl sf32) (List.mem_of_getElem? (i := 1) rfl)) (z3 (1, ([(0, 1)], 0)) (List.mem_of_getElem? (i := 0) rfl)) (show (1 * la + 0) + 0 = la from by omega)
      have o2 : zI lo' 2 (hh - 2) := zI_of (p2 (2, .inl sf32) (List.mem_of_getElem? (i := 2) rfl)) (z3 (2, ([(1, 1)], (-2))) (List.mem_of_getElem? (i := 1) rfl)) (show (1 * hh + 0) + (-2) = hh - 2 from by omega)
      have o3 : zI lo' 3 kk := zI_of (p2 (3, .inl sf32) (List.mem_of_getElem? (i := 3) rfl)) (z3 (3, ([(2, 1)], 0)) (List.mem_of_getElem? (i := 2) rfl)) (show (1 * kk + 0) + 0 = kk from by omega)
      have o6 : zJ lo' 6 1 := zJ_of (p2 (6, .inr (.inr sf64)) (List.mem_of_getElem? (i := 4) rfl)) (z3 (6, ([], 1)) (List.mem_of_getElem? (i := 3) rfl)) (show 0 + 1 = 1 from by omega)
      have p1 : _ = [] := p1
      subst p1
      exact hE1 lo' h' hi' hm c0 c1 c2 o0 o1 o2 o3 o6
    rcases List.mem_cons.mp he with rfl | he
    · obtain ⟨p1, p2, -, hz⟩ := hp
      obtain ⟨⟨z1, z2, z3, z4⟩, z5, z6⟩ := hz
      have c0 : 0 ≤ va := by have q_ : (0 : Int) ≤ (1 * va + 0) + 0 := z4 ([(5, 1)], 0) (List.mem_of_getElem? (i := 0) rfl); omega
      have c1 : 0 ≤ -vb - 1 := by have q_ : (0 : Int) ≤ ((-1) * vb + 0) + (-1) := z4 ([(6, (-1))], (-1)) (List.mem_of_getElem? (i := 1) rfl); omega
      have o0 : zget lo' 0 = some (.ref (17 * t + 20)) := locR (p2 (0, .inr (.inl (17 * t + 20))) (List.mem_of_getElem? (i := 0) rfl))
      have o1 : zI lo' 1 la := zI_of (p2 (1, .inl sf32) (List.mem_of_getElem? (i := 1) rfl)) (z3 (1, ([(0, 1)], 0)) (List.mem_of_getElem? (i := 0) rfl)) (show (1 * la + 0) + 0 = la from by omega)
      have o2 : zI lo' 2 (hh - 2) := zI_of (p2 (2, .inl sf32) (List.mem_of_getElem? (i := 2) rfl)) (z3 (2, ([(1, 1)], (-2))) (List.mem_of_getElem? (i := 1) rfl)) (show (1 * hh + 0) + (-2) = hh - 2 from by omega)
      have o3 : zI lo' 3 kk := zI_of (p2 (3, .inl sf32) (List.mem_of_getElem? (i := 3) rfl)) (z3 (3, ([(2, 1)], 0)) (List.mem_of_getElem? (i := 2) rfl)) (show (1 * kk + 0) + 0 = kk from by omega)
      have o6 : zJ lo' 6 0 := zJ_of (p2 (6, .inr (.inr sf64)) (List.mem_of_getElem? (i := 4) rfl)) (z3 (6, ([], 0)) (List.mem_of_getElem? (i := 3) rfl)) (show 0 + 0 = 0 from by omega)
      have p1 : _ = [] := p1
      subst p1
      exact hE2 lo' h' hi' hm c0 c1 o0 o1 o2 o3 o6
    rcases List.mem_cons.mp he with rfl | he
    · obtain ⟨p1, p2, -, hz⟩ := hp
      obtain ⟨⟨z1, z2, z3, z4⟩, z5, z6⟩ := hz
      have c0 : 0 ≤ -va - 1 := by have q_ : (0 : Int) ≤ ((-1) * va + 0) + (-1) := z4 ([(5, (-1))], (-1)) (List.mem_of_getElem? (i := 0) rfl); omega
      have c1 : 0 ≤ vb := by have q_ : (0 : Int) ≤ (1 * vb + 0) + 0 := z4 ([(6, 1)], 0) (List.mem_of_getElem? (i := 1) rfl); omega
      have o0 : zget lo' 0 = some (.ref (17 * t + 20)) := locR (p2 (0, .inr (.inl (17 * t + 20))) (List.mem_of_getElem? (i := 0) rfl))
      have o1 : zI lo' 1 la := zI_of (p2 (1, .inl sf32) (List.mem_of_getElem? (i := 1) rfl)) (z3 (1, ([(0, 1)], 0)) (List.mem_of_getElem? (i := 0) rfl)) (show (1 * la + 0) + 0 = la from by omega)
      have o2 : zI lo' 2 (hh - 2) := zI_of (p2 (2, .inl sf32) (List.mem_of_getElem? (i := 2) rfl)) (z3 (2, ([(1, 1)], (-2))) (List.mem_of_getElem? (i := 1) rfl)) (show (1 * hh + 0) + (-2) = hh - 2 from by omega)
      have o3 : zI lo' 3 kk := zI_of (p2 (3, .inl sf32) (List.mem_of_getElem? (i := 3) rfl)) (z3 (3, ([(2, 1)], 0)) (List.mem_of_getElem? (i := 2) rfl)) (show (1 * kk + 0) + 0 = kk from by omega)
      have o6 : zJ lo' 6 1 := zJ_of (p2 (6, .inr (.inr sf64)) (List.mem_of_getElem? (i := 4) rfl)) (z3 (6, ([], 1)) (List.mem_of_getElem? (i := 3) rfl)) (show 0 + 1 = 1 from by omega)
      have p1 : _ = [] := p1
      subst p1
      exact hE3 lo' h' hi' hm c0 c1 o0 o1 o2 o3 o6
    rcases List.mem_cons.mp he with rfl | he
    · obtain ⟨p1, p2, -, hz⟩ := hp
      obtain ⟨⟨z1, z2, z3, z4⟩, z5, z6⟩ := hz
      have c0 : 0 ≤ -va - 1 := by have q_ : (0 : Int) ≤ ((-1) * va + 0) + (-1) := z4 ([(5, (-1))], (-1)) (List.mem_of_getElem? (i := 0) rfl); omega
      have c1 : 0 ≤ -vb - 1 := by have q_ : (0 : Int) ≤ ((-1) * vb + 0) + (-1) := z4 ([(6, (-1))], (-1)) (List.mem_of_getElem? (i := 1) rfl); omega
      have c2 : 0 ≤ va - vb - 1 := by have q_ : (0 : Int) ≤ (1 * va + ((-1) * vb + 0)) + (-1) := z4 ([(5, 1), (6, (-1))], (-1)) (List.mem_of_getElem? (i := 2) rfl); omega
      have o0 : zget lo' 0 = some (.ref (17 * t + 20)) := locR (p2 (0, .inr (.inl (17 * t + 20))) (List.mem_of_getElem? (i := 0) rfl))
      have o1 : zI lo' 1 la := zI_of (p2 (1, .inl sf32) (List.mem_of_getElem? (i := 1) rfl)) (z3 (1, ([(0, 1)], 0)) (List.mem_of_getElem? (i := 0) rfl)) (show (1 * la + 0) + 0 = la from by omega)
      have o2 : zI lo' 2 (hh - 2) := zI_of (p2 (2, .inl sf32) (List.mem_of_getElem? (i := 2) rfl)) (z3 (2, ([(1, 1)], (-2))) (List.mem_of_getElem? (i := 1) rfl)) (show (1 * hh + 0) + (-2) = hh - 2 from by omega)
      have o3 : zI lo' 3 kk := zI_of (p2 (3, .inl sf32) (List.mem_of_getElem? (i := 3) rfl)) (z3 (3, ([(2, 1)], 0)) (List.mem_of_getElem? (i := 2) rfl)) (show (1 * kk + 0) + 0 = kk from by omega)
      have o6 : zJ lo' 6 0 := zJ_of (p2 (6, .inr (.inr sf64)) (List.mem_of_getElem? (i := 4) rfl)) (z3 (6, ([], 0)) (List.mem_of_getElem? (i := 3) rfl)) (show 0 + 0 = 0 from by omega)
      have p1 : _ = [] := p1
      subst p1
      exact hE4 lo' h' hi' hm c0 c1 c2 o0 o1 o2 o3 o6
    rcases List.mem_cons.mp he with rfl | he
    · obtain ⟨p1, p2, -, hz⟩ := hp
      obtain ⟨⟨z1, z2, z3, z4⟩, z5, z6⟩ := hz
      have c0 : 0 ≤ -va - 1 := by have q_ : (0 : Int) ≤ ((-1) * va + 0) + (-1) := z4 ([(5, (-1))], (-1)) (List.mem_of_getElem? (i := 0) rfl); omega
      have c1 : 0 ≤ -vb - 1 := by have q_ : (0 : Int) ≤ ((-1) * vb + 0) + (-1) := z4 ([(6, (-1))], (-1)) (List.mem_of_getElem? (i := 1) rfl); omega
      have c2 : 0 ≤ -va + vb := by have q_ : (0 : Int) ≤ ((-1) * va + (1 * vb + 0)) + 0 := z4 ([(5, (-1)), (6, 1)], 0) (List.mem_of_getElem? (i := 2) rfl); omega
      have o0 : zget lo' 0 = some (.ref (17 * t + 20)) := locR (p2 (0, .inr (.inl (17 * t + 20))) (List.mem_of_getElem? (i := 0) rfl))
      have o1 : zI lo' 1 la := zI_of (p2 (1, .inl sf32) (List.mem_of_getElem? (i := 1) rfl)) (z3 (1, ([(0, 1)], 0)) (List.mem_of_getElem? (i := 0) rfl)) (show (1 * la + 0) + 0 = la from by omega)
      have o2 : zI lo' 2 (hh - 2) := zI_of (p2 (2, .inl sf32) (List.mem_of_getElem? (i := 2) rfl)) (z3 (2, ([(1, 1)], (-2))) (List.mem_of_getElem? (i := 1) rfl)) (show (1 * hh + 0) + (-2) = hh - 2 from by omega)
      have o3 : zI lo' 3 kk := zI_of (p2 (3, .inl sf32) (List.mem_of_getElem? (i := 3) rfl)) (z3 (3, ([(2, 1)], 0)) (List.mem_of_getElem? (i := 2) rfl)) (show (1 * kk + 0) + 0 = kk from by omega)
      have o6 : zJ lo' 6 1 := zJ_of (p2 (6, .inr (.inr sf64)) (List.mem_of_getElem? (i := 4) rfl)) (z3 (6, ([], 1)) (List.mem_of_getElem? (i := 3) rfl)) (show 0 + 1 = 1 from by omega)
      have p1 : _ = [] := p1
      subst p1
      exact hE5 lo' h' hi' hm c0 c1 c2 o0 o1 o2 o3 o6
    cases he
  · intro e he r' h' hp hi' hm
    cases he
def evEq_L (t : Nat) : List (Nat × sT) := [(0, .inr (.inl (17 * t + 20))), (1, .inl (0, 2)), (2, .inl (2, 64)), (3, .inl (0, 63))]
def evEq_S (t : Nat) : List sT := []
def evEq_A (t : Nat) : sAs := ([], [], [], [])
def evEq_P (t : Nat) : List sP0 := [((17 * t + 23), (some 0, 0), (0, 64)), ((17 * t + 21), (some 2, 0), ((-37), (-37)))]
def evEq_G (t : Nat) : List sP0 := [((17 * t + 25), (some 1, (-2)), ((-1000000000000), 1000000000000)), ((17 * t + 25), (some 1, (-1)), ((-1000000000000), 1000000000000))]
def evEq_B (t : Nat) : List (Nat × Nat × Int) := [(3, 2, 1)]
def evEq_m (t : Nat) : sM := []
def evEq_e0 (t : Nat) : sXe := (166, [], [(0, .inr (.inl (17 * t + 20))), (1, .inl sf32), (2, .inl sf32), (3, .inl sf32), (6, .inr (.inr sf64))], sA0, [], ([], [], [(1, ([(0, 1)], 0)), (2, ([(1, 1)], (-2))), (3, ([(2, 1)], 0)), (6, ([], 1))], [([(5, 1)], 0), ([(6, 1)], 0), ([(5, 1), (6, (-1))], 0), ([(5, (-1)), (6, 1)], 0)]), [], [])
def evEq_e1 (t : Nat) : sXe := (166, [], [(0, .inr (.inl (17 * t + 20))), (1, .inl sf32), (2, .inl sf32), (3, .inl sf32), (6, .inr (.inr sf64))], sA0, [], ([], [], [(1, ([(0, 1)], 0)), (2, ([(1, 1)], (-2))), (3, ([(2, 1)], 0)), (6, ([], 0))], [([(5, 1)], 0), ([(6, 1)], 0), ([(5, (-1)), (6, 1)], (-1))]), [], [])
def evEq_e2 (t : Nat) : sXe := (166, [], [(0, .inr (.inl (17 * t + 20))), (1, .inl sf32), (2, .inl sf32), (3, .inl sf32), (6, .inr (.inr sf64))], sA0, [], ([], [], [(1, ([(0, 1)], 0)), (2, ([(1, 1)], (-2))), (3, ([(2, 1)], 0)), (6, ([], 0))], [([(5, 1)], 0), ([(6, 1)], 0), ([(5, 1), (6, (-1))], (-1))]), [], [])
def evEq_e3 (t : Nat) : sXe := (166, [], [(0, .inr (.inl (17 * t + 20))), (1, .inl sf32), (2, .inl sf32), (3, .inl sf32), (6, .inr (.inr sf64))], sA0, [], ([], [], [(1, ([(0, 1)], 0)), (2, ([(1, 1)], (-2))), (3, ([(2, 1)], 0)), (6, ([], 0))], [([(5, 1)], 0), ([(6, (-1))], (-1))]), [], [])
def evEq_e4 (t : Nat) : sXe := (166, [], [(0, .inr (.inl (17 * t + 20))), (1, .inl sf32), (2, .inl sf32), (3, .inl sf32), (6, .inr (.inr sf64))], sA0, [], ([], [], [(1, ([(0, 1)], 0)), (2, ([(1, 1)], (-2))), (3, ([(2, 1)], 0)), (6, ([], 0))], [([(5, (-1))], (-1)), ([(6, 1)], 0)]), [], [])
def evEq_e5 (t : Nat) : sXe := (166, [], [(0, .inr (.inl (17 * t + 20))), (1, .inl sf32), (2, .inl sf32), (3, .inl sf32), (6, .inr (.inr sf64))], sA0, [], ([], [], [(1, ([(0, 1)], 0)), (2, ([(1, 1)], (-2))), (3, ([(2, 1)], 0)), (6, ([], 1))], [([(5, (-1))], (-1)), ([(6, (-1))], (-1)), ([(5, 1), (6, (-1))], 0), ([(5, (-1)), (6, 1)], 0)]), [], [])
def evEq_e6 (t : Nat) : sXe := (166, [], [(0, .inr (.inl (17 * t + 20))), (1, .inl sf32), (2, .inl sf32), (3, .inl sf32), (6, .inr (.inr sf64))], sA0, [], ([], [], [(1, ([(0, 1)], 0)), (2, ([(1, 1)], (-2))), (3, ([(2, 1)], 0)), (6, ([], 0))], [([(5, (-1))], (-1)), ([(6, (-1))], (-1)), ([(5, (-1)), (6, 1)], (-1))]), [], [])
def evEq_e7 (t : Nat) : sXe := (166, [], [(0, .inr (.inl (17 * t + 20))), (1, .inl sf32), (2, .inl sf32), (3, .inl sf32), (6, .inr (.inr sf64))], sA0, [], ([], [], [(1, ([(0, 1)], 0)), (2, ([(1, 1)], (-2))), (3, ([(2, 1)], 0)), (6, ([], 0))], [([(5, (-1))], (-1)), ([(6, (-1))], (-1)), ([(5, 1), (6, (-1))], (-1))]), [], [])
theorem evEq_b : ((List.range 2).all fun t => syeB swC sT0 (evEq_m t) 400 1 89 (evEq_L t) (evEq_S t) (evEq_A t) (evEq_P t) (evEq_G t) (evEq_B t) 21 [evEq_e0 t, evEq_e1 t, evEq_e2 t, evEq_e3 t, evEq_e4 t, evEq_e5 t, evEq_e6 t, evEq_e7 t] []) = true := by decide +kernel
theorem evEq {l : Launch} {Γ : zG} {d : Nat} (hd : 1 ≤ d) {Kp : Option Value → zH → Prop} {lo : zL} {h : zH} {t : Nat} (h_t : t < 2) {la hh kk tt va vb : Int} (hi : sInv swC h) (b_la : 0 ≤ la ∧ la ≤ 2) (b_hh : 2 ≤ hh ∧ hh ≤ 64) (b_kk : 0 ≤ kk ∧ kk ≤ 63) (b_tt : 0 ≤ tt ∧ tt ≤ 64) (b_va : (-1000000000000) ≤ va ∧ va ≤ 1000000000000) (b_vb : (-1000000000000) ≤ vb ∧ vb ≤ 1000000000000) (l0 : zget lo 0 = some (.ref (17 * t + 20))) (l1 : zI lo 1 la) (l2 : zI lo 2 hh) (l3 : zI lo 3 kk) (p_tt : pI h (17 * t + 23) (la + 0).toNat = tt) (p_kn : pI h (17 * t + 21) (kk + 0).toNat = (-37)) (p_va : pL h (17 * t + 25) (hh + (-2)).toNat = va) (p_vb : pL h (17 * t + 25) (hh + (-1)).toNat = vb) (d0 : 1 ≤ tt - kk)
    (hE0 : ∀ (lo' : zL) (h' : zH), sInv swC h' → sMd (evEq_m t) h h' → 0 ≤ va → 0 ≤ vb → va = vb → zget lo' 0 = some (.ref (17 * t + 20)) → zI lo' 1 la → zI lo' 2 (hh - 2) → zI lo' 3 kk → zJ lo' 6 1 → zX l Γ false (d + 1) (zhd 89) (zMQ' Γ false (zhd 89) Kp) 0 0 166 lo' [] h')
    (hE1 : ∀ (lo' : zL) (h' : zH), sInv swC h' → sMd (evEq_m t) h h' → 0 ≤ va → 0 ≤ vb → 0 ≤ -va + vb - 1 → zget lo' 0 = some (.ref (17 * t + 20)) → zI lo' 1 la → zI lo' 2 (hh - 2) → zI lo' 3 kk → zJ lo' 6 0 → zX l Γ false (d + 1) (zhd 89) (zMQ' Γ false (zhd 89) Kp) 0 0 166 lo' [] h')
    (hE2 : ∀ (lo' : zL) (h' : zH), sInv swC h' → sMd (evEq_m t) h h' → 0 ≤ va → 0 ≤ vb → 0 ≤ va - vb - 1 → zget lo' 0 = some (.ref (17 * t + 20)) → zI lo' 1 la → zI lo' 2 (hh - 2) → zI lo' 3 kk → zJ lo' 6 0 → zX l Γ false (d + 1) (zhd 89) (zMQ' Γ false (zhd 89) Kp) 0 0 166 lo' [] h')
    (hE3 : ∀ (lo' : zL) (h' : zH), sInv swC h' → sMd (evEq_m t) h h' → 0 ≤ va → 0 ≤ -vb - 1 → zget lo' 0 = some (.ref (17 * t + 20)) → zI lo' 1 la → zI lo' 2 (hh - 2) → zI lo' 3 kk → zJ lo' 6 0 → zX l Γ false (d + 1) (zhd 89) (zMQ' Γ false (zhd 89) Kp) 0 0 166 lo' [] h')
    (hE4 : ∀ (lo' : zL) (h' : zH), sInv swC h' → sMd (evEq_m t) h h' → 0 ≤ -va - 1 → 0 ≤ vb → zget lo' 0 = some (.ref (17 * t + 20)) → zI lo' 1 la → zI lo' 2 (hh - 2) → zI lo' 3 kk → zJ lo' 6 0 → zX l Γ false (d + 1) (zhd 89) (zMQ' Γ false (zhd 89) Kp) 0 0 166 lo' [] h')
    (hE5 : ∀ (lo' : zL) (h' : zH), sInv swC h' → sMd (evEq_m t) h h' → 0 ≤ -va - 1 → 0 ≤ -vb - 1 → va = vb → zget lo' 0 = some (.ref (17 * t + 20)) → zI lo' 1 la → zI lo' 2 (hh - 2) → zI lo' 3 kk → zJ lo' 6 1 → zX l Γ false (d + 1) (zhd 89) (zMQ' Γ false (zhd 89) Kp) 0 0 166 lo' [] h')
    (hE6 : ∀ (lo' : zL) (h' : zH), sInv swC h' → sMd (evEq_m t) h h' → 0 ≤ -va - 1 → 0 ≤ -vb - 1 → 0 ≤ -va + vb - 1 → zget lo' 0 = some (.ref (17 * t + 20)) → zI lo' 1 la → zI lo' 2 (hh - 2) → zI lo' 3 kk → zJ lo' 6 0 → zX l Γ false (d + 1) (zhd 89) (zMQ' Γ false (zhd 89) Kp) 0 0 166 lo' [] h')
    (hE7 : ∀ (lo' : zL) (h' : zH), sInv swC h' → sMd (evEq_m t) h h' → 0 ≤ -va - 1 → 0 ≤ -vb - 1 → 0 ≤ va - vb - 1 → zget lo' 0 = some (.ref (17 * t + 20)) → zI lo' 1 la → zI lo' 2 (hh - 2) → zI lo' 3 kk → zJ lo' 6 0 → zX l Γ false (d + 1) (zhd 89) (zMQ' Γ false (zhd 89) Kp) 0 0 166 lo' [] h') : zX l Γ false (d + 1) (zhd 89) (zMQ' Γ false (zhd 89) Kp) 0 0 21 lo [] h := by
  refine sye_ok (mi := 89) (pc := 21) (fun i => [la, hh, kk, tt, (-37), va, vb].getD i 0) (zall_r evEq_b h_t) (fun _ _ hc _ => nomatch hc) hd ⟨l0, zIm l1 (by show 0 ≤ la; omega) (by show la ≤ 2; omega), zIm l2 (by show 2 ≤ hh; omega) (by show hh ≤ 64; omega), zIm l3 (by show 0 ≤ kk; omega) (by show kk ≤ 63; omega), trivial⟩ rfl ⟨(fun _ hc => nomatch hc), (fun _ hc => nomatch hc), (fun _ hc => nomatch hc), Or.inl rfl⟩ ⟨⟨p_tt, by show 0 ≤ tt; omega, by show tt ≤ 64; omega⟩, ⟨p_kn, by show (-37) ≤ (-37); omega, by show (-37) ≤ (-37); omega⟩, trivial⟩ ⟨⟨p_va, by show (-1000000000000) ≤ va; omega, by show va ≤ 1000000000000; omega⟩, ⟨p_vb, by show (-1000000000000) ≤ vb; omega, by show vb ≤ 1000000000000; omega⟩, trivial⟩ (sfm d0 (fun _ hc => nomatch hc)) hi ?_ ?_
  · intro e he lo' st' h' hp hi' hm
    rcases List.mem_cons.mp he with rfl | he
    · obtain ⟨p1, p2, -, hz⟩ := hp
      obtain ⟨⟨z1, z2, z3, z4⟩, z5, z6⟩ := hz
      have c0 : 0 ≤ va := by have q_ : (0 : Int) ≤ (1 * va + 0) + 0 := z4 ([(5, 1)], 0) (List.mem_of_getElem? (i := 0) rfl); omega
      have c1 : 0 ≤ vb := by have q_ : (0 : Int) ≤ (1 * vb + 0) + 0 := z4 ([(6, 1)], 0) (List.mem_of_getElem? (i := 1) rfl); omega
      have c2 : va = vb := by have q_ : (0 : Int) ≤ (1 * va + ((-1) * vb + 0)) + 0 := z4 ([(5, 1), (6, (-1))], 0) (List.mem_of_getElem? (i := 2) rfl); have q2_ : (0 : Int) ≤ ((-1) * va + (1 * vb + 0)) + 0 := z4 ([(5, (-1)), (6, 1)], 0) (List.mem_of_getElem? (i := 3) rfl); omega
      have o0 : zget lo' 0 = some (.ref (17 * t + 20)) := locR (p2 (0, .inr (.inl (17 * t + 20))) (List.mem_of_getElem? (i := 0) rfl))
      have o1 : zI lo' 1 la := zI_of (p2 (1, .inl sf32) (List.mem_of_getElem? (i := 1) rfl)) (z3 (1, ([(0, 1)], 0)) (List.mem_of_getElem? (i := 0) rfl)) (show (1 * la + 0) + 0 = la from by omega)
      have o2 : zI lo' 2 (hh - 2) := zI_of (p2 (2, .inl sf32) (List.mem_of_getElem? (i := 2) rfl)) (z3 (2, ([(1, 1)], (-2))) (List.mem_of_getElem? (i := 1) rfl)) (show (1 * hh + 0) + (-2) = hh - 2 from by omega)
      have o3 : zI lo' 3 kk := zI_of (p2 (3, .inl sf32) (List.mem_of_getElem? (i := 3) rfl)) (z3 (3, ([(2, 1)], 0)) (List.mem_of_getElem? (i := 2) rfl)) (show (1 * kk + 0) + 0 = kk from by omega)
      have o6 : zJ lo' 6 1 := zJ_of (p2 (6, .inr (.inr sf64)) (List.mem_of_getElem? (i := 4) rfl)) (z3 (6, ([], 1)) (List.mem_of_getElem? (i := 3) rfl)) (show 0 + 1 = 1 from by omega)
      have p1 : _ = [] := p1
      subst p1
      exact hE0 lo' h' hi' hm c0 c1 c2 o0 o1 o2 o3 o6
    rcases List.mem_cons.mp he with rfl | he
    · obtain ⟨p1, p2, -, hz⟩ := hp
      obtain ⟨⟨z1, z2, z3, z4⟩, z5, z6⟩ := hz
      have c0 : 0 ≤ va := by have q_ : (0 : Int) ≤ (1 * va + 0) + 0 := z4 ([(5, 1)], 0) (List.mem_of_getElem? (i := 0) rfl); omega
      have c1 : 0 ≤ vb := by have q_ : (0 : Int) ≤ (1 * vb + 0) + 0 := z4 ([(6, 1)], 0) (List.mem_of_getElem? (i := 1) rfl); omega
      have c2 : 0 ≤ -va + vb - 1 := by have q_ : (0 : Int) ≤ ((-1) * va + (1 * vb + 0)) + (-1) := z4 ([(5, (-1)), (6, 1)], (-1)) (List.mem_of_getElem? (i := 2) rfl); omega
      have o0 : zget lo' 0 = some (.ref (17 * t + 20)) := locR (p2 (0, .inr (.inl (17 * t + 20))) (List.mem_of_getElem? (i := 0) rfl))
      have o1 : zI lo' 1 la := zI_of (p2 (1, .inl sf32) (List.mem_of_getElem? (i := 1) rfl)) (z3 (1, ([(0, 1)], 0)) (List.mem_of_getElem? (i := 0) rfl)) (show (1 * la + 0) + 0 = la from by omega)
      have o2 : zI lo' 2 (hh - 2) := zI_of (p2 (2, .inl sf32) (List.mem_of_getElem? (i := 2) rfl)) (z3 (2, ([(1, 1)], (-2))) (List.mem_of_getElem? (i := 1) rfl)) (show (1 * hh + 0) + (-2) = hh - 2 from by omega)
      have o3 : zI lo' 3 kk := zI_of (p2 (3, .inl sf32) (List.mem_of_getElem? (i := 3) rfl)) (z3 (3, ([(2, 1)], 0)) (List.mem_of_getElem? (i := 2) rfl)) (show (1 * kk + 0) + 0 = kk from by omega)
      have o6 : zJ lo' 6 0 := zJ_of (p2 (6, .inr (.inr sf64)) (List.mem_of_getElem? (i := 4) rfl)) (z3 (6, ([], 0)) (List.mem_of_getElem? (i := 3) rfl)) (show 0 + 0 = 0 from by omega)
      have p1 : _ = [] := p1
      subst p1
      exact hE1 lo' h' hi' hm c0 c1 c2 o0 o1 o2 o3 o6
    rcases List.mem_cons.mp he with rfl | he
    · obtain ⟨p1, p2, -, hz⟩ := hp
      obtain ⟨⟨z1, z2, z3, z4⟩, z5, z6⟩ := hz
      have c0 : 0 ≤ va := by have q_ : (0 : Int) ≤ (1 * va + 0) + 0 := z4 ([(5, 1)], 0) (List.mem_of_getElem? (i := 0) rfl); omega
      have c1 : 0 ≤ vb := by have q_ : (0 : Int) ≤ (1 * vb + 0) + 0 := z4 ([(6, 1)], 0) (List.mem_of_getElem? (i := 1) rfl); omega
      have c2 : 0 ≤ va - vb - 1 := by have q_ : (0 : Int) ≤ (1 * va + ((-1) * vb + 0)) + (-1) := z4 ([(5, 1), (6, (-1))], (-1)) (List.mem_of_getElem? (i := 2) rfl); omega
      have o0 : zget lo' 0 = some (.ref (17 * t + 20)) := locR (p2 (0, .inr (.inl (17 * t + 20))) (List.mem_of_getElem? (i := 0) rfl))
      have o1 : zI lo' 1 la := zI_of (p2 (1, .inl sf32) (List.mem_of_getElem? (i := 1) rfl)) (z3 (1, ([(0, 1)], 0)) (List.mem_of_getElem? (i := 0) rfl)) (show (1 * la + 0) + 0 = la from by omega)
      have o2 : zI lo' 2 (hh - 2) := zI_of (p2 (2, .inl sf32) (List.mem_of_getElem? (i := 2) rfl)) (z3 (2, ([(1, 1)], (-2))) (List.mem_of_getElem? (i := 1) rfl)) (show (1 * hh + 0) + (-2) = hh - 2 from by omega)
      have o3 : zI lo' 3 kk := zI_of (p2 (3, .inl sf32) (List.mem_of_getElem? (i := 3) rfl)) (z3 (3, ([(2, 1)], 0)) (List.mem_of_getElem? (i := 2) rfl)) (show (1 * kk + 0) + 0 = kk from by omega)
      have o6 : zJ lo' 6 0 := zJ_of (p2 (6, .inr (.inr sf64)) (List.mem_of_getElem? (i := 4) rfl)) (z3 (6, ([], 0)) (List.mem_of_getElem? (i := 3) rfl)) (show 0 + 0 = 0 from by omega)
      have p1 : _ = [] := p1
      subst p1
      exact hE2 lo' h' hi' hm c0 c1 c2 o0 o1 o2 o3 o6
    rcases List.mem_cons.mp he with rfl | he
    · obtain ⟨p1, p2, -, hz⟩ := hp
      obtain ⟨⟨z1, z2, z3, z4⟩, z5, z6⟩ := hz
      have c0 : 0 ≤ va := by have q_ : (0 : Int) ≤ (1 * va + 0) + 0 := z4 ([(5, 1)], 0) (List.mem_of_getElem? (i := 0) rfl); omega
      have c1 : 0 ≤ -vb - 1 := by have q_ : (0 : Int) ≤ ((-1) * vb + 0) + (-1) := z4 ([(6, (-1))], (-1)) (List.mem_of_getElem? (i := 1) rfl); omega
      have o0 : zget lo' 0 = some (.ref (17 * t + 20)) := locR (p2 (0, .inr (.inl (17 * t + 20))) (List.mem_of_getElem? (i := 0) rfl))
      have o1 : zI lo' 1 la := zI_of (p2 (1, .inl sf32) (List.mem_of_getElem? (i := 1) rfl)) (z3 (1, ([(0, 1)], 0)) (List.mem_of_getElem? (i := 0) rfl)) (show (1 * la + 0) + 0 = la from by omega)
      have o2 : zI lo' 2 (hh - 2) := zI_of (p2 (2, .inl sf32) (List.mem_of_getElem? (i := 2) rfl)) (z3 (2, ([(1, 1)], (-2))) (List.mem_of_getElem? (i := 1) rfl)) (show (1 * hh + 0) + (-2) = hh - 2 from by omega)
      have o3 : zI lo' 3 kk := zI_of (p2 (3, .inl sf32) (List.mem_of_getElem? (i := 3) rfl)) (z3 (3, ([(2, 1)], 0)) (List.mem_of_getElem? (i := 2) rfl)) (show (1 * kk + 0) + 0 = kk from by omega)
      have o6 : zJ lo' 6 0 := zJ_of (p2 (6, .inr (.inr sf64)) (List.mem_of_getElem? (i := 4) rfl)) (z3 (6, ([], 0)) (List.mem_of_getElem? (i := 3) rfl)) (show 0 + 0 = 0 from by omega)
      have p1 : _ = [] := p1
      subst p1
      exact hE3 lo' h' hi' hm c0 c1 o0 o1 o2 o3 o6
    rcases List.mem_cons.mp he with rfl | he
    · obtain ⟨p1, p2, -, hz⟩ := hp
      obtain ⟨⟨z1, z2, z3, z4⟩, z5, z6⟩ := hz
      have c0 : 0 ≤ -va - 1 := by have q_ : (0 : Int) ≤ ((-1) * va + 0) + (-1) := z4 ([(5, (-1))], (-1)) (List.mem_of_getElem? (i := 0) rfl); omega
      have c1 : 0 ≤ vb := by have q_ : (0 : Int) ≤ (1 * vb + 0) + 0 := z4 ([(6, 1)], 0) (List.mem_of_getElem? (i := 1) rfl); omega
      have o0 : zget lo' 0 = some (.ref (17 * t + 20)) := locR (p2 (0, .inr (.inl (17 * t + 20))) (List.mem_of_getElem? (i := 0) rfl))
      have o1 : zI lo' 1 la := zI_of (p2 (1, .inl sf32) (List.mem_of_getElem? (i := 1) rfl)) (z3 (1, ([(0, 1)], 0)) (List.mem_of_getElem? (i := 0) rfl)) (show (1 * la + 0) + 0 = la from by omega)
      have o2 : zI lo' 2 (hh - 2) := zI_of (p2 (2, .inl sf32) (List.mem_of_getElem? (i := 2) rfl)) (z3 (2, ([(1, 1)], (-2))) (List.mem_of_getElem? (i := 1) rfl)) (show (1 * hh + 0) + (-2) = hh - 2 from by omega)
      have o3 : zI lo' 3 kk := zI_of (p2 (3, .inl sf32) (List.mem_of_getElem? (i := 3) rfl)) (z3 (3, ([(2, 1)], 0)) (List.mem_of_getElem? (i := 2) rfl)) (show (1 * kk + 0) + 0 = kk from by omega)
      have o6 : zJ lo' 6 0 := zJ_of (p2 (6, .inr (.inr sf64)) (List.mem_of_getElem? (i := 4) rfl)) (z3 (6, ([], 0)) (List.mem_of_getElem? (i := 3) rfl)) (show 0 + 0 = 0 from by omega)
      have p1 : _ = [] := p1
      subst p1
      exact hE4 lo' h' hi' hm c0 c1 o0 o1 o2 o3 o6
    rcases List.mem_cons.mp he with rfl | he
    · obtain ⟨p1, p2, -, hz⟩ := hp
      obtain ⟨⟨z1, z2, z3, z4⟩, z5, z6⟩ := hz
      have c0 : 0 ≤ -va - 1 := by have q_ : (0 : Int) ≤ ((-1) * va + 0) + (-1) := z4 ([(5, (-1))], (-1)) (List.mem_of_getElem? (i := 0) rfl); omega
      have c1 : 0 ≤ -vb - 1 := by have q_ : (0 : Int) ≤ ((-1) * vb + 0) + (-1) := z4 ([(6, (-1))], (-1)) (List.mem_of_getElem? (i := 1) rfl); omega
      have c2 : va = vb := by have q_ : (0 : Int) ≤ (1 * va + ((-1) * vb + 0)) + 0 := z4 ([(5, 1), (6, (-1))], 0) (List.mem_of_getElem? (i := 2) rfl); have q2_ : (0 : Int) ≤ ((-1) * va + (1 * vb + 0)) + 0 := z4 ([(5, (-1)), (6, 1)], 0) (List.mem_of_getElem? (i := 3) rfl); omega
      have o0 : zget lo' 0 = some (.ref (17 * t + 20)) := locR (p2 (0, .inr (.inl (17 * t + 20))) (List.mem_of_getElem? (i := 0) rfl))
      have o1 : zI lo' 1 la := zI_of (p2 (1, .inl sf32) (List.mem_of_getElem? (i := 1) rfl)) (z3 (1, ([(0, 1)], 0)) (List.mem_of_getElem? (i := 0) rfl)) (show (1 * la + 0) + 0 = la from by omega)
      have o2 : zI lo' 2 (hh - 2) := zI_of (p2 (2, .inl sf32) (List.mem_of_getElem? (i := 2) rfl)) (z3 (2, ([(1, 1)], (-2))) (List.mem_of_getElem? (i := 1) rfl)) (show (1 * hh + 0) + (-2) = hh - 2 from by omega)
      have o3 : zI lo' 3 kk := zI_of (p2 (3, .inl sf32) (List.mem_of_getElem? (i := 3) rfl)) (z3 (3, ([(2, 1)], 0)) (List.mem_of_getElem? (i := 2) rfl)) (show (1 * kk + 0) + 0 = kk from by omega)
      have o6 : zJ lo' 6 1 := zJ_of (p2 (6, .inr (.inr sf64)) (List.mem_of_getElem? (i := 4) rfl)) (z3 (6, ([], 1)) (List.mem_of_getElem? (i := 3) rfl)) (show 0 + 1 = 1 from by omega)
      have p1 : _ = [] := p1
      subst p1
      exact hE5 lo' h' hi' hm c0 c1 c2 o0 o1 o2 o3 o6
    rcases List.mem_cons.mp he with rfl | he
    · obtain ⟨p1, p2, -, hz⟩ := hp
      obtain ⟨⟨z1, z2, z3, z4⟩, z5, z6⟩ := hz
      have c0 : 0 ≤ -va - 1 := by have q_ : (0 : Int) ≤ ((-1) * va + 0) + (-1) := z4 ([(5, (-1))], (-1)) (List.mem_of_getElem? (i := 0) rfl); omega
      have c1 : 0 ≤ -vb - 1 := by have q_ : (0 : Int) ≤ ((-1) * vb + 0) + (-1) := z4 ([(6, (-1))], (-1)) (List.mem_of_getElem? (i := 1) rfl); omega
      have c2 : 0 ≤ -va + vb - 1 := by have q_ : (0 : Int) ≤ ((-1) * va + (1 * vb + 0)) + (-1) := z4 ([(5, (-1)), (6, 1)], (-1)) (List.mem_of_getElem? (i := 2) rfl); omega
      have o0 : zget lo' 0 = some (.ref (17 * t + 20)) := locR (p2 (0, .inr (.inl (17 * t + 20))) (List.mem_of_getElem? (i := 0) rfl))
      have o1 : zI lo' 1 la := zI_of (p2 (1, .inl sf32) (List.mem_of_getElem? (i := 1) rfl)) (z3 (1, ([(0, 1)], 0)) (List.mem_of_getElem? (i := 0) rfl)) (show (1 * la + 0) + 0 = la from by omega)
      have o2 : zI lo' 2 (hh - 2) := zI_of (p2 (2, .inl sf32) (List.mem_of_getElem? (i := 2) rfl)) (z3 (2, ([(1, 1)], (-2))) (List.mem_of_getElem? (i := 1) rfl)) (show (1 * hh + 0) + (-2) = hh - 2 from by omega)
      have o3 : zI lo' 3 kk := zI_of (p2 (3, .inl sf32) (List.mem_of_getElem? (i := 3) rfl)) (z3 (3, ([(2, 1)], 0)) (List.mem_of_getElem? (i := 2) rfl)) (show (1 * kk + 0) + 0 = kk from by omega)
      have o6 : zJ lo' 6 0 := zJ_of (p2 (6, .inr (.inr sf64)) (List.mem_of_getElem? (i := 4) rfl)) (z3 (6, ([], 0)) (List.mem_of_getElem? (i := 3) rfl)) (show 0 + 0 = 0 from by omega)
      have p1 : _ = [] := p1
      subst p1
      exact hE6 lo' h' hi' hm c0 c1 c2 o0 o1 o2 o3 o6
    rcases List.mem_cons.mp he with rfl | he
    · obtain ⟨p1, p2, -, hz⟩ := hp
      obtain ⟨⟨z1, z2, z3, z4⟩, z5, z6⟩ := hz
      have c0 : 0 ≤ -va - 1 := by have q_ : (0 : Int) ≤ ((-1) * va + 0) + (-1) := z4 ([(5, (-1))], (-1)) (List.mem_of_getElem? (i := 0) rfl); omega
      have c1 : 0 ≤ -vb - 1 := by have q_ : (0 : Int) ≤ ((-1) * vb + 0) + (-1) := z4 ([(6, (-1))], (-1)) (List.mem_of_getElem? (i := 1) rfl); omega
      have c2 : 0 ≤ va - vb - 1 := by have q_ : (0 : Int) ≤ (1 * va + ((-1) * vb + 0)) + (-1) := z4 ([(5, 1), (6, (-1))], (-1)) (List.mem_of_getElem? (i := 2) rfl); omega
      have o0 : zget lo' 0 = some (.ref (17 * t + 20)) := locR (p2 (0, .inr (.inl (17 * t + 20))) (List.mem_of_getElem? (i := 0) rfl))
      have o1 : zI lo' 1 la := zI_of (p2 (1, .inl sf32) (List.mem_of_getElem? (i := 1) rfl)) (z3 (1, ([(0, 1)], 0)) (List.mem_of_getElem? (i := 0) rfl)) (show (1 * la + 0) + 0 = la from by omega)
      have o2 : zI lo' 2 (hh - 2) := zI_of (p2 (2, .inl sf32) (List.mem_of_getElem? (i := 2) rfl)) (z3 (2, ([(1, 1)], (-2))) (List.mem_of_getElem? (i := 1) rfl)) (show (1 * hh + 0) + (-2) = hh - 2 from by omega)
      have o3 : zI lo' 3 kk := zI_of (p2 (3, .inl sf32) (List.mem_of_getElem? (i := 3) rfl)) (z3 (3, ([(2, 1)], 0)) (List.mem_of_getElem? (i := 2) rfl)) (show (1 * kk + 0) + 0 = kk from by omega)
      have o6 : zJ lo' 6 0 := zJ_of (p2 (6, .inr (.inr sf64)) (List.mem_of_getElem? (i := 4) rfl)) (z3 (6, ([], 0)) (List.mem_of_getElem? (i := 3) rfl)) (show 0 + 0 = 0 from by omega)
      have p1 : _ = [] := p1
      subst p1
      exact hE7 lo' h' hi' hm c0 c1 c2 o0 o1 o2 o3 o6
    cases he
  · intro e he r' h' hp hi' hm
    cases he
def evNe_L (t : Nat) : List (Nat × sT) := [(0, .inr (.inl (17 * t + 20))), (1, .inl (0, 2)), (2, .inl (2, 64)), (3, .inl (0, 63))]
def evNe_S (t : Nat) : List sT := []
def evNe_A (t : Nat) : sAs := ([], [], [], [])
def evNe_P (t : Nat) : List sP0 := [((17 * t + 23), (some 0, 0), (0, 64)), ((17 * t + 21), (some 2, 0), ((-38), (-38)))]
def evNe_G (t : Nat) : List sP0 := [((17 * t + 25), (some 1, (-2)), ((-1000000000000), 1000000000000)), ((17 * t + 25), (some 1, (-1)), ((-1000000000000), 1000000000000))]
def evNe_B (t : Nat) : List (Nat × Nat × Int) := [(3, 2, 1)]
def evNe_m (t : Nat) : sM := []
def evNe_e0 (t : Nat) : sXe := (166, [], [(0, .inr (.inl (17 * t + 20))), (1, .inl sf32), (2, .inl sf32), (3, .inl sf32), (6, .inr (.inr sf64))], sA0, [], ([], [], [(1, ([(0, 1)], 0)), (2, ([(1, 1)], (-2))), (3, ([(2, 1)], 0)), (6, ([], 0))], [([(5, 1)], 0), ([(6, 1)], 0), ([(5, 1), (6, (-1))], 0), ([(5, (-1)), (6, 1)], 0)]), [], [])
def evNe_e1 (t : Nat) : sXe := (166, [], [(0, .inr (.inl (17 * t + 20))), (1, .inl sf32), (2, .inl sf32), (3, .inl sf32), (6, .inr (.inr sf64))], sA0, [], ([], [], [(1, ([(0, 1)], 0)), (2, ([(1, 1)], (-2))), (3, ([(2, 1)], 0)), (6, ([], 1))], [([(5, 1)], 0), ([(6, 1)], 0), ([(5, (-1)), (6, 1)], (-1))]), [], [])
def evNe_e2 (t : Nat) : sXe := (166, [], [(0, .inr (.inl (17 * t + 20))), (1, .inl sf32), (2, .inl sf32), (3, .inl sf32), (6, .inr (.inr sf64))], sA0, [], ([], [], [(1, ([(0, 1)], 0)), (2, ([(1, 1)], (-2))), (3, ([(2, 1)], 0)), (6, ([], 1))], [([(5, 1)], 0), ([(6, 1)], 0), ([(5, 1), (6, (-1))], (-1))]), [], [])
def evNe_e3 (t : Nat) : sXe := (166, [], [(0, .inr (.inl (17 * t + 20))), (1, .inl sf32), (2, .inl sf32), (3, .inl sf32), (6, .inr (.inr sf64))], sA0, [], ([], [], [(1, ([(0, 1)], 0)), (2, ([(1, 1)], (-2))), (3, ([(2, 1)], 0)), (6, ([], 1))], [([(5, 1)], 0), ([(6, (-1))], (-1))]), [], [])
def evNe_e4 (t : Nat) : sXe := (166, [], [(0, .inr (.inl (17 * t + 20))), (1, .inl sf32), (2, .inl sf32), (3, .inl sf32), (6, .inr (.inr sf64))], sA0, [], ([], [], [(1, ([(0, 1)], 0)), (2, ([(1, 1)], (-2))), (3, ([(2, 1)], 0)), (6, ([], 1))], [([(5, (-1))], (-1)), ([(6, 1)], 0)]), [], [])
def evNe_e5 (t : Nat) : sXe := (166, [], [(0, .inr (.inl (17 * t + 20))), (1, .inl sf32), (2, .inl sf32), (3, .inl sf32), (6, .inr (.inr sf64))], sA0, [], ([], [], [(1, ([(0, 1)], 0)), (2, ([(1, 1)], (-2))), (3, ([(2, 1)], 0)), (6, ([], 0))], [([(5, (-1))], (-1)), ([(6, (-1))], (-1)), ([(5, 1), (6, (-1))], 0), ([(5, (-1)), (6, 1)], 0)]), [], [])
def evNe_e6 (t : Nat) : sXe := (166, [], [(0, .inr (.inl (17 * t + 20))), (1, .inl sf32), (2, .inl sf32), (3, .inl sf32), (6, .inr (.inr sf64))], sA0, [], ([], [], [(1, ([(0, 1)], 0)), (2, ([(1, 1)], (-2))), (3, ([(2, 1)], 0)), (6, ([], 1))], [([(5, (-1))], (-1)), ([(6, (-1))], (-1)), ([(5, (-1)), (6, 1)], (-1))]), [], [])
def evNe_e7 (t : Nat) : sXe := (166, [], [(0, .inr (.inl (17 * t + 20))), (1, .inl sf32), (2, .inl sf32), (3, .inl sf32), (6, .inr (.inr sf64))], sA0, [], ([], [], [(1, ([(0, 1)], 0)), (2, ([(1, 1)], (-2))), (3, ([(2, 1)], 0)), (6, ([], 1))], [([(5, (-1))], (-1)), ([(6, (-1))], (-1)), ([(5, 1), (6, (-1))], (-1))]), [], [])
theorem evNe_b : ((List.range 2).all fun t => syeB swC sT0 (evNe_m t) 400 1 89 (evNe_L t) (evNe_S t) (evNe_A t) (evNe_P t) (evNe_G t) (evNe_B t) 21 [evNe_e0 t, evNe_e1 t, evNe_e2 t, evNe_e3 t, evNe_e4 t, evNe_e5 t, evNe_e6 t, evNe_e7 t] []) = true := by decide +kernel
theorem evNe {l : Launch} {Γ : zG} {d : Nat} (hd : 1 ≤ d) {Kp : Option Value → zH → Prop} {lo : zL} {h : zH} {t : Nat} (h_t : t < 2) {la hh kk tt va vb : Int} (hi : sInv swC h) (b_la : 0 ≤ la ∧ la ≤ 2) (b_hh : 2 ≤ hh ∧ hh ≤ 64) (b_kk : 0 ≤ kk ∧ kk ≤ 63) (b_tt : 0 ≤ tt ∧ tt ≤ 64) (b_va : (-1000000000000) ≤ va ∧ va ≤ 1000000000000) (b_vb : (-1000000000000) ≤ vb ∧ vb ≤ 1000000000000) (l0 : zget lo 0 = some (.ref (17 * t + 20))) (l1 : zI lo 1 la) (l2 : zI lo 2 hh) (l3 : zI lo 3 kk) (p_tt : pI h (17 * t + 23) (la + 0).toNat = tt) (p_kn : pI h (17 * t + 21) (kk + 0).toNat = (-38)) (p_va : pL h (17 * t + 25) (hh + (-2)).toNat = va) (p_vb : pL h (17 * t + 25) (hh + (-1)).toNat = vb) (d0 : 1 ≤ tt - kk)
    (hE0 : ∀ (lo' : zL) (h' : zH), sInv swC h' → sMd (evNe_m t) h h' → 0 ≤ va → 0 ≤ vb → va = vb → zget lo' 0 = some (.ref (17 * t + 20)) → zI lo' 1 la → zI lo' 2 (hh - 2) → zI lo' 3 kk → zJ lo' 6 0 → zX l Γ false (d + 1) (zhd 89) (zMQ' Γ false (zhd 89) Kp) 0 0 166 lo' [] h')
    (hE1 : ∀ (lo' : zL) (h' : zH), sInv swC h' → sMd (evNe_m t) h h' → 0 ≤ va → 0 ≤ vb → 0 ≤ -va + vb - 1 → zget lo' 0 = some (.ref (17 * t + 20)) → zI lo' 1 la → zI lo' 2 (hh - 2) → zI lo' 3 kk → zJ lo' 6 1 → zX l Γ false (d + 1) (zhd 89) (zMQ' Γ false (zhd 89) Kp) 0 0 166 lo' [] h')
    (hE2 : ∀ (lo' : zL) (h' : zH), sInv swC h' → sMd (evNe_m t) h h' → 0 ≤ va → 0 ≤ vb → 0 ≤ va - vb - 1 → zget lo' 0 = some (.ref (17 * t + 20)) → zI lo' 1 la → zI lo' 2 (hh - 2) → zI lo' 3 kk → zJ lo' 6 1 → zX l Γ false (d + 1) (zhd 89) (zMQ' Γ false (zhd 89) Kp) 0 0 166 lo' [] h')
    (hE3 : ∀ (lo' : zL) (h' : zH), sInv swC h' → sMd (evNe_m t) h h' → 0 ≤ va → 0 ≤ -vb - 1 → zget lo' 0 = some (.ref (17 * t + 20)) → zI lo' 1 la → zI lo' 2 (hh - 2) → zI lo' 3 kk → zJ lo' 6 1 → zX l Γ false (d + 1) (zhd 89) (zMQ' Γ false (zhd 89) Kp) 0 0 166 lo' [] h')
    (hE4 : ∀ (lo' : zL) (h' : zH), sInv swC h' → sMd (evNe_m t) h h' → 0 ≤ -va - 1 → 0 ≤ vb → zget lo' 0 = some (.ref (17 * t + 20)) → zI lo' 1 la → zI lo' 2 (hh - 2) → zI lo' 3 kk → zJ lo' 6 1 → zX l Γ false (d + 1) (zhd 89) (zMQ' Γ false (zhd 89) Kp) 0 0 166 lo' [] h')
    (hE5 : ∀ (lo' : zL) (h' : zH), sInv swC h' → sMd (evNe_m t) h h' → 0 ≤ -va - 1 → 0 ≤ -vb - 1 → va = vb → zget lo' 0 = some (.ref (17 * t + 20)) → zI lo' 1 la → zI lo' 2 (hh - 2) → zI lo' 3 kk → zJ lo' 6 0 → zX l Γ false (d + 1) (zhd 89) (zMQ' Γ false (zhd 89) Kp) 0 0 166 lo' [] h')
    (hE6 : ∀ (lo' : zL) (h' : zH), sInv swC h' → sMd (evNe_m t) h h' → 0 ≤ -va - 1 → 0 ≤ -vb - 1 → 0 ≤ -va + vb - 1 → zget lo' 0 = some (.ref (17 * t + 20)) → zI lo' 1 la → zI lo' 2 (hh - 2) → zI lo' 3 kk → zJ lo' 6 1 → zX l Γ false (d + 1) (zhd 89) (zMQ' Γ false (zhd 89) Kp) 0 0 166 lo' [] h')
    (hE7 : ∀ (lo' : zL) (h' : zH), sInv swC h' → sMd (evNe_m t) h h' → 0 ≤ -va - 1 → 0 ≤ -vb - 1 → 0 ≤ va - vb - 1 → zget lo' 0 = some (.ref (17 * t + 20)) → zI lo' 1 la → zI lo' 2 (hh - 2) → zI lo' 3 kk → zJ lo' 6 1 → zX l Γ false (d + 1) (zhd 89) (zMQ' Γ false (zhd 89) Kp) 0 0 166 lo' [] h') : zX l Γ false (d + 1) (zhd 89) (zMQ' Γ false (zhd 89) Kp) 0 0 21 lo [] h := by
  refine sye_ok (mi := 89) (pc := 21) (fun i => [la, hh, kk, tt, (-38), va, vb].getD i 0) (zall_r evNe_b h_t) (fun _ _ hc _ => nomatch hc) hd ⟨l0, zIm l1 (by show 0 ≤ la; omega) (by show la ≤ 2; omega), zIm l2 (by show 2 ≤ hh; omega) (by show hh ≤ 64; omega), zIm l3 (by show 0 ≤ kk; omega) (by show kk ≤ 63; omega), trivial⟩ rfl ⟨(fun _ hc => nomatch hc), (fun _ hc => nomatch hc), (fun _ hc => nomatch hc), Or.inl rfl⟩ ⟨⟨p_tt, by show 0 ≤ tt; omega, by show tt ≤ 64; omega⟩, ⟨p_kn, by show (-38) ≤ (-38); omega, by show (-38) ≤ (-38); omega⟩, trivial⟩ ⟨⟨p_va, by show (-1000000000000) ≤ va; omega, by show va ≤ 1000000000000; omega⟩, ⟨p_vb, by show (-1000000000000) ≤ vb; omega, by show vb ≤ 1000000000000; omega⟩, trivial⟩ (sfm d0 (fun _ hc => nomatch hc)) hi ?_ ?_
  · intro e he lo' st' h' hp hi' hm
    rcases List.mem_cons.mp he with rfl | he
    · obtain ⟨p1, p2, -, hz⟩ := hp
      obtain ⟨⟨z1, z2, z3, z4⟩, z5, z6⟩ := hz
      have c0 : 0 ≤ va := by have q_ : (0 : Int) ≤ (1 * va + 0) + 0 := z4 ([(5, 1)], 0) (List.mem_of_getElem? (i := 0) rfl); omega
      have c1 : 0 ≤ vb := by have q_ : (0 : Int) ≤ (1 * vb + 0) + 0 := z4 ([(6, 1)], 0) (List.mem_of_getElem? (i := 1) rfl); omega
      have c2 : va = vb := by have q_ : (0 : Int) ≤ (1 * va + ((-1) * vb + 0)) + 0 := z4 ([(5, 1), (6, (-1))], 0) (List.mem_of_getElem? (i := 2) rfl); have q2_ : (0 : Int) ≤ ((-1) * va + (1 * vb + 0)) + 0 := z4 ([(5, (-1)), (6, 1)], 0) (List.mem_of_getElem? (i := 3) rfl); omega
      have o0 : zget lo' 0 = some (.ref (17 * t + 20)) := locR (p2 (0, .inr (.inl (17 * t + 20))) (List.mem_of_getElem? (i := 0) rfl))
      have o1 : zI lo' 1 la := zI_of (p2 (1, .inl sf32) (List.mem_of_getElem? (i := 1) rfl)) (z3 (1, ([(0, 1)], 0)) (List.mem_of_getElem? (i := 0) rfl)) (show (1 * la + 0) + 0 = la from by omega)
      have o2 : zI lo' 2 (hh - 2) := zI_of (p2 (2, .inl sf32) (List.mem_of_getElem? (i := 2) rfl)) (z3 (2, ([(1, 1)], (-2))) (List.mem_of_getElem? (i := 1) rfl)) (show (1 * hh + 0) + (-2) = hh - 2 from by omega)
      have o3 : zI lo' 3 kk := zI_of (p2 (3, .inl sf32) (List.mem_of_getElem? (i := 3) rfl)) (z3 (3, ([(2, 1)], 0)) (List.mem_of_getElem? (i := 2) rfl)) (show (1 * kk + 0) + 0 = kk from by omega)
      have o6 : zJ lo' 6 0 := zJ_of (p2 (6, .inr (.inr sf64)) (List.mem_of_getElem? (i := 4) rfl)) (z3 (6, ([], 0)) (List.mem_of_getElem? (i := 3) rfl)) (show 0 + 0 = 0 from by omega)
      have p1 : _ = [] := p1
      subst p1
      exact hE0 lo' h' hi' hm c0 c1 c2 o0 o1 o2 o3 o6
    rcases List.mem_cons.mp he with rfl | he
    · obtain ⟨p1, p2, -, hz⟩ := hp
      obtain ⟨⟨z1, z2, z3, z4⟩, z5, z6⟩ := hz
      have c0 : 0 ≤ va := by have q_ : (0 : Int) ≤ (1 * va + 0) + 0 := z4 ([(5, 1)], 0) (List.mem_of_getElem? (i := 0) rfl); omega
      have c1 : 0 ≤ vb := by have q_ : (0 : Int) ≤ (1 * vb + 0) + 0 := z4 ([(6, 1)], 0) (List.mem_of_getElem? (i := 1) rfl); omega
      have c2 : 0 ≤ -va + vb - 1 := by have q_ : (0 : Int) ≤ ((-1) * va + (1 * vb + 0)) + (-1) := z4 ([(5, (-1)), (6, 1)], (-1)) (List.mem_of_getElem? (i := 2) rfl); omega
      have o0 : zget lo' 0 = some (.ref (17 * t + 20)) := locR (p2 (0, .inr (.inl (17 * t + 20))) (List.mem_of_getElem? (i := 0) rfl))
      have o1 : zI lo' 1 la := zI_of (p2 (1, .inl sf32) (List.mem_of_getElem? (i := 1) rfl)) (z3 (1, ([(0, 1)], 0)) (List.mem_of_getElem? (i := 0) rfl)) (show (1 * la + 0) + 0 = la from by omega)
      have o2 : zI lo' 2 (hh - 2) := zI_of (p2 (2, .inl sf32) (List.mem_of_getElem? (i := 2) rfl)) (z3 (2, ([(1, 1)], (-2))) (List.mem_of_getElem? (i := 1) rfl)) (show (1 * hh + 0) + (-2) = hh - 2 from by omega)
      have o3 : zI lo' 3 kk := zI_of (p2 (3, .inl sf32) (List.mem_of_getElem? (i := 3) rfl)) (z3 (3, ([(2, 1)], 0)) (List.mem_of_getElem? (i := 2) rfl)) (show (1 * kk + 0) + 0 = kk from by omega)
      have o6 : zJ lo' 6 1 := zJ_of (p2 (6, .inr (.inr sf64)) (List.mem_of_getElem? (i := 4) rfl)) (z3 (6, ([], 1)) (List.mem_of_getElem? (i := 3) rfl)) (show 0 + 1 = 1 from by omega)
      have p1 : _ = [] := p1
      subst p1
      exact hE1 lo' h' hi' hm c0 c1 c2 o0 o1 o2 o3 o6
    rcases List.mem_cons.mp he with rfl | he
    · obtain ⟨p1, p2, -, hz⟩ := hp
      obtain ⟨⟨z1, z2, z3, z4⟩, z5, z6⟩ := hz
      have c0 : 0 ≤ va := by have q_ : (0 : Int) ≤ (1 * va + 0) + 0 := z4 ([(5, 1)], 0) (List.mem_of_getElem? (i := 0) rfl); omega
      have c1 : 0 ≤ vb := by have q_ : (0 : Int) ≤ (1 * vb + 0) + 0 := z4 ([(6, 1)], 0) (List.mem_of_getElem? (i := 1) rfl); omega
      have c2 : 0 ≤ va - vb - 1 := by have q_ : (0 : Int) ≤ (1 * va + ((-1) * vb + 0)) + (-1) := z4 ([(5, 1), (6, (-1))], (-1)) (List.mem_of_getElem? (i := 2) rfl); omega
      have o0 : zget lo' 0 = some (.ref (17 * t + 20)) := locR (p2 (0, .inr (.inl (17 * t + 20))) (List.mem_of_getElem? (i := 0) rfl))
      have o1 : zI lo' 1 la := zI_of (p2 (1, .inl sf32) (List.mem_of_getElem? (i := 1) rfl)) (z3 (1, ([(0, 1)], 0)) (List.mem_of_getElem? (i := 0) rfl)) (show (1 * la + 0) + 0 = la from by omega)
      have o2 : zI lo' 2 (hh - 2) := zI_of (p2 (2, .inl sf32) (List.mem_of_getElem? (i := 2) rfl)) (z3 (2, ([(1, 1)], (-2))) (List.mem_of_getElem? (i := 1) rfl)) (show (1 * hh + 0) + (-2) = hh - 2 from by omega)
      have o3 : zI lo' 3 kk := zI_of (p2 (3, .inl sf32) (List.mem_of_getElem? (i := 3) rfl)) (z3 (3, ([(2, 1)], 0)) (List.mem_of_getElem? (i := 2) rfl)) (show (1 * kk + 0) + 0 = kk from by omega)
      have o6 : zJ lo' 6 1 := zJ_of (p2 (6, .inr (.inr sf64)) (List.mem_of_getElem? (i := 4) rfl)) (z3 (6, ([], 1)) (List.mem_of_getElem? (i := 3) rfl)) (show 0 + 1 = 1 from by omega)
      have p1 : _ = [] := p1
      subst p1
      exact hE2 lo' h' hi' hm c0 c1 c2 o0 o1 o2 o3 o6
    rcases List.mem_cons.mp he with rfl | he
    · obtain ⟨p1, p2, -, hz⟩ := hp
      obtain ⟨⟨z1, z2, z3, z4⟩, z5, z6⟩ := hz
      have c0 : 0 ≤ va := by have q_ : (0 : Int) ≤ (1 * va + 0) + 0 := z4 ([(5, 1)], 0) (List.mem_of_getElem? (i := 0) rfl); omega
      have c1 : 0 ≤ -vb - 1 := by have q_ : (0 : Int) ≤ ((-1) * vb + 0) + (-1) := z4 ([(6, (-1))], (-1)) (List.mem_of_getElem? (i := 1) rfl); omega
      have o0 : zget lo' 0 = some (.ref (17 * t + 20)) := locR (p2 (0, .inr (.inl (17 * t + 20))) (List.mem_of_getElem? (i := 0) rfl))
      have o1 : zI lo' 1 la := zI_of (p2 (1, .inl sf32) (List.mem_of_getElem? (i := 1) rfl)) (z3 (1, ([(0, 1)], 0)) (List.mem_of_getElem? (i := 0) rfl)) (show (1 * la + 0) + 0 = la from by omega)
      have o2 : zI lo' 2 (hh - 2) := zI_of (p2 (2, .inl sf32) (List.mem_of_getElem? (i := 2) rfl)) (z3 (2, ([(1, 1)], (-2))) (List.mem_of_getElem? (i := 1) rfl)) (show (1 * hh + 0) + (-2) = hh - 2 from by omega)
      have o3 : zI lo' 3 kk := zI_of (p2 (3, .inl sf32) (List.mem_of_getElem? (i := 3) rfl)) (z3 (3, ([(2, 1)], 0)) (List.mem_of_getElem? (i := 2) rfl)) (show (1 * kk + 0) + 0 = kk from by omega)
      have o6 : zJ lo' 6 1 := zJ_of (p2 (6, .inr (.inr sf64)) (List.mem_of_getElem? (i := 4) rfl)) (z3 (6, ([], 1)) (List.mem_of_getElem? (i := 3) rfl)) (show 0 + 1 = 1 from by omega)
      have p1 : _ = [] := p1
      subst p1
      exact hE3 lo' h' hi' hm c0 c1 o0 o1 o2 o3 o6
    rcases List.mem_cons.mp he with rfl | he
    · obtain ⟨p1, p2, -, hz⟩ := hp
      obtain ⟨⟨z1, z2, z3, z4⟩, z5, z6⟩ := hz
      have c0 : 0 ≤ -va - 1 := by have q_ : (0 : Int) ≤ ((-1) * va + 0) + (-1) := z4 ([(5, (-1))], (-1)) (List.mem_of_getElem? (i := 0) rfl); omega
      have c1 : 0 ≤ vb := by have q_ : (0 : Int) ≤ (1 * vb + 0) + 0 := z4 ([(6, 1)], 0) (List.mem_of_getElem? (i := 1) rfl); omega
      have o0 : zget lo' 0 = some (.ref (17 * t + 20)) := locR (p2 (0, .inr (.inl (17 * t + 20))) (List.mem_of_getElem? (i := 0) rfl))
      have o1 : zI lo' 1 la := zI_of (p2 (1, .inl sf32) (List.mem_of_getElem? (i := 1) rfl)) (z3 (1, ([(0, 1)], 0)) (List.mem_of_getElem? (i := 0) rfl)) (show (1 * la + 0) + 0 = la from by omega)
      have o2 : zI lo' 2 (hh - 2) := zI_of (p2 (2, .inl sf32) (List.mem_of_getElem? (i := 2) rfl)) (z3 (2, ([(1, 1)], (-2))) (List.mem_of_getElem? (i := 1) rfl)) (show (1 * hh + 0) + (-2) = hh - 2 from by omega)
      have o3 : zI lo' 3 kk := zI_of (p2 (3, .inl sf32) (List.mem_of_getElem? (i := 3) rfl)) (z3 (3, ([(2, 1)], 0)) (List.mem_of_getElem? (i := 2) rfl)) (show (1 * kk + 0) + 0 = kk from by omega)
      have o6 : zJ lo' 6 1 := zJ_of (p2 (6, .inr (.inr sf64)) (List.mem_of_getElem? (i := 4) rfl)) (z3 (6, ([], 1)) (List.mem_of_getElem? (i := 3) rfl)) (show 0 + 1 = 1 from by omega)
      have p1 : _ = [] := p1
      subst p1
      exact hE4 lo' h' hi' hm c0 c1 o0 o1 o2 o3 o6
    rcases List.mem_cons.mp he with rfl | he
    · obtain ⟨p1, p2, -, hz⟩ := hp
      obtain ⟨⟨z1, z2, z3, z4⟩, z5, z6⟩ := hz
      have c0 : 0 ≤ -va - 1 := by have q_ : (0 : Int) ≤ ((-1) * va + 0) + (-1) := z4 ([(5, (-1))], (-1)) (List.mem_of_getElem? (i := 0) rfl); omega
      have c1 : 0 ≤ -vb - 1 := by have q_ : (0 : Int) ≤ ((-1) * vb + 0) + (-1) := z4 ([(6, (-1))], (-1)) (List.mem_of_getElem? (i := 1) rfl); omega
      have c2 : va = vb := by have q_ : (0 : Int) ≤ (1 * va + ((-1) * vb + 0)) + 0 := z4 ([(5, 1), (6, (-1))], 0) (List.mem_of_getElem? (i := 2) rfl); have q2_ : (0 : Int) ≤ ((-1) * va + (1 * vb + 0)) + 0 := z4 ([(5, (-1)), (6, 1)], 0) (List.mem_of_getElem? (i := 3) rfl); omega
      have o0 : zget lo' 0 = some (.ref (17 * t + 20)) := locR (p2 (0, .inr (.inl (17 * t + 20))) (List.mem_of_getElem? (i := 0) rfl))
      have o1 : zI lo' 1 la := zI_of (p2 (1, .inl sf32) (List.mem_of_getElem? (i := 1) rfl)) (z3 (1, ([(0, 1)], 0)) (List.mem_of_getElem? (i := 0) rfl)) (show (1 * la + 0) + 0 = la from by omega)
      have o2 : zI lo' 2 (hh - 2) := zI_of (p2 (2, .inl sf32) (List.mem_of_getElem? (i := 2) rfl)) (z3 (2, ([(1, 1)], (-2))) (List.mem_of_getElem? (i := 1) rfl)) (show (1 * hh + 0) + (-2) = hh - 2 from by omega)
      have o3 : zI lo' 3 kk := zI_of (p2 (3, .inl sf32) (List.mem_of_getElem? (i := 3) rfl)) (z3 (3, ([(2, 1)], 0)) (List.mem_of_getElem? (i := 2) rfl)) (show (1 * kk + 0) + 0 = kk from by omega)
      have o6 : zJ lo' 6 0 := zJ_of (p2 (6, .inr (.inr sf64)) (List.mem_of_getElem? (i := 4) rfl)) (z3 (6, ([], 0)) (List.mem_of_getElem? (i := 3) rfl)) (show 0 + 0 = 0 from by omega)
      have p1 : _ = [] := p1
      subst p1
      exact hE5 lo' h' hi' hm c0 c1 c2 o0 o1 o2 o3 o6
    rcases List.mem_cons.mp he with rfl | he
    · obtain ⟨p1, p2, -, hz⟩ := hp
      obtain ⟨⟨z1, z2, z3, z4⟩, z5, z6⟩ := hz
      have c0 : 0 ≤ -va - 1 := by have q_ : (0 : Int) ≤ ((-1) * va + 0) + (-1) := z4 ([(5, (-1))], (-1)) (List.mem_of_getElem? (i := 0) rfl); omega
      have c1 : 0 ≤ -vb - 1 := by have q_ : (0 : Int) ≤ ((-1) * vb + 0) + (-1) := z4 ([(6, (-1))], (-1)) (List.mem_of_getElem? (i := 1) rfl); omega
      have c2 : 0 ≤ -va + vb - 1 := by have q_ : (0 : Int) ≤ ((-1) * va + (1 * vb + 0)) + (-1) := z4 ([(5, (-1)), (6, 1)], (-1)) (List.mem_of_getElem? (i := 2) rfl); omega
      have o0 : zget lo' 0 = some (.ref (17 * t + 20)) := locR (p2 (0, .inr (.inl (17 * t + 20))) (List.mem_of_getElem? (i := 0) rfl))
      have o1 : zI lo' 1 la := zI_of (p2 (1, .inl sf32) (List.mem_of_getElem? (i := 1) rfl)) (z3 (1, ([(0, 1)], 0)) (List.mem_of_getElem? (i := 0) rfl)) (show (1 * la + 0) + 0 = la from by omega)
      have o2 : zI lo' 2 (hh - 2) := zI_of (p2 (2, .inl sf32) (List.mem_of_getElem? (i := 2) rfl)) (z3 (2, ([(1, 1)], (-2))) (List.mem_of_getElem? (i := 1) rfl)) (show (1 * hh + 0) + (-2) = hh - 2 from by omega)
      have o3 : zI lo' 3 kk := zI_of (p2 (3, .inl sf32) (List.mem_of_getElem? (i := 3) rfl)) (z3 (3, ([(2, 1)], 0)) (List.mem_of_getElem? (i := 2) rfl)) (show (1 * kk + 0) + 0 = kk from by omega)
      have o6 : zJ lo' 6 1 := zJ_of (p2 (6, .inr (.inr sf64)) (List.mem_of_getElem? (i := 4) rfl)) (z3 (6, ([], 1)) (List.mem_of_getElem? (i := 3) rfl)) (show 0 + 1 = 1 from by omega)
      have p1 : _ = [] := p1
      subst p1
      exact hE6 lo' h' hi' hm c0 c1 c2 o0 o1 o2 o3 o6
    rcases List.mem_cons.mp he with rfl | he
    · obtain ⟨p1, p2, -, hz⟩ := hp
      obtain ⟨⟨z1, z2, z3, z4⟩, z5, z6⟩ := hz
      have c0 : 0 ≤ -va - 1 := by have q_ : (0 : Int) ≤ ((-1) * va + 0) + (-1) := z4 ([(5, (-1))], (-1)) (List.mem_of_getElem? (i := 0) rfl); omega
      have c1 : 0 ≤ -vb - 1 := by have q_ : (0 : Int) ≤ ((-1) * vb + 0) + (-1) := z4 ([(6, (-1))], (-1)) (List.mem_of_getElem? (i := 1) rfl); omega
      have c2 : 0 ≤ va - vb - 1 := by have q_ : (0 : Int) ≤ (1 * va + ((-1) * vb + 0)) + (-1) := z4 ([(5, 1), (6, (-1))], (-1)) (List.mem_of_getElem? (i := 2) rfl); omega
      have o0 : zget lo' 0 = some (.ref (17 * t + 20)) := locR (p2 (0, .inr (.inl (17 * t + 20))) (List.mem_of_getElem? (i := 0) rfl))
      have o1 : zI lo' 1 la := zI_of (p2 (1, .inl sf32) (List.mem_of_getElem? (i := 1) rfl)) (z3 (1, ([(0, 1)], 0)) (List.mem_of_getElem? (i := 0) rfl)) (show (1 * la + 0) + 0 = la from by omega)
      have o2 : zI lo' 2 (hh - 2) := zI_of (p2 (2, .inl sf32) (List.mem_of_getElem? (i := 2) rfl)) (z3 (2, ([(1, 1)], (-2))) (List.mem_of_getElem? (i := 1) rfl)) (show (1 * hh + 0) + (-2) = hh - 2 from by omega)
      have o3 : zI lo' 3 kk := zI_of (p2 (3, .inl sf32) (List.mem_of_getElem? (i := 3) rfl)) (z3 (3, ([(2, 1)], 0)) (List.mem_of_getElem? (i := 2) rfl)) (show (1 * kk + 0) + 0 = kk from by omega)
      have o6 : zJ lo' 6 1 := zJ_of (p2 (6, .inr (.inr sf64)) (List.mem_of_getElem? (i := 4) rfl)) (z3 (6, ([], 1)) (List.mem_of_getElem? (i := 3) rfl)) (show 0 + 1 = 1 from by omega)
      have p1 : _ = [] := p1
      subst p1
      exact hE7 lo' h' hi' hm c0 c1 c2 o0 o1 o2 o3 o6
    cases he
  · intro e he r' h' hp hi' hm
    cases he
def evGe_L (t : Nat) : List (Nat × sT) := [(0, .inr (.inl (17 * t + 20))), (1, .inl (0, 2)), (2, .inl (2, 64)), (3, .inl (0, 63))]
def evGe_S (t : Nat) : List sT := []
def evGe_A (t : Nat) : sAs := ([], [], [], [])
def evGe_P (t : Nat) : List sP0 := [((17 * t + 23), (some 0, 0), (0, 64)), ((17 * t + 21), (some 2, 0), ((-39), (-39)))]
def evGe_G (t : Nat) : List sP0 := [((17 * t + 25), (some 1, (-2)), ((-1000000000000), 1000000000000)), ((17 * t + 25), (some 1, (-1)), ((-1000000000000), 1000000000000))]
def evGe_B (t : Nat) : List (Nat × Nat × Int) := [(3, 2, 1)]
def evGe_m (t : Nat) : sM := []
def evGe_e0 (t : Nat) : sXe := (166, [], [(0, .inr (.inl (17 * t + 20))), (1, .inl sf32), (2, .inl sf32), (3, .inl sf32), (6, .inr (.inr sf64))], sA0, [], ([], [], [(1, ([(0, 1)], 0)), (2, ([(1, 1)], (-2))), (3, ([(2, 1)], 0)), (6, ([], 0))], [([(5, 1)], 0), ([(6, 1)], 0), ([(5, (-1)), (6, 1)], (-1))]), [], [])
def evGe_e1 (t : Nat) : sXe := (166, [], [(0, .inr (.inl (17 * t + 20))), (1, .inl sf32), (2, .inl sf32), (3, .inl sf32), (6, .inr (.inr sf64))], sA0, [], ([], [], [(1, ([(0, 1)], 0)), (2, ([(1, 1)], (-2))), (3, ([(2, 1)], 0)), (6, ([], 1))], [([(5, 1)], 0), ([(6, 1)], 0), ([(5, 1), (6, (-1))], 0)]), [], [])
def evGe_e2 (t : Nat) : sXe := (166, [], [(0, .inr (.inl (17 * t + 20))), (1, .inl sf32), (2, .inl sf32), (3, .inl sf32), (6, .inr (.inr sf64))], sA0, [], ([], [], [(1, ([(0, 1)], 0)), (2, ([(1, 1)], (-2))), (3, ([(2, 1)], 0)), (6, ([], 1))], [([(5, 1)], 0), ([(6, (-1))], (-1))]), [], [])
def evGe_e3 (t : Nat) : sXe := (166, [], [(0, .inr (.inl (17 * t + 20))), (1, .inl sf32), (2, .inl sf32), (3, .inl sf32), (6, .inr (.inr sf64))], sA0, [], ([], [], [(1, ([(0, 1)], 0)), (2, ([(1, 1)], (-2))), (3, ([(2, 1)], 0)), (6, ([], 0))], [([(5, (-1))], (-1)), ([(6, 1)], 0)]), [], [])
def evGe_e4 (t : Nat) : sXe := (166, [], [(0, .inr (.inl (17 * t + 20))), (1, .inl sf32), (2, .inl sf32), (3, .inl sf32), (6, .inr (.inr sf64))], sA0, [], ([], [], [(1, ([(0, 1)], 0)), (2, ([(1, 1)], (-2))), (3, ([(2, 1)], 0)), (6, ([], 0))], [([(5, (-1))], (-1)), ([(6, (-1))], (-1)), ([(5, (-1)), (6, 1)], (-1))]), [], [])
def evGe_e5 (t : Nat) : sXe := (166, [], [(0, .inr (.inl (17 * t + 20))), (1, .inl sf32), (2, .inl sf32), (3, .inl sf32), (6, .inr (.inr sf64))], sA0, [], ([], [], [(1, ([(0, 1)], 0)), (2, ([(1, 1)], (-2))), (3, ([(2, 1)], 0)), (6, ([], 1))], [([(5, (-1))], (-1)), ([(6, (-1))], (-1)), ([(5, 1), (6, (-1))], 0)]), [], [])
theorem evGe_b : ((List.range 2).all fun t => syeB swC sT0 (evGe_m t) 400 1 89 (evGe_L t) (evGe_S t) (evGe_A t) (evGe_P t) (evGe_G t) (evGe_B t) 21 [evGe_e0 t, evGe_e1 t, evGe_e2 t, evGe_e3 t, evGe_e4 t, evGe_e5 t] []) = true := by decide +kernel
theorem evGe {l : Launch} {Γ : zG} {d : Nat} (hd : 1 ≤ d) {Kp : Option Value → zH → Prop} {lo : zL} {h : zH} {t : Nat} (h_t : t < 2) {la hh kk tt va vb : Int} (hi : sInv swC h) (b_la : 0 ≤ la ∧ la ≤ 2) (b_hh : 2 ≤ hh ∧ hh ≤ 64) (b_kk : 0 ≤ kk ∧ kk ≤ 63) (b_tt : 0 ≤ tt ∧ tt ≤ 64) (b_va : (-1000000000000) ≤ va ∧ va ≤ 1000000000000) (b_vb : (-1000000000000) ≤ vb ∧ vb ≤ 1000000000000) (l0 : zget lo 0 = some (.ref (17 * t + 20))) (l1 : zI lo 1 la) (l2 : zI lo 2 hh) (l3 : zI lo 3 kk) (p_tt : pI h (17 * t + 23) (la + 0).toNat = tt) (p_kn : pI h (17 * t + 21) (kk + 0).toNat = (-39)) (p_va : pL h (17 * t + 25) (hh + (-2)).toNat = va) (p_vb : pL h (17 * t + 25) (hh + (-1)).toNat = vb) (d0 : 1 ≤ tt - kk)
    (hE0 : ∀ (lo' : zL) (h' : zH), sInv swC h' → sMd (evGe_m t) h h' → 0 ≤ va → 0 ≤ vb → 0 ≤ -va + vb - 1 → zget lo' 0 = some (.ref (17 * t + 20)) → zI lo' 1 la → zI lo' 2 (hh - 2) → zI lo' 3 kk → zJ lo' 6 0 → zX l Γ false (d + 1) (zhd 89) (zMQ' Γ false (zhd 89) Kp) 0 0 166 lo' [] h')
    (hE1 : ∀ (lo' : zL) (h' : zH), sInv swC h' → sMd (evGe_m t) h h' → 0 ≤ va → 0 ≤ vb → 0 ≤ va - vb → zget lo' 0 = some (.ref (17 * t + 20)) → zI lo' 1 la → zI lo' 2 (hh - 2) → zI lo' 3 kk → zJ lo' 6 1 → zX l Γ false (d + 1) (zhd 89) (zMQ' Γ false (zhd 89) Kp) 0 0 166 lo' [] h')
    (hE2 : ∀ (lo' : zL) (h' : zH), sInv swC h' → sMd (evGe_m t) h h' → 0 ≤ va → 0 ≤ -vb - 1 → zget lo' 0 = some (.ref (17 * t + 20)) → zI lo' 1 la → zI lo' 2 (hh - 2) → zI lo' 3 kk → zJ lo' 6 1 → zX l Γ false (d + 1) (zhd 89) (zMQ' Γ false (zhd 89) Kp) 0 0 166 lo' [] h')
    (hE3 : ∀ (lo' : zL) (h' : zH), sInv swC h' → sMd (evGe_m t) h h' → 0 ≤ -va - 1 → 0 ≤ vb → zget lo' 0 = some (.ref (17 * t + 20)) → zI lo' 1 la → zI lo' 2 (hh - 2) → zI lo' 3 kk → zJ lo' 6 0 → zX l Γ false (d + 1) (zhd 89) (zMQ' Γ false (zhd 89) Kp) 0 0 166 lo' [] h')
    (hE4 : ∀ (lo' : zL) (h' : zH), sInv swC h' → sMd (evGe_m t) h h' → 0 ≤ -va - 1 → 0 ≤ -vb - 1 → 0 ≤ -va + vb - 1 → zget lo' 0 = some (.ref (17 * t + 20)) → zI lo' 1 la → zI lo' 2 (hh - 2) → zI lo' 3 kk → zJ lo' 6 0 → zX l Γ false (d + 1) (zhd 89) (zMQ' Γ false (zhd 89) Kp) 0 0 166 lo' [] h')
    (hE5 : ∀ (lo' : zL) (h' : zH), sInv swC h' → sMd (evGe_m t) h h' → 0 ≤ -va - 1 → 0 ≤ -vb - 1 → 0 ≤ va - vb → zget lo' 0 = some (.ref (17 * t + 20)) → zI lo' 1 la → zI lo' 2 (hh - 2) → zI lo' 3 kk → zJ lo' 6 1 → zX l Γ false (d + 1) (zhd 89) (zMQ' Γ false (zhd 89) Kp) 0 0 166 lo' [] h') : zX l Γ false (d + 1) (zhd 89) (zMQ' Γ false (zhd 89) Kp) 0 0 21 lo [] h := by
  refine sye_ok (mi := 89) (pc := 21) (fun i => [la, hh, kk, tt, (-39), va, vb].getD i 0) (zall_r evGe_b h_t) (fun _ _ hc _ => nomatch hc) hd ⟨l0, zIm l1 (by show 0 ≤ la; omega) (by show la ≤ 2; omega), zIm l2 (by show 2 ≤ hh; omega) (by show hh ≤ 64; omega), zIm l3 (by show 0 ≤ kk; omega) (by show kk ≤ 63; omega), trivial⟩ rfl ⟨(fun _ hc => nomatch hc), (fun _ hc => nomatch hc), (fun _ hc => nomatch hc), Or.inl rfl⟩ ⟨⟨p_tt, by show 0 ≤ tt; omega, by show tt ≤ 64; omega⟩, ⟨p_kn, by show (-39) ≤ (-39); omega, by show (-39) ≤ (-39); omega⟩, trivial⟩ ⟨⟨p_va, by show (-1000000000000) ≤ va; omega, by show va ≤ 1000000000000; omega⟩, ⟨p_vb, by show (-1000000000000) ≤ vb; omega, by show vb ≤ 1000000000000; omega⟩, trivial⟩ (sfm d0 (fun _ hc => nomatch hc)) hi ?_ ?_
  · intro e he lo' st' h' hp hi' hm
    rcases List.mem_cons.mp he with rfl | he
    · obtain ⟨p1, p2, -, hz⟩ := hp
      obtain ⟨⟨z1, z2, z3, z4⟩, z5, z6⟩ := hz
      have c0 : 0 ≤ va := by have q_ : (0 : Int) ≤ (1 * va + 0) + 0 := z4 ([(5, 1)], 0) (List.mem_of_getElem? (i := 0) rfl); omega
      have c1 : 0 ≤ vb := by have q_ : (0 : Int) ≤ (1 * vb + 0) + 0 := z4 ([(6, 1)], 0) (List.mem_of_getElem? (i := 1) rfl); omega
      have c2 : 0 ≤ -va + vb - 1 := by have q_ : (0 : Int) ≤ ((-1) * va + (1 * vb + 0)) + (-1) := z4 ([(5, (-1)), (6, 1)], (-1)) (List.mem_of_getElem? (i := 2) rfl); omega
      have o0 : zget lo' 0 = some (.ref (17 * t + 20)) := locR (p2 (0, .inr (.inl (17 * t + 20))) (List.mem_of_getElem? (i := 0) rfl))
      have o1 : zI lo' 1 la := zI_of (p2 (1, .inl sf32) (List.mem_of_getElem? (i := 1) rfl)) (z3 (1, ([(0, 1)], 0)) (List.mem_of_getElem? (i := 0) rfl)) (show (1 * la + 0) + 0 = la from by omega)
      have o2 : zI lo' 2 (hh - 2) := zI_of (p2 (2, .inl sf32) (List.mem_of_getElem? (i := 2) rfl)) (z3 (2, ([(1, 1)], (-2))) (List.mem_of_getElem? (i := 1) rfl)) (show (1 * hh + 0) + (-2) = hh - 2 from by omega)
      have o3 : zI lo' 3 kk := zI_of (p2 (3, .inl sf32) (List.mem_of_getElem? (i := 3) rfl)) (z3 (3, ([(2, 1)], 0)) (List.mem_of_getElem? (i := 2) rfl)) (show (1 * kk + 0) + 0 = kk from by omega)
      have o6 : zJ lo' 6 0 := zJ_of (p2 (6, .inr (.inr sf64)) (List.mem_of_getElem? (i := 4) rfl)) (z3 (6, ([], 0)) (List.mem_of_getElem? (i := 3) rfl)) (show 0 + 0 = 0 from by omega)
      have p1 : _ = [] := p1
      subst p1
      exact hE0 lo' h' hi' hm c0 c1 c2 o0 o1 o2 o3 o6
    rcases List.mem_cons.mp he with rfl | he
    · obtain ⟨p1, p2, -, hz⟩ := hp
      obtain ⟨⟨z1, z2, z3, z4⟩, z5, z6⟩ := hz
      have c0 : 0 ≤ va := by have q_ : (0 : Int) ≤ (1 * va + 0) + 0 := z4 ([(5, 1)], 0) (List.mem_of_getElem? (i := 0) rfl); omega
      have c1 : 0 ≤ vb := by have q_ : (0 : Int) ≤ (1 * vb + 0) + 0 := z4 ([(6, 1)], 0) (List.mem_of_getElem? (i := 1) rfl); omega
      have c2 : 0 ≤ va - vb := by have q_ : (0 : Int) ≤ (1 * va + ((-1) * vb + 0)) + 0 := z4 ([(5, 1), (6, (-1))], 0) (List.mem_of_getElem? (i := 2) rfl); omega
      have o0 : zget lo' 0 = some (.ref (17 * t + 20)) := locR (p2 (0, .inr (.inl (17 * t + 20))) (List.mem_of_getElem? (i := 0) rfl))
      have o1 : zI lo' 1 la := zI_of (p2 (1, .inl sf32) (List.mem_of_getElem? (i := 1) rfl)) (z3 (1, ([(0, 1)], 0)) (List.mem_of_getElem? (i := 0) rfl)) (show (1 * la + 0) + 0 = la from by omega)
      have o2 : zI lo' 2 (hh - 2) := zI_of (p2 (2, .inl sf32) (List.mem_of_getElem? (i := 2) rfl)) (z3 (2, ([(1, 1)], (-2))) (List.mem_of_getElem? (i := 1) rfl)) (show (1 * hh + 0) + (-2) = hh - 2 from by omega)
      have o3 : zI lo' 3 kk := zI_of (p2 (3, .inl sf32) (List.mem_of_getElem? (i := 3) rfl)) (z3 (3, ([(2, 1)], 0)) (List.mem_of_getElem? (i := 2) rfl)) (show (1 * kk + 0) + 0 = kk from by omega)
      have o6 : zJ lo' 6 1 := zJ_of (p2 (6, .inr (.inr sf64)) (List.mem_of_getElem? (i := 4) rfl)) (z3 (6, ([], 1)) (List.mem_of_getElem? (i := 3) rfl)) (show 0 + 1 = 1 from by omega)
      have p1 : _ = [] := p1
      subst p1
      exact hE1 lo' h' hi' hm c0 c1 c2 o0 o1 o2 o3 o6
    rcases List.mem_cons.mp he with rfl | he
    · obtain ⟨p1, p2, -, hz⟩ := hp
      obtain ⟨⟨z1, z2, z3, z4⟩, z5, z6⟩ := hz
      have c0 : 0 ≤ va := by have q_ : (0 : Int) ≤ (1 * va + 0) + 0 := z4 ([(5, 1)], 0) (List.mem_of_getElem? (i := 0) rfl); omega
      have c1 : 0 ≤ -vb - 1 := by have q_ : (0 : Int) ≤ ((-1) * vb + 0) + (-1) := z4 ([(6, (-1))], (-1)) (List.mem_of_getElem? (i := 1) rfl); omega
      have o0 : zget lo' 0 = some (.ref (17 * t + 20)) := locR (p2 (0, .inr (.inl (17 * t + 20))) (List.mem_of_getElem? (i := 0) rfl))
      have o1 : zI lo' 1 la := zI_of (p2 (1, .inl sf32) (List.mem_of_getElem? (i := 1) rfl)) (z3 (1, ([(0, 1)], 0)) (List.mem_of_getElem? (i := 0) rfl)) (show (1 * la + 0) + 0 = la from by omega)
      have o2 : zI lo' 2 (hh - 2) := zI_of (p2 (2, .inl sf32) (List.mem_of_getElem? (i := 2) rfl)) (z3 (2, ([(1, 1)], (-2))) (List.mem_of_getElem? (i := 1) rfl)) (show (1 * hh + 0) + (-2) = hh - 2 from by omega)
      have o3 : zI lo' 3 kk := zI_of (p2 (3, .inl sf32) (List.mem_of_getElem? (i := 3) rfl)) (z3 (3, ([(2, 1)], 0)) (List.mem_of_getElem? (i := 2) rfl)) (show (1 * kk + 0) + 0 = kk from by omega)
      have o6 : zJ lo' 6 1 := zJ_of (p2 (6, .inr (.inr sf64)) (List.mem_of_getElem? (i := 4) rfl)) (z3 (6, ([], 1)) (List.mem_of_getElem? (i := 3) rfl)) (show 0 + 1 = 1 from by omega)
      have p1 : _ = [] := p1
      subst p1
      exact hE2 lo' h' hi' hm c0 c1 o0 o1 o2 o3 o6
    rcases List.mem_cons.mp he with rfl | he
    · obtain ⟨p1, p2, -, hz⟩ := hp
      obtain ⟨⟨z1, z2, z3, z4⟩, z5, z6⟩ := hz
      have c0 : 0 ≤ -va - 1 := by have q_ : (0 : Int) ≤ ((-1) * va + 0) + (-1) := z4 ([(5, (-1))], (-1)) (List.mem_of_getElem? (i := 0) rfl); omega
      have c1 : 0 ≤ vb := by have q_ : (0 : Int) ≤ (1 * vb + 0) + 0 := z4 ([(6, 1)], 0) (List.mem_of_getElem? (i := 1) rfl); omega
      have o0 : zget lo' 0 = some (.ref (17 * t + 20)) := locR (p2 (0, .inr (.inl (17 * t + 20))) (List.mem_of_getElem? (i := 0) rfl))
      have o1 : zI lo' 1 la := zI_of (p2 (1, .inl sf32) (List.mem_of_getElem? (i := 1) rfl)) (z3 (1, ([(0, 1)], 0)) (List.mem_of_getElem? (i := 0) rfl)) (show (1 * la + 0) + 0 = la from by omega)
      have o2 : zI lo' 2 (hh - 2) := zI_of (p2 (2, .inl sf32) (List.mem_of_getElem? (i := 2) rfl)) (z3 (2, ([(1, 1)], (-2))) (List.mem_of_getElem? (i := 1) rfl)) (show (1 * hh + 0) + (-2) = hh - 2 from by omega)
      have o3 : zI lo' 3 kk := zI_of (p2 (3, .inl sf32) (List.mem_of_getElem? (i := 3) rfl)) (z3 (3, ([(2, 1)], 0)) (List.mem_of_getElem? (i := 2) rfl)) (show (1 * kk + 0) + 0 = kk from by omega)
      have o6 : zJ lo' 6 0 := zJ_of (p2 (6, .inr (.inr sf64)) (List.mem_of_getElem? (i := 4) rfl)) (z3 (6, ([], 0)) (List.mem_of_getElem? (i := 3) rfl)) (show 0 + 0 = 0 from by omega)
      have p1 : _ = [] := p1
      subst p1
      exact hE3 lo' h' hi' hm c0 c1 o0 o1 o2 o3 o6
    rcases List.mem_cons.mp he with rfl | he
    · obtain ⟨p1, p2, -, hz⟩ := hp
      obtain ⟨⟨z1, z2, z3, z4⟩, z5, z6⟩ := hz
      have c0 : 0 ≤ -va - 1 := by have q_ : (0 : Int) ≤ ((-1) * va + 0) + (-1) := z4 ([(5, (-1))], (-1)) (List.mem_of_getElem? (i := 0) rfl); omega
      have c1 : 0 ≤ -vb - 1 := by have q_ : (0 : Int) ≤ ((-1) * vb + 0) + (-1) := z4 ([(6, (-1))], (-1)) (List.mem_of_getElem? (i := 1) rfl); omega
      have c2 : 0 ≤ -va + vb - 1 := by have q_ : (0 : Int) ≤ ((-1) * va + (1 * vb + 0)) + (-1) := z4 ([(5, (-1)), (6, 1)], (-1)) (List.mem_of_getElem? (i := 2) rfl); omega
      have o0 : zget lo' 0 = some (.ref (17 * t + 20)) := locR (p2 (0, .inr (.inl (17 * t + 20))) (List.mem_of_getElem? (i := 0) rfl))
      have o1 : zI lo' 1 la := zI_of (p2 (1, .inl sf32) (List.mem_of_getElem? (i := 1) rfl)) (z3 (1, ([(0, 1)], 0)) (List.mem_of_getElem? (i := 0) rfl)) (show (1 * la + 0) + 0 = la from by omega)
      have o2 : zI lo' 2 (hh - 2) := zI_of (p2 (2, .inl sf32) (List.mem_of_getElem? (i := 2) rfl)) (z3 (2, ([(1, 1)], (-2))) (List.mem_of_getElem? (i := 1) rfl)) (show (1 * hh + 0) + (-2) = hh - 2 from by omega)
      have o3 : zI lo' 3 kk := zI_of (p2 (3, .inl sf32) (List.mem_of_getElem? (i := 3) rfl)) (z3 (3, ([(2, 1)], 0)) (List.mem_of_getElem? (i := 2) rfl)) (show (1 * kk + 0) + 0 = kk from by omega)
      have o6 : zJ lo' 6 0 := zJ_of (p2 (6, .inr (.inr sf64)) (List.mem_of_getElem? (i := 4) rfl)) (z3 (6, ([], 0)) (List.mem_of_getElem? (i := 3) rfl)) (show 0 + 0 = 0 from by omega)
      have p1 : _ = [] := p1
      subst p1
      exact hE4 lo' h' hi' hm c0 c1 c2 o0 o1 o2 o3 o6
    rcases List.mem_cons.mp he with rfl | he
    · obtain ⟨p1, p2, -, hz⟩ := hp
      obtain ⟨⟨z1, z2, z3, z4⟩, z5, z6⟩ := hz
      have c0 : 0 ≤ -va - 1 := by have q_ : (0 : Int) ≤ ((-1) * va + 0) + (-1) := z4 ([(5, (-1))], (-1)) (List.mem_of_getElem? (i := 0) rfl); omega
      have c1 : 0 ≤ -vb - 1 := by have q_ : (0 : Int) ≤ ((-1) * vb + 0) + (-1) := z4 ([(6, (-1))], (-1)) (List.mem_of_getElem? (i := 1) rfl); omega
      have c2 : 0 ≤ va - vb := by have q_ : (0 : Int) ≤ (1 * va + ((-1) * vb + 0)) + 0 := z4 ([(5, 1), (6, (-1))], 0) (List.mem_of_getElem? (i := 2) rfl); omega
      have o0 : zget lo' 0 = some (.ref (17 * t + 20)) := locR (p2 (0, .inr (.inl (17 * t + 20))) (List.mem_of_getElem? (i := 0) rfl))
      have o1 : zI lo' 1 la := zI_of (p2 (1, .inl sf32) (List.mem_of_getElem? (i := 1) rfl)) (z3 (1, ([(0, 1)], 0)) (List.mem_of_getElem? (i := 0) rfl)) (show (1 * la + 0) + 0 = la from by omega)
      have o2 : zI lo' 2 (hh - 2) := zI_of (p2 (2, .inl sf32) (List.mem_of_getElem? (i := 2) rfl)) (z3 (2, ([(1, 1)], (-2))) (List.mem_of_getElem? (i := 1) rfl)) (show (1 * hh + 0) + (-2) = hh - 2 from by omega)
      have o3 : zI lo' 3 kk := zI_of (p2 (3, .inl sf32) (List.mem_of_getElem? (i := 3) rfl)) (z3 (3, ([(2, 1)], 0)) (List.mem_of_getElem? (i := 2) rfl)) (show (1 * kk + 0) + 0 = kk from by omega)
      have o6 : zJ lo' 6 1 := zJ_of (p2 (6, .inr (.inr sf64)) (List.mem_of_getElem? (i := 4) rfl)) (z3 (6, ([], 1)) (List.mem_of_getElem? (i := 3) rfl)) (show 0 + 1 = 1 from by omega)
      have p1 : _ = [] := p1
      subst p1
      exact hE5 lo' h' hi' hm c0 c1 c2 o0 o1 o2 o3 o6
    cases he
  · intro e he r' h' hp hi' hm
    cases he
def evGt_L (t : Nat) : List (Nat × sT) := [(0, .inr (.inl (17 * t + 20))), (1, .inl (0, 2)), (2, .inl (2, 64)), (3, .inl (0, 63))]
def evGt_S (t : Nat) : List sT := []
def evGt_A (t : Nat) : sAs := ([], [], [], [])
def evGt_P (t : Nat) : List sP0 := [((17 * t + 23), (some 0, 0), (0, 64)), ((17 * t + 21), (some 2, 0), ((-40), (-40)))]
def evGt_G (t : Nat) : List sP0 := [((17 * t + 25), (some 1, (-2)), ((-1000000000000), 1000000000000)), ((17 * t + 25), (some 1, (-1)), ((-1000000000000), 1000000000000))]
def evGt_B (t : Nat) : List (Nat × Nat × Int) := [(3, 2, 1)]
def evGt_m (t : Nat) : sM := []
def evGt_e0 (t : Nat) : sXe := (166, [], [(0, .inr (.inl (17 * t + 20))), (1, .inl sf32), (2, .inl sf32), (3, .inl sf32), (6, .inr (.inr sf64))], sA0, [], ([], [], [(1, ([(0, 1)], 0)), (2, ([(1, 1)], (-2))), (3, ([(2, 1)], 0)), (6, ([], 0))], [([(5, 1)], 0), ([(6, 1)], 0), ([(5, (-1)), (6, 1)], 0)]), [], [])
def evGt_e1 (t : Nat) : sXe := (166, [], [(0, .inr (.inl (17 * t + 20))), (1, .inl sf32), (2, .inl sf32), (3, .inl sf32), (6, .inr (.inr sf64))], sA0, [], ([], [], [(1, ([(0, 1)], 0)), (2, ([(1, 1)], (-2))), (3, ([(2, 1)], 0)), (6, ([], 1))], [([(5, 1)], 0), ([(6, 1)], 0), ([(5, 1), (6, (-1))], (-1))]), [], [])
def evGt_e2 (t : Nat) : sXe := (166, [], [(0, .inr (.inl (17 * t + 20))), (1, .inl sf32), (2, .inl sf32), (3, .inl sf32), (6, .inr (.inr sf64))], sA0, [], ([], [], [(1, ([(0, 1)], 0)), (2, ([(1, 1)], (-2))), (3, ([(2, 1)], 0)), (6, ([], 1))], [([(5, 1)], 0), ([(6, (-1))], (-1))]), [], [])
def evGt_e3 (t : Nat) : sXe := (166, [], [(0, .inr (.inl (17 * t + 20))), (1, .inl sf32), (2, .inl sf32), (3, .inl sf32), (6, .inr (.inr sf64))], sA0, [], ([], [], [(1, ([(0, 1)], 0)), (2, ([(1, 1)], (-2))), (3, ([(2, 1)], 0)), (6, ([], 0))], [([(5, (-1))], (-1)), ([(6, 1)], 0)]), [], [])
def evGt_e4 (t : Nat) : sXe := (166, [], [(0, .inr (.inl (17 * t + 20))), (1, .inl sf32), (2, .inl sf32), (3, .inl sf32), (6, .inr (.inr sf64))], sA0, [], ([], [], [(1, ([(0, 1)], 0)), (2, ([(1, 1)], (-2))), (3, ([(2, 1)], 0)), (6, ([], 0))], [([(5, (-1))], (-1)), ([(6, (-1))], (-1)), ([(5, (-1)), (6, 1)], 0)]), [], [])
def evGt_e5 (t : Nat) : sXe := (166, [], [(0, .inr (.inl (17 * t + 20))), (1, .inl sf32), (2, .inl sf32), (3, .inl sf32), (6, .inr (.inr sf64))], sA0, [], ([], [], [(1, ([(0, 1)], 0)), (2, ([(1, 1)], (-2))), (3, ([(2, 1)], 0)), (6, ([], 1))], [([(5, (-1))], (-1)), ([(6, (-1))], (-1)), ([(5, 1), (6, (-1))], (-1))]), [], [])
theorem evGt_b : ((List.range 2).all fun t => syeB swC sT0 (evGt_m t) 400 1 89 (evGt_L t) (evGt_S t) (evGt_A t) (evGt_P t) (evGt_G t) (evGt_B t) 21 [evGt_e0 t, evGt_e1 t, evGt_e2 t, evGt_e3 t, evGt_e4 t, evGt_e5 t] []) = true := by decide +kernel
theorem evGt {l : Launch} {Γ : zG} {d : Nat} (hd : 1 ≤ d) {Kp : Option Value → zH → Prop} {lo : zL} {h : zH} {t : Nat} (h_t : t < 2) {la hh kk tt va vb : Int} (hi : sInv swC h) (b_la : 0 ≤ la ∧ la ≤ 2) (b_hh : 2 ≤ hh ∧ hh ≤ 64) (b_kk : 0 ≤ kk ∧ kk ≤ 63) (b_tt : 0 ≤ tt ∧ tt ≤ 64) (b_va : (-1000000000000) ≤ va ∧ va ≤ 1000000000000) (b_vb : (-1000000000000) ≤ vb ∧ vb ≤ 1000000000000) (l0 : zget lo 0 = some (.ref (17 * t + 20))) (l1 : zI lo 1 la) (l2 : zI lo 2 hh) (l3 : zI lo 3 kk) (p_tt : pI h (17 * t + 23) (la + 0).toNat = tt) (p_kn : pI h (17 * t + 21) (kk + 0).toNat = (-40)) (p_va : pL h (17 * t + 25) (hh + (-2)).toNat = va) (p_vb : pL h (17 * t + 25) (hh + (-1)).toNat = vb) (d0 : 1 ≤ tt - kk)
    (hE0 : ∀ (lo' : zL) (h' : zH), sInv swC h' → sMd (evGt_m t) h h' → 0 ≤ va → 0 ≤ vb → 0 ≤ -va + vb → zget lo' 0 = some (.ref (17 * t + 20)) → zI lo' 1 la → zI lo' 2 (hh - 2) → zI lo' 3 kk → zJ lo' 6 0 → zX l Γ false (d + 1) (zhd 89) (zMQ' Γ false (zhd 89) Kp) 0 0 166 lo' [] h')
    (hE1 : ∀ (lo' : zL) (h' : zH), sInv swC h' → sMd (evGt_m t) h h' → 0 ≤ va → 0 ≤ vb → 0 ≤ va - vb - 1 → zget lo' 0 = some (.ref (17 * t + 20)) → zI lo' 1 la → zI lo' 2 (hh - 2) → zI lo' 3 kk → zJ lo' 6 1 → zX l Γ false (d + 1) (zhd 89) (zMQ' Γ false (zhd 89) Kp) 0 0 166 lo' [] h')
    (hE2 : ∀ (lo' : zL) (h' : zH), sInv swC h' → sMd (evGt_m t) h h' → 0 ≤ va → 0 ≤ -vb - 1 → zget lo' 0 = some (.ref (17 * t + 20)) → zI lo' 1 la → zI lo' 2 (hh - 2) → zI lo' 3 kk → zJ lo' 6 1 → zX l Γ false (d + 1) (zhd 89) (zMQ' Γ false (zhd 89) Kp) 0 0 166 lo' [] h')
    (hE3 : ∀ (lo' : zL) (h' : zH), sInv swC h' → sMd (evGt_m t) h h' → 0 ≤ -va - 1 → 0 ≤ vb → zget lo' 0 = some (.ref (17 * t + 20)) → zI lo' 1 la → zI lo' 2 (hh - 2) → zI lo' 3 kk → zJ lo' 6 0 → zX l Γ false (d + 1) (zhd 89) (zMQ' Γ false (zhd 89) Kp) 0 0 166 lo' [] h')
    (hE4 : ∀ (lo' : zL) (h' : zH), sInv swC h' → sMd (evGt_m t) h h' → 0 ≤ -va - 1 → 0 ≤ -vb - 1 → 0 ≤ -va + vb → zget lo' 0 = some (.ref (17 * t + 20)) → zI lo' 1 la → zI lo' 2 (hh - 2) → zI lo' 3 kk → zJ lo' 6 0 → zX l Γ false (d + 1) (zhd 89) (zMQ' Γ false (zhd 89) Kp) 0 0 166 lo' [] h')
    (hE5 : ∀ (lo' : zL) (h' : zH), sInv swC h' → sMd (evGt_m t) h h' → 0 ≤ -va - 1 → 0 ≤ -vb - 1 → 0 ≤ va - vb - 1 → zget lo' 0 = some (.ref (17 * t + 20)) → zI lo' 1 la → zI lo' 2 (hh - 2) → zI lo' 3 kk → zJ lo' 6 1 → zX l Γ false (d + 1) (zhd 89) (zMQ' Γ false (zhd 89) Kp) 0 0 166 lo' [] h') : zX l Γ false (d + 1) (zhd 89) (zMQ' Γ false (zhd 89) Kp) 0 0 21 lo [] h := by
  refine sye_ok (mi := 89) (pc := 21) (fun i => [la, hh, kk, tt, (-40), va, vb].getD i 0) (zall_r evGt_b h_t) (fun _ _ hc _ => nomatch hc) hd ⟨l0, zIm l1 (by show 0 ≤ la; omega) (by show la ≤ 2; omega), zIm l2 (by show 2 ≤ hh; omega) (by show hh ≤ 64; omega), zIm l3 (by show 0 ≤ kk; omega) (by show kk ≤ 63; omega), trivial⟩ rfl ⟨(fun _ hc => nomatch hc), (fun _ hc => nomatch hc), (fun _ hc => nomatch hc), Or.inl rfl⟩ ⟨⟨p_tt, by show 0 ≤ tt; omega, by show tt ≤ 64; omega⟩, ⟨p_kn, by show (-40) ≤ (-40); omega, by show (-40) ≤ (-40); omega⟩, trivial⟩ ⟨⟨p_va, by show (-1000000000000) ≤ va; omega, by show va ≤ 1000000000000; omega⟩, ⟨p_vb, by show (-1000000000000) ≤ vb; omega, by show vb ≤ 1000000000000; omega⟩, trivial⟩ (sfm d0 (fun _ hc => nomatch hc)) hi ?_ ?_
  · intro e he lo' st' h' hp hi' hm
    rcases List.mem_cons.mp he with rfl | he
    · obtain ⟨p1, p2, -, hz⟩ := hp
      obtain ⟨⟨z1, z2, z3, z4⟩, z5, z6⟩ := hz
      have c0 : 0 ≤ va := by have q_ : (0 : Int) ≤ (1 * va + 0) + 0 := z4 ([(5, 1)], 0) (List.mem_of_getElem? (i := 0) rfl); omega
      have c1 : 0 ≤ vb := by have q_ : (0 : Int) ≤ (1 * vb + 0) + 0 := z4 ([(6, 1)], 0) (List.mem_of_getElem? (i := 1) rfl); omega
      have c2 : 0 ≤ -va + vb := by have q_ : (0 : Int) ≤ ((-1) * va + (1 * vb + 0)) + 0 := z4 ([(5, (-1)), (6, 1)], 0) (List.mem_of_getElem? (i := 2) rfl); omega
      have o0 : zget lo' 0 = some (.ref (17 * t + 20)) := locR (p2 (0, .inr (.inl (17 * t + 20))) (List.mem_of_getElem? (i := 0) rfl))
      have o1 : zI lo' 1 la := zI_of (p2 (1, .inl sf32) (List.mem_of_getElem? (i := 1) rfl)) (z3 (1, ([(0, 1)], 0)) (List.mem_of_getElem? (i := 0) rfl)) (show (1 * la + 0) + 0 = la from by omega)
      have o2 : zI lo' 2 (hh - 2) := zI_of (p2 (2, .inl sf32) (List.mem_of_getElem? (i := 2) rfl)) (z3 (2, ([(1, 1)], (-2))) (List.mem_of_getElem? (i := 1) rfl)) (show (1 * hh + 0) + (-2) = hh - 2 from by omega)
      have o3 : zI lo' 3 kk := zI_of (p2 (3, .inl sf32) (List.mem_of_getElem? (i := 3) rfl)) (z3 (3, ([(2, 1)], 0)) (List.mem_of_getElem? (i := 2) rfl)) (show (1 * kk + 0) + 0 = kk from by omega)
      have o6 : zJ lo' 6 0 := zJ_of (p2 (6, .inr (.inr sf64)) (List.mem_of_getElem? (i := 4) rfl)) (z3 (6, ([], 0)) (List.mem_of_getElem? (i := 3) rfl)) (show 0 + 0 = 0 from by omega)
      have p1 : _ = [] := p1
      subst p1
      exact hE0 lo' h' hi' hm c0 c1 c2 o0 o1 o2 o3 o6
    rcases List.mem_cons.mp he with rfl | he
    · obtain ⟨p1, p2, -, hz⟩ := hp
      obtain ⟨⟨z1, z2, z3, z4⟩, z5, z6⟩ := hz
      have c0 : 0 ≤ va := by have q_ : (0 : Int) ≤ (1 * va + 0) + 0 := z4 ([(5, 1)], 0) (List.mem_of_getElem? (i := 0) rfl); omega
      have c1 : 0 ≤ vb := by have q_ : (0 : Int) ≤ (1 * vb + 0) + 0 := z4 ([(6, 1)], 0) (List.mem_of_getElem? (i := 1) rfl); omega
      have c2 : 0 ≤ va - vb - 1 := by have q_ : (0 : Int) ≤ (1 * va + ((-1) * vb + 0)) + (-1) := z4 ([(5, 1), (6, (-1))], (-1)) (List.mem_of_getElem? (i := 2) rfl); omega
      have o0 : zget lo' 0 = some (.ref (17 * t + 20)) := locR (p2 (0, .inr (.inl (17 * t + 20))) (List.mem_of_getElem? (i := 0) rfl))
      have o1 : zI lo' 1 la := zI_of (p2 (1, .inl sf32) (List.mem_of_getElem? (i := 1) rfl)) (z3 (1, ([(0, 1)], 0)) (List.mem_of_getElem? (i := 0) rfl)) (show (1 * la + 0) + 0 = la from by omega)
      have o2 : zI lo' 2 (hh - 2) := zI_of (p2 (2, .inl sf32) (List.mem_of_getElem? (i := 2) rfl)) (z3 (2, ([(1, 1)], (-2))) (List.mem_of_getElem? (i := 1) rfl)) (show (1 * hh + 0) + (-2) = hh - 2 from by omega)
      have o3 : zI lo' 3 kk := zI_of (p2 (3, .inl sf32) (List.mem_of_getElem? (i := 3) rfl)) (z3 (3, ([(2, 1)], 0)) (List.mem_of_getElem? (i := 2) rfl)) (show (1 * kk + 0) + 0 = kk from by omega)
      have o6 : zJ lo' 6 1 := zJ_of (p2 (6, .inr (.inr sf64)) (List.mem_of_getElem? (i := 4) rfl)) (z3 (6, ([], 1)) (List.mem_of_getElem? (i := 3) rfl)) (show 0 + 1 = 1 from by omega)
      have p1 : _ = [] := p1
      subst p1
      exact hE1 lo' h' hi' hm c0 c1 c2 o0 o1 o2 o3 o6
    rcases List.mem_cons.mp he with rfl | he
    · obtain ⟨p1, p2, -, hz⟩ := hp
      obtain ⟨⟨z1, z2, z3, z4⟩, z5, z6⟩ := hz
      have c0 : 0 ≤ va := by have q_ : (0 : Int) ≤ (1 * va + 0) + 0 := z4 ([(5, 1)], 0) (List.mem_of_getElem? (i := 0) rfl); omega
      have c1 : 0 ≤ -vb - 1 := by have q_ : (0 : Int) ≤ ((-1) * vb + 0) + (-1) := z4 ([(6, (-1))], (-1)) (List.mem_of_getElem? (i := 1) rfl); omega
      have o0 : zget lo' 0 = some (.ref (17 * t + 20)) := locR (p2 (0, .inr (.inl (17 * t + 20))) (List.mem_of_getElem? (i := 0) rfl))
      have o1 : zI lo' 1 la := zI_of (p2 (1, .inl sf32) (List.mem_of_getElem? (i := 1) rfl)) (z3 (1, ([(0, 1)], 0)) (List.mem_of_getElem? (i := 0) rfl)) (show (1 * la + 0) + 0 = la from by omega)
      have o2 : zI lo' 2 (hh - 2) := zI_of (p2 (2, .inl sf32) (List.mem_of_getElem? (i := 2) rfl)) (z3 (2, ([(1, 1)], (-2))) (List.mem_of_getElem? (i := 1) rfl)) (show (1 * hh + 0) + (-2) = hh - 2 from by omega)
      have o3 : zI lo' 3 kk := zI_of (p2 (3, .inl sf32) (List.mem_of_getElem? (i := 3) rfl)) (z3 (3, ([(2, 1)], 0)) (List.mem_of_getElem? (i := 2) rfl)) (show (1 * kk + 0) + 0 = kk from by omega)
      have o6 : zJ lo' 6 1 := zJ_of (p2 (6, .inr (.inr sf64)) (List.mem_of_getElem? (i := 4) rfl)) (z3 (6, ([], 1)) (List.mem_of_getElem? (i := 3) rfl)) (show 0 + 1 = 1 from by omega)
      have p1 : _ = [] := p1
      subst p1
      exact hE2 lo' h' hi' hm c0 c1 o0 o1 o2 o3 o6
    rcases List.mem_cons.mp he with rfl | he
    · obtain ⟨p1, p2, -, hz⟩ := hp
      obtain ⟨⟨z1, z2, z3, z4⟩, z5, z6⟩ := hz
      have c0 : 0 ≤ -va - 1 := by have q_ : (0 : Int) ≤ ((-1) * va + 0) + (-1) := z4 ([(5, (-1))], (-1)) (List.mem_of_getElem? (i := 0) rfl); omega
      have c1 : 0 ≤ vb := by have q_ : (0 : Int) ≤ (1 * vb + 0) + 0 := z4 ([(6, 1)], 0) (List.mem_of_getElem? (i := 1) rfl); omega
      have o0 : zget lo' 0 = some (.ref (17 * t + 20)) := locR (p2 (0, .inr (.inl (17 * t + 20))) (List.mem_of_getElem? (i := 0) rfl))
      have o1 : zI lo' 1 la := zI_of (p2 (1, .inl sf32) (List.mem_of_getElem? (i := 1) rfl)) (z3 (1, ([(0, 1)], 0)) (List.mem_of_getElem? (i := 0) rfl)) (show (1 * la + 0) + 0 = la from by omega)
      have o2 : zI lo' 2 (hh - 2) := zI_of (p2 (2, .inl sf32) (List.mem_of_getElem? (i := 2) rfl)) (z3 (2, ([(1, 1)], (-2))) (List.mem_of_getElem? (i := 1) rfl)) (show (1 * hh + 0) + (-2) = hh - 2 from by omega)
      have o3 : zI lo' 3 kk := zI_of (p2 (3, .inl sf32) (List.mem_of_getElem? (i := 3) rfl)) (z3 (3, ([(2, 1)], 0)) (List.mem_of_getElem? (i := 2) rfl)) (show (1 * kk + 0) + 0 = kk from by omega)
      have o6 : zJ lo' 6 0 := zJ_of (p2 (6, .inr (.inr sf64)) (List.mem_of_getElem? (i := 4) rfl)) (z3 (6, ([], 0)) (List.mem_of_getElem? (i := 3) rfl)) (show 0 + 0 = 0 from by omega)
      have p1 : _ = [] := p1
      subst p1
      exact hE3 lo' h' hi' hm c0 c1 o0 o1 o2 o3 o6
    rcases List.mem_cons.mp he with rfl | he
    · obtain ⟨p1, p2, -, hz⟩ := hp
      obtain ⟨⟨z1, z2, z3, z4⟩, z5, z6⟩ := hz
      have c0 : 0 ≤ -va - 1 := by have q_ : (0 : Int) ≤ ((-1) * va + 0) + (-1) := z4 ([(5, (-1))], (-1)) (List.mem_of_getElem? (i := 0) rfl); omega
      have c1 : 0 ≤ -vb - 1 := by have q_ : (0 : Int) ≤ ((-1) * vb + 0) + (-1) := z4 ([(6, (-1))], (-1)) (List.mem_of_getElem? (i := 1) rfl); omega
      have c2 : 0 ≤ -va + vb := by have q_ : (0 : Int) ≤ ((-1) * va + (1 * vb + 0)) + 0 := z4 ([(5, (-1)), (6, 1)], 0) (List.mem_of_getElem? (i := 2) rfl); omega
      have o0 : zget lo' 0 = some (.ref (17 * t + 20)) := locR (p2 (0, .inr (.inl (17 * t + 20))) (List.mem_of_getElem? (i := 0) rfl))
      have o1 : zI lo' 1 la := zI_of (p2 (1, .inl sf32) (List.mem_of_getElem? (i := 1) rfl)) (z3 (1, ([(0, 1)], 0)) (List.mem_of_getElem? (i := 0) rfl)) (show (1 * la + 0) + 0 = la from by omega)
      have o2 : zI lo' 2 (hh - 2) := zI_of (p2 (2, .inl sf32) (List.mem_of_getElem? (i := 2) rfl)) (z3 (2, ([(1, 1)], (-2))) (List.mem_of_getElem? (i := 1) rfl)) (show (1 * hh + 0) + (-2) = hh - 2 from by omega)
      have o3 : zI lo' 3 kk := zI_of (p2 (3, .inl sf32) (List.mem_of_getElem? (i := 3) rfl)) (z3 (3, ([(2, 1)], 0)) (List.mem_of_getElem? (i := 2) rfl)) (show (1 * kk + 0) + 0 = kk from by omega)
      have o6 : zJ lo' 6 0 := zJ_of (p2 (6, .inr (.inr sf64)) (List.mem_of_getElem? (i := 4) rfl)) (z3 (6, ([], 0)) (List.mem_of_getElem? (i := 3) rfl)) (show 0 + 0 = 0 from by omega)
      have p1 : _ = [] := p1
      subst p1
      exact hE4 lo' h' hi' hm c0 c1 c2 o0 o1 o2 o3 o6
    rcases List.mem_cons.mp he with rfl | he
    · obtain ⟨p1, p2, -, hz⟩ := hp
      obtain ⟨⟨z1, z2, z3, z4⟩, z5, z6⟩ := hz
      have c0 : 0 ≤ -va - 1 := by have q_ : (0 : Int) ≤ ((-1) * va + 0) + (-1) := z4 ([(5, (-1))], (-1)) (List.mem_of_getElem? (i := 0) rfl); omega
      have c1 : 0 ≤ -vb - 1 := by have q_ : (0 : Int) ≤ ((-1) * vb + 0) + (-1) := z4 ([(6, (-1))], (-1)) (List.mem_of_getElem? (i := 1) rfl); omega
      have c2 : 0 ≤ va - vb - 1 := by have q_ : (0 : Int) ≤ (1 * va + ((-1) * vb + 0)) + (-1) := z4 ([(5, 1), (6, (-1))], (-1)) (List.mem_of_getElem? (i := 2) rfl); omega
      have o0 : zget lo' 0 = some (.ref (17 * t + 20)) := locR (p2 (0, .inr (.inl (17 * t + 20))) (List.mem_of_getElem? (i := 0) rfl))
      have o1 : zI lo' 1 la := zI_of (p2 (1, .inl sf32) (List.mem_of_getElem? (i := 1) rfl)) (z3 (1, ([(0, 1)], 0)) (List.mem_of_getElem? (i := 0) rfl)) (show (1 * la + 0) + 0 = la from by omega)
      have o2 : zI lo' 2 (hh - 2) := zI_of (p2 (2, .inl sf32) (List.mem_of_getElem? (i := 2) rfl)) (z3 (2, ([(1, 1)], (-2))) (List.mem_of_getElem? (i := 1) rfl)) (show (1 * hh + 0) + (-2) = hh - 2 from by omega)
      have o3 : zI lo' 3 kk := zI_of (p2 (3, .inl sf32) (List.mem_of_getElem? (i := 3) rfl)) (z3 (3, ([(2, 1)], 0)) (List.mem_of_getElem? (i := 2) rfl)) (show (1 * kk + 0) + 0 = kk from by omega)
      have o6 : zJ lo' 6 1 := zJ_of (p2 (6, .inr (.inr sf64)) (List.mem_of_getElem? (i := 4) rfl)) (z3 (6, ([], 1)) (List.mem_of_getElem? (i := 3) rfl)) (show 0 + 1 = 1 from by omega)
      have p1 : _ = [] := p1
      subst p1
      exact hE5 lo' h' hi' hm c0 c1 c2 o0 o1 o2 o3 o6
    cases he
  · intro e he r' h' hp hi' hm
    cases he
def evZ_L (n : Nat) (t : Nat) : List (Nat × sT) := [(0, .inr (.inl (17 * t + 20))), (1, .inl (0, 2)), (2, .inl ((n : Int), (n : Int))), (3, .inl (0, 63)), (6, .inr (.inr sf64))]
def evZ_S (n : Nat) (t : Nat) : List sT := []
def evZ_A (n : Nat) (t : Nat) : sAs := ([], [], [], [])
def evZ_P (n : Nat) (t : Nat) : List sP0 := []
def evZ_G (n : Nat) (t : Nat) : List sP0 := []
def evZ_B (n : Nat) (t : Nat) : List (Nat × Nat × Int) := []
def evZ_m (n : Nat) (t : Nat) : sM := [((17 * t + 25), n, (n + 1))]
def evZ_e0 (n : Nat) (t : Nat) : sXe := (21, [], [(0, .inr (.inl (17 * t + 20))), (1, .inl sf32), (2, .inl sf32), (3, .inl sf32)], sA0, [(2, (17 * t + 25), ([], (n : Int)), ([], 0))], ([], [], [(1, ([(0, 1)], 0)), (2, ([], ((n : Int) + 1))), (3, ([(2, 1)], 1))], [([(3, (-1))], 1000000000000), ([(3, 1)], 1000000000000)]), [], [(4, ([(3, 1)], 0))])
def evZ_r0 (n : Nat) (t : Nat) : sXr := (some (.inr (.inr sf64)), sA0, [], ([], [(0, ([], (-9223372036854775808)))], [], [([(3, 1)], (-1000000000001))]), [], [])
def evZ_r1 (n : Nat) (t : Nat) : sXr := (some (.inr (.inr sf64)), sA0, [], ([], [(0, ([], (-9223372036854775808)))], [], [([(3, (-1))], 1000000000000), ([(3, (-1))], (-1000000000001))]), [], [])
theorem evZ_b : ((List.range 64).all fun n => ((List.range 2).all fun t => syeB swC sT0 (evZ_m n t) 400 0 89 (evZ_L n t) (evZ_S n t) (evZ_A n t) (evZ_P n t) (evZ_G n t) (evZ_B n t) 166 [evZ_e0 n t] [evZ_r0 n t, evZ_r1 n t])) = true := by decide +kernel
theorem evZ {l : Launch} {Γ : zG} {d : Nat} (hd : 0 ≤ d) {Kp : Option Value → zH → Prop} {lo : zL} {h : zH} {n : Nat} (h_n : n < 64) {t : Nat} (h_t : t < 2) {la kk vv : Int} (hi : sInv swC h) (b_la : 0 ≤ la ∧ la ≤ 2) (b_kk : 0 ≤ kk ∧ kk ≤ 63) (b_vv : (-9223372036854775808) ≤ vv ∧ vv ≤ 9223372036854775807) (l0 : zget lo 0 = some (.ref (17 * t + 20))) (l1 : zI lo 1 la) (l2 : zI lo 2 (n : Int)) (l3 : zI lo 3 kk) (l6 : zJ lo 6 vv)
    (hE0 : ∀ (lo' : zL) (h' : zH) (u0 : Int), sInv swC h' → sMd (evZ_m n t) h h' → pL h' (17 * t + 25) n = u0 → u0 = vv → 0 ≤ -vv + 1000000000000 → 0 ≤ vv + 1000000000000 → zget lo' 0 = some (.ref (17 * t + 20)) → zI lo' 1 la → zI lo' 2 ((n : Int) + 1) → zI lo' 3 (kk + 1) → zX l Γ false (d + 1) (zhd 89) (zMQ' Γ false (zhd 89) Kp) 0 0 21 lo' [] h')
    (hR0 : ∀ (h' : zH) (r_ : Int64), sInv swC h' → sMd (evZ_m n t) h h' → 0 ≤ vv - 1000000000001 → r_.toInt = (-9223372036854775808) → Kp (some (.long r_)) h')
    (hR1 : ∀ (h' : zH) (r_ : Int64), sInv swC h' → sMd (evZ_m n t) h h' → 0 ≤ -vv + 1000000000000 → 0 ≤ -vv - 1000000000001 → r_.toInt = (-9223372036854775808) → Kp (some (.long r_)) h') : zX l Γ false (d + 1) (zhd 89) (zMQ' Γ false (zhd 89) Kp) 0 0 166 lo [] h := by
  refine sye_ok (mi := 89) (pc := 166) (fun i => [la, (n : Int), kk, vv].getD i 0) (zall_r (zall_r evZ_b h_n) h_t) (fun _ _ hc _ => nomatch hc) hd ⟨l0, zIm l1 (by show 0 ≤ la; omega) (by show la ≤ 2; omega), zIm l2 (by show (n : Int) ≤ (n : Int); omega) (by show (n : Int) ≤ (n : Int); omega), zIm l3 (by show 0 ≤ kk; omega) (by show kk ≤ 63; omega), zJm l6 (by show (-9223372036854775808) ≤ vv; omega) (by show vv ≤ 9223372036854775807; omega), trivial⟩ rfl ⟨(fun _ hc => nomatch hc), (fun _ hc => nomatch hc), (fun _ hc => nomatch hc), Or.inl rfl⟩ trivial trivial (fun _ hc => nomatch hc) hi ?_ ?_
  · intro e he lo' st' h' hp hi' hm
    rcases List.mem_cons.mp he with rfl | he
    · obtain ⟨p1, p2, -, hz⟩ := hp
      obtain ⟨u0, f0, hz⟩ := hz
      obtain ⟨⟨z1, z2, z3, z4⟩, z5, z6⟩ := hz
      have g0 : pL h' (17 * t + 25) n = u0 := by
        rw [← (show ((0 + (n : Int) : Int)).toNat = n from by omega)]
        exact f0
      have j0 : u0 = vv := (show u0 = (1 * vv + 0) + 0 from z6 (4, ([(3, 1)], 0)) (List.mem_of_getElem? (i := 0) rfl)).trans (by omega)
      have c0 : 0 ≤ -vv + 1000000000000 := by have q_ : (0 : Int) ≤ ((-1) * vv + 0) + 1000000000000 := z4 ([(3, (-1))], 1000000000000) (List.mem_of_getElem? (i := 0) rfl); omega
      have c1 : 0 ≤ vv + 1000000000000 := by have q_ : (0 : Int) ≤ (1 * vv + 0) + 1000000000000 := z4 ([(3, 1)], 1000000000000) (List.mem_of_getElem? (i := 1) rfl); omega
      have o0 : zget lo' 0 = some (.ref (17 * t + 20)) := locR (p2 (0, .inr (.inl (17 * t + 20))) (List.mem_of_getElem? (i := 0) rfl))
      have o1 : zI lo' 1 la := zI_of (p2 (1, .inl sf32) (List.mem_of_getElem? (i := 1) rfl)) (z3 (1, ([(0, 1)], 0)) (List.mem_of_getElem? (i := 0) rfl)) (show (1 * la + 0) + 0 = la from by omega)
      have o2 : zI lo' 2 ((n : Int) + 1) := zI_of (p2 (2, .inl sf32) (List.mem_of_getElem? (i := 2) rfl)) (z3 (2, ([], ((n : Int) + 1))) (List.mem_of_getElem? (i := 1) rfl)) (show 0 + ((n : Int) + 1) = ((n : Int) + 1) from by omega)
      have o3 : zI lo' 3 (kk + 1) := zI_of (p2 (3, .inl sf32) (List.mem_of_getElem? (i := 3) rfl)) (z3 (3, ([(2, 1)], 1)) (List.mem_of_getElem? (i := 2) rfl)) (show (1 * kk + 0) + 1 = kk + 1 from by omega)
      have p1 : _ = [] := p1
      subst p1
      exact hE0 lo' h' u0 hi' hm g0 j0 c0 c1 o0 o1 o2 o3
    cases he
  · intro e he r' h' hp hi' hm
    rcases List.mem_cons.mp he with rfl | he
    · obtain ⟨p1, -, hz⟩ := hp
      obtain ⟨⟨z1, z2, z3, z4⟩, z5, z6⟩ := hz
      have c0 : 0 ≤ vv - 1000000000001 := by have q_ : (0 : Int) ≤ (1 * vv + 0) + (-1000000000001) := z4 ([(3, 1)], (-1000000000001)) (List.mem_of_getElem? (i := 0) rfl); omega
      obtain ⟨r_, rfl, hv⟩ := ansJ p1 (z2 (0, ([], (-9223372036854775808))) (List.mem_of_getElem? (i := 0) rfl))
      have s0 : r_.toInt = (-9223372036854775808) := (show r_.toInt = 0 + (-9223372036854775808) from hv).trans (by omega)
      exact hR0 h' r_ hi' hm c0 s0
    rcases List.mem_cons.mp he with rfl | he
    · obtain ⟨p1, -, hz⟩ := hp
      obtain ⟨⟨z1, z2, z3, z4⟩, z5, z6⟩ := hz
      have c0 : 0 ≤ -vv + 1000000000000 := by have q_ : (0 : Int) ≤ ((-1) * vv + 0) + 1000000000000 := z4 ([(3, (-1))], 1000000000000) (List.mem_of_getElem? (i := 0) rfl); omega
      have c1 : 0 ≤ -vv - 1000000000001 := by have q_ : (0 : Int) ≤ ((-1) * vv + 0) + (-1000000000001) := z4 ([(3, (-1))], (-1000000000001)) (List.mem_of_getElem? (i := 1) rfl); omega
      obtain ⟨r_, rfl, hv⟩ := ansJ p1 (z2 (0, ([], (-9223372036854775808))) (List.mem_of_getElem? (i := 0) rfl))
      have s0 : r_.toInt = (-9223372036854775808) := (show r_.toInt = 0 + (-9223372036854775808) from hv).trans (by omega)
      exact hR1 h' r_ hi' hm c0 c1 s0
    cases he
