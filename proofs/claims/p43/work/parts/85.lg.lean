/-! the reference: a knot more (printed by rel.py: lw.py) -/
def lwgA_L (r : Nat) : List sT := [.inr (.inl 0), .inl (0, 14), .inl (0, 9999), .inl ((-1), 63)]
def lwgA_A (r : Nat) : sAs := ([], [], [], [])
def lwgA_P (r : Nat) : List sP0 := [(0, (none, 23), ((r : Int), (r : Int)))]
def lwgA_G (r : Nat) : List sP0 := []
def lwgA_B (r : Nat) : List (Nat × Nat × Int) := []
def lwgA_m (r : Nat) : sM := [(22, (r + 64), (r + 65)), (23, (r + 64), (r + 65)), (24, (r + 64), (r + 65))]
def lwgA_e0 (r : Nat) : sXe := (39, [], [(0, .inr (.inl 0))], sA0, [], ([(24, (none, (((r + 64) : Nat) : Int)), ([(2, 1)], 0)), (23, (none, (((r + 64) : Nat) : Int)), ([(1, 1)], 0)), (22, (none, (((r + 64) : Nat) : Int)), ([(0, 1)], 0))], [], [], []), [], [])
theorem lwgA_b : ((List.range 64).all fun r => syfB swMt sT0 (lwgA_m r) 400 0 221 (lwgA_L r) (lwgA_A r) (lwgA_P r) (lwgA_G r) (lwgA_B r) [lwgA_e0 r] []) = true := by decide +kernel
theorem lwgA {l : Launch} {Γ : zG} {d : Nat} (hd : 0 ≤ d) {Kp : Option Value → zH → Prop} {h : zH} {r : Nat} (h_r : r < 64) {ki pa ot : Int} (hi : sInv swMt h) (b_ki : 0 ≤ ki ∧ ki ≤ 14) (b_pa : 0 ≤ pa ∧ pa ≤ 9999) (b_ot : (-1) ≤ ot ∧ ot ≤ 63) {x_ki : Int32} (e_ki : x_ki.toInt = ki) {x_pa : Int32} (e_pa : x_pa.toInt = pa) {x_ot : Int32} (e_ot : x_ot.toInt = ot) (p_r0 : pI h 0 23 = (r : Int))
    (hE0 : ∀ (lo' : zL) (h' : zH), sInv swMt h' → sMd (lwgA_m r) h h' → pI h' 24 (r + 64) = ot → pI h' 23 (r + 64) = pa → pI h' 22 (r + 64) = ki → zget lo' 0 = some (.ref 0) → zX l Γ false (d + 1) (zhd 221) (zMQ' Γ false (zhd 221) Kp) 0 0 39 lo' [] h') : zSem l Γ false (d + 1) (zhd 221) [.ref 0, .int x_ki, .int x_pa, .int x_ot] h Kp := by
  refine syf_ok (mi := 221) (fun i => [ki, pa, ot, (r : Int)].getD i 0) (zall_r lwgA_b h_r) (fun _ _ hc _ => nomatch hc) hd ⟨_, _, rfl, rfl, ⟨_, _, rfl, ⟨x_ki, rfl, by show 0 ≤ x_ki.toInt; omega, by show x_ki.toInt ≤ 14; omega⟩, ⟨_, _, rfl, ⟨x_pa, rfl, by show 0 ≤ x_pa.toInt; omega, by show x_pa.toInt ≤ 9999; omega⟩, ⟨_, _, rfl, ⟨x_ot, rfl, by show (-1) ≤ x_ot.toInt; omega, by show x_ot.toInt ≤ 63; omega⟩, rfl⟩⟩⟩⟩ ⟨rfl, ⟨x_ki, rfl, e_ki, by show 0 ≤ ki; omega, by show ki ≤ 14; omega⟩, ⟨x_pa, rfl, e_pa, by show 0 ≤ pa; omega, by show pa ≤ 9999; omega⟩, ⟨x_ot, rfl, e_ot, by show (-1) ≤ ot; omega, by show ot ≤ 63; omega⟩, trivial⟩ ⟨(fun _ hc => nomatch hc), (fun _ hc => nomatch hc), (fun _ hc => nomatch hc), Or.inl rfl⟩ ⟨⟨p_r0, by show (r : Int) ≤ (r : Int); omega, by show (r : Int) ≤ (r : Int); omega⟩, trivial⟩ trivial (fun _ hc => nomatch hc) hi ?_ ?_
  · intro e he lo' st' h' hp hi' hm
    rcases List.mem_cons.mp he with rfl | he
    · obtain ⟨p1, p2, -, hz⟩ := hp
      obtain ⟨⟨z1, z2, z3, z4⟩, z5, z6⟩ := hz
      have k0 : pI h' 24 (r + 64) = ot := (show pI h' 24 (r + 64) = (1 * ot + 0) + 0 from z1 (24, (none, (((r + 64) : Nat) : Int)), ([(2, 1)], 0)) (List.mem_of_getElem? (i := 0) rfl)).trans (by omega)
      have k1 : pI h' 23 (r + 64) = pa := (show pI h' 23 (r + 64) = (1 * pa + 0) + 0 from z1 (23, (none, (((r + 64) : Nat) : Int)), ([(1, 1)], 0)) (List.mem_of_getElem? (i := 1) rfl)).trans (by omega)
      have k2 : pI h' 22 (r + 64) = ki := (show pI h' 22 (r + 64) = (1 * ki + 0) + 0 from z1 (22, (none, (((r + 64) : Nat) : Int)), ([(0, 1)], 0)) (List.mem_of_getElem? (i := 2) rfl)).trans (by omega)
      have o0 : zget lo' 0 = some (.ref 0) := locR (p2 (0, .inr (.inl 0)) (List.mem_of_getElem? (i := 0) rfl))
      have p1 : _ = [] := p1
      subst p1
      exact hE0 lo' h' hi' hm k0 k1 k2 o0
    cases he
  · intro e he r' h' hp hi' hm
    cases he
def lwgB_L (n : Nat) : List (Nat × sT) := [(0, .inr (.inl 0))]
def lwgB_S (n : Nat) : List sT := []
def lwgB_A (n : Nat) : sAs := ([], [], [], [])
def lwgB_P (n : Nat) : List sP0 := [(0, (none, 49), ((n : Int), (n : Int))), (0, (none, 23), (0, 63))]
def lwgB_G (n : Nat) : List sP0 := []
def lwgB_B (n : Nat) : List (Nat × Nat × Int) := []
def lwgB_m (n : Nat) : sM := [(0, 23, 24), (0, 49, 50), (26, n, (n + 1))]
def lwgB_r0 (n : Nat) : sXr := (none, sA0, [], ([(0, (none, 23), ([(1, 1)], 1)), (0, (none, 49), ([], ((n : Int) + 1))), (26, (none, ((n : Nat) : Int)), ([(1, 1)], 0))], [], [], []), [], [])
theorem lwgB_b : ((List.range 96).all fun n => syeB swMt sT0 (lwgB_m n) 400 0 221 (lwgB_L n) (lwgB_S n) (lwgB_A n) (lwgB_P n) (lwgB_G n) (lwgB_B n) 39 [] [lwgB_r0 n]) = true := by decide +kernel
theorem lwgB {l : Launch} {Γ : zG} {d : Nat} (hd : 0 ≤ d) {Kp : Option Value → zH → Prop} {lo : zL} {h : zH} {n : Nat} (h_n : n < 96) {r0 : Int} (hi : sInv swMt h) (b_r0 : 0 ≤ r0 ∧ r0 ≤ 63) (l0 : zget lo 0 = some (.ref 0)) (p_n0 : pI h 0 49 = (n : Int)) (p_r0 : pI h 0 23 = r0)
    (hR0 : ∀ (h' : zH), sInv swMt h' → sMd (lwgB_m n) h h' → pI h' 0 23 = r0 + 1 → pI h' 0 49 = ((n : Int) + 1) → pI h' 26 n = r0 → Kp none h') : zX l Γ false (d + 1) (zhd 221) (zMQ' Γ false (zhd 221) Kp) 0 0 39 lo [] h := by
  refine sye_ok (mi := 221) (pc := 39) (fun i => [(n : Int), r0].getD i 0) (zall_r lwgB_b h_n) (fun _ _ hc _ => nomatch hc) hd ⟨l0, trivial⟩ rfl ⟨(fun _ hc => nomatch hc), (fun _ hc => nomatch hc), (fun _ hc => nomatch hc), Or.inl rfl⟩ ⟨⟨p_n0, by show (n : Int) ≤ (n : Int); omega, by show (n : Int) ≤ (n : Int); omega⟩, ⟨p_r0, by show 0 ≤ r0; omega, by show r0 ≤ 63; omega⟩, trivial⟩ trivial (fun _ hc => nomatch hc) hi ?_ ?_
  · intro e he lo' st' h' hp hi' hm
    cases he
  · intro e he r' h' hp hi' hm
    rcases List.mem_cons.mp he with rfl | he
    · obtain ⟨p1, -, hz⟩ := hp
      obtain ⟨⟨z1, z2, z3, z4⟩, z5, z6⟩ := hz
      have k0 : pI h' 0 23 = r0 + 1 := (show pI h' 0 23 = (1 * r0 + 0) + 1 from z1 (0, (none, 23), ([(1, 1)], 1)) (List.mem_of_getElem? (i := 0) rfl)).trans (by omega)
      have k1 : pI h' 0 49 = ((n : Int) + 1) := (show pI h' 0 49 = 0 + ((n : Int) + 1) from z1 (0, (none, 49), ([], ((n : Int) + 1))) (List.mem_of_getElem? (i := 1) rfl)).trans (by omega)
      have k2 : pI h' 26 n = r0 := (show pI h' 26 n = (1 * r0 + 0) + 0 from z1 (26, (none, ((n : Nat) : Int)), ([(1, 1)], 0)) (List.mem_of_getElem? (i := 2) rfl)).trans (by omega)
      have p1 : r' = none := p1
      subst p1
      exact hR0 h' hi' hm k0 k1 k2
    cases he
def lwbn_L : List (Nat × sT) := [(0, .inr (.inl 0)), (1, .inl (1, 6))]
def lwbn_S : List sT := []
def lwbn_A : sAs := ([], [], [], [])
def lwbn_P : List sP0 := [(0, (none, 48), (1, 72)), (25, (some 1, (-1)), (2, 2)), (0, (none, 49), (1, 95)), (26, (some 3, (-1)), (0, 63))]
def lwbn_G : List sP0 := []
def lwbn_B : List (Nat × Nat × Int) := []
def lwbn_m : sM := [(0, 48, 49), (0, 49, 50)]
def lwbn_e0 : sXe := (70, [.inl sf32, .inl sf32, .inl sf32, .inr (.inl 0)], [(0, .inr (.inl 0)), (1, .inl sf32)], sA0, [], ([(0, (none, 49), ([(3, 1)], (-1))), (0, (none, 48), ([(1, 1)], (-1)))], [(0, ([], (-1))), (1, ([(4, 1)], 0)), (2, ([], 2))], [(1, ([(0, 1)], 0))], []), [], [])
theorem lwbn_b : syeB swM sT0 lwbn_m 400 1 223 lwbn_L lwbn_S lwbn_A lwbn_P lwbn_G lwbn_B 25 [lwbn_e0] [] = true := by decide +kernel
theorem lwbn {l : Launch} {Γ : zG} {d : Nat} (hd : 1 ≤ d) {Kp : Option Value → zH → Prop} {lo : zL} {h : zH} {ra wa hl tp : Int} (hi : sInv swM h) (b_ra : 1 ≤ ra ∧ ra ≤ 6) (b_wa : 1 ≤ wa ∧ wa ≤ 72) (b_hl : 1 ≤ hl ∧ hl ≤ 95) (b_tp : 0 ≤ tp ∧ tp ≤ 63) (l0 : zget lo 0 = some (.ref 0)) (l1 : zI lo 1 ra) (p_wa : pI h 0 48 = wa) (p_ki : pI h 25 (wa + (-1)).toNat = 2) (p_hl : pI h 0 49 = hl) (p_tp : pI h 26 (hl + (-1)).toNat = tp)
    (hE0 : ∀ (lo' : zL) (h' : zH) (y0 : Int32) (y1 : Int32) (y2 : Int32), sInv swM h' → sMd lwbn_m h h' → pI h' 0 49 = hl - 1 → pI h' 0 48 = wa - 1 → zget lo' 0 = some (.ref 0) → zI lo' 1 ra → y0.toInt = (-1) → y1.toInt = tp → y2.toInt = 2 → zX l Γ false (d + 1) (zhd 223) (zMQ' Γ false (zhd 223) Kp) 0 0 70 lo' [.int y0, .int y1, .int y2, .ref 0] h') : zX l Γ false (d + 1) (zhd 223) (zMQ' Γ false (zhd 223) Kp) 0 0 25 lo [] h := by
  refine sye_ok (mi := 223) (pc := 25) (fun i => [ra, wa, 2, hl, tp].getD i 0) lwbn_b (fun _ _ hc _ => nomatch hc) hd ⟨l0, zIm l1 (by show 1 ≤ ra; omega) (by show ra ≤ 6; omega), trivial⟩ rfl ⟨(fun _ hc => nomatch hc), (fun _ hc => nomatch hc), (fun _ hc => nomatch hc), Or.inl rfl⟩ ⟨⟨p_wa, by show 1 ≤ wa; omega, by show wa ≤ 72; omega⟩, ⟨p_ki, by show 2 ≤ 2; omega, by show 2 ≤ 2; omega⟩, ⟨p_hl, by show 1 ≤ hl; omega, by show hl ≤ 95; omega⟩, ⟨p_tp, by show 0 ≤ tp; omega, by show tp ≤ 63; omega⟩, trivial⟩ trivial (fun _ hc => nomatch hc) hi ?_ ?_
  · intro e he lo' st' h' hp hi' hm
    rcases List.mem_cons.mp he with rfl | he
    · obtain ⟨p1, p2, -, hz⟩ := hp
      obtain ⟨⟨z1, z2, z3, z4⟩, z5, z6⟩ := hz
      have k0 : pI h' 0 49 = hl - 1 := (show pI h' 0 49 = (1 * hl + 0) + (-1) from z1 (0, (none, 49), ([(3, 1)], (-1))) (List.mem_of_getElem? (i := 0) rfl)).trans (by omega)
      have k1 : pI h' 0 48 = wa - 1 := (show pI h' 0 48 = (1 * wa + 0) + (-1) from z1 (0, (none, 48), ([(1, 1)], (-1))) (List.mem_of_getElem? (i := 1) rfl)).trans (by omega)
      have o0 : zget lo' 0 = some (.ref 0) := locR (p2 (0, .inr (.inl 0)) (List.mem_of_getElem? (i := 0) rfl))
      have o1 : zI lo' 1 ra := zI_of (p2 (1, .inl sf32) (List.mem_of_getElem? (i := 1) rfl)) (z3 (1, ([(0, 1)], 0)) (List.mem_of_getElem? (i := 0) rfl)) (show (1 * ra + 0) + 0 = ra from by omega)
      obtain ⟨_, _, rfl, ⟨y0, rfl, -⟩, p1⟩ := p1
      obtain ⟨_, _, rfl, ⟨y1, rfl, -⟩, p1⟩ := p1
      obtain ⟨_, _, rfl, ⟨y2, rfl, -⟩, p1⟩ := p1
      obtain ⟨_, _, rfl, hr, p1⟩ := p1
      have hr : _ = Value.ref 0 := hr
      subst hr
      have p1 : _ = [] := p1
      subst p1
      obtain ⟨v_, ev, hv⟩ := z2 (0, ([], (-1))) (List.mem_of_getElem? (i := 0) rfl)
      cases ev
      have s0 : y0.toInt = (-1) := (show y0.toInt = 0 + (-1) from hv).trans (by omega)
      obtain ⟨v_, ev, hv⟩ := z2 (1, ([(4, 1)], 0)) (List.mem_of_getElem? (i := 1) rfl)
      cases ev
      have s1 : y1.toInt = tp := (show y1.toInt = (1 * tp + 0) + 0 from hv).trans (by omega)
      obtain ⟨v_, ev, hv⟩ := z2 (2, ([], 2)) (List.mem_of_getElem? (i := 2) rfl)
      cases ev
      have s2 : y2.toInt = 2 := (show y2.toInt = 0 + 2 from hv).trans (by omega)
      exact hE0 lo' h' y0 y1 y2 hi' hm k0 k1 o0 o1 s0 s1 s2
    cases he
  · intro e he r' h' hp hi' hm
    cases he
def lwbb_L : List (Nat × sT) := [(0, .inr (.inl 0)), (1, .inl (1, 6))]
def lwbb_S : List sT := []
def lwbb_A : sAs := ([], [], [], [])
def lwbb_P : List sP0 := [(0, (none, 48), (1, 72)), (25, (some 1, (-1)), (3, 14)), (0, (none, 49), (2, 95)), (26, (some 3, (-1)), (0, 63)), (26, (some 3, (-2)), (0, 63))]
def lwbb_G : List sP0 := []
def lwbb_B : List (Nat × Nat × Int) := []
def lwbb_m : sM := [(0, 48, 49), (0, 49, 50)]
def lwbb_e0 : sXe := (70, [.inl sf32, .inl sf32, .inl sf32, .inr (.inl 0)], [(0, .inr (.inl 0)), (1, .inl sf32)], sA0, [], ([(0, (none, 49), ([(3, 1)], (-2))), (0, (none, 48), ([(1, 1)], (-1)))], [(0, ([(4, 1)], 0)), (1, ([(5, 1)], 0)), (2, ([(2, 1)], 0))], [(1, ([(0, 1)], 0))], []), [], [])
theorem lwbb_b : syeB swM sT0 lwbb_m 400 1 223 lwbb_L lwbb_S lwbb_A lwbb_P lwbb_G lwbb_B 25 [lwbb_e0] [] = true := by decide +kernel
theorem lwbb {l : Launch} {Γ : zG} {d : Nat} (hd : 1 ≤ d) {Kp : Option Value → zH → Prop} {lo : zL} {h : zH} {ra wa ki hl tp tu : Int} (hi : sInv swM h) (b_ra : 1 ≤ ra ∧ ra ≤ 6) (b_wa : 1 ≤ wa ∧ wa ≤ 72) (b_ki : 3 ≤ ki ∧ ki ≤ 14) (b_hl : 2 ≤ hl ∧ hl ≤ 95) (b_tp : 0 ≤ tp ∧ tp ≤ 63) (b_tu : 0 ≤ tu ∧ tu ≤ 63) (l0 : zget lo 0 = some (.ref 0)) (l1 : zI lo 1 ra) (p_wa : pI h 0 48 = wa) (p_ki : pI h 25 (wa + (-1)).toNat = ki) (p_hl : pI h 0 49 = hl) (p_tp : pI h 26 (hl + (-1)).toNat = tp) (p_tu : pI h 26 (hl + (-2)).toNat = tu)
    (hE0 : ∀ (lo' : zL) (h' : zH) (y0 : Int32) (y1 : Int32) (y2 : Int32), sInv swM h' → sMd lwbb_m h h' → pI h' 0 49 = hl - 2 → pI h' 0 48 = wa - 1 → zget lo' 0 = some (.ref 0) → zI lo' 1 ra → y0.toInt = tp → y1.toInt = tu → y2.toInt = ki → zX l Γ false (d + 1) (zhd 223) (zMQ' Γ false (zhd 223) Kp) 0 0 70 lo' [.int y0, .int y1, .int y2, .ref 0] h') : zX l Γ false (d + 1) (zhd 223) (zMQ' Γ false (zhd 223) Kp) 0 0 25 lo [] h := by
  refine sye_ok (mi := 223) (pc := 25) (fun i => [ra, wa, ki, hl, tp, tu].getD i 0) lwbb_b (fun _ _ hc _ => nomatch hc) hd ⟨l0, zIm l1 (by show 1 ≤ ra; omega) (by show ra ≤ 6; omega), trivial⟩ rfl ⟨(fun _ hc => nomatch hc), (fun _ hc => nomatch hc), (fun _ hc => nomatch hc), Or.inl rfl⟩ ⟨⟨p_wa, by show 1 ≤ wa; omega, by show wa ≤ 72; omega⟩, ⟨p_ki, by show 3 ≤ ki; omega, by show ki ≤ 14; omega⟩, ⟨p_hl, by show 2 ≤ hl; omega, by show hl ≤ 95; omega⟩, ⟨p_tp, by show 0 ≤ tp; omega, by show tp ≤ 63; omega⟩, ⟨p_tu, by show 0 ≤ tu; omega, by show tu ≤ 63; omega⟩, trivial⟩ trivial (fun _ hc => nomatch hc) hi ?_ ?_
  · intro e he lo' st' h' hp hi' hm
    rcases List.mem_cons.mp he with rfl | he
    · obtain ⟨p1, p2, -, hz⟩ := hp
      obtain ⟨⟨z1, z2, z3, z4⟩, z5, z6⟩ := hz
      have k0 : pI h' 0 49 = hl - 2 := (show pI h' 0 49 = (1 * hl + 0) + (-2) from z1 (0, (none, 49), ([(3, 1)], (-2))) (List.mem_of_getElem? (i := 0) rfl)).trans (by omega)
      have k1 : pI h' 0 48 = wa - 1 := (show pI h' 0 48 = (1 * wa + 0) + (-1) from z1 (0, (none, 48), ([(1, 1)], (-1))) (List.mem_of_getElem? (i := 1) rfl)).trans (by omega)
      have o0 : zget lo' 0 = some (.ref 0) := locR (p2 (0, .inr (.inl 0)) (List.mem_of_getElem? (i := 0) rfl))
      have o1 : zI lo' 1 ra := zI_of (p2 (1, .inl sf32) (List.mem_of_getElem? (i := 1) rfl)) (z3 (1, ([(0, 1)], 0)) (List.mem_of_getElem? (i := 0) rfl)) (show (1 * ra + 0) + 0 = ra from by omega)
      obtain ⟨_, _, rfl, ⟨y0, rfl, -⟩, p1⟩ := p1
      obtain ⟨_, _, rfl, ⟨y1, rfl, -⟩, p1⟩ := p1
      obtain ⟨_, _, rfl, ⟨y2, rfl, -⟩, p1⟩ := p1
      obtain ⟨_, _, rfl, hr, p1⟩ := p1
      have hr : _ = Value.ref 0 := hr
      subst hr
      have p1 : _ = [] := p1
      subst p1
      obtain ⟨v_, ev, hv⟩ := z2 (0, ([(4, 1)], 0)) (List.mem_of_getElem? (i := 0) rfl)
      cases ev
      have s0 : y0.toInt = tp := (show y0.toInt = (1 * tp + 0) + 0 from hv).trans (by omega)
      obtain ⟨v_, ev, hv⟩ := z2 (1, ([(5, 1)], 0)) (List.mem_of_getElem? (i := 1) rfl)
      cases ev
      have s1 : y1.toInt = tu := (show y1.toInt = (1 * tu + 0) + 0 from hv).trans (by omega)
      obtain ⟨v_, ev, hv⟩ := z2 (2, ([(2, 1)], 0)) (List.mem_of_getElem? (i := 2) rfl)
      cases ev
      have s2 : y2.toInt = ki := (show y2.toInt = (1 * ki + 0) + 0 from hv).trans (by omega)
      exact hE0 lo' h' y0 y1 y2 hi' hm k0 k1 o0 o1 s0 s1 s2
    cases he
  · intro e he r' h' hp hi' hm
    cases he
def lwrn_L : List sT := [.inr (.inl 0)]
def lwrn_A : sAs := ([], [], [], [])
def lwrn_P : List sP0 := [(0, (none, 8), (3, 3)), (0, (none, 9), (0, 9999)), (0, (none, 51), (0, 63))]
def lwrn_G : List sP0 := []
def lwrn_B : List (Nat × Nat × Int) := []
def lwrn_m : sM := [(0, 51, 52)]
def lwrn_e0 : sXe := (161, [.inl sf32, .inl sf32, .inl sf32, .inr (.inl 0)], [(0, .inr (.inl 0))], sA0, [], ([(0, (none, 51), ([(2, 1)], 1))], [(0, ([], 0)), (1, ([(1, 1)], 0)), (2, ([], 0))], [], []), [], [])
theorem lwrn_b : syfB swM sT0 lwrn_m 400 1 216 lwrn_L lwrn_A lwrn_P lwrn_G lwrn_B [lwrn_e0] [] = true := by decide +kernel
theorem lwrn {l : Launch} {Γ : zG} {d : Nat} (hd : 1 ≤ d) {Kp : Option Value → zH → Prop} {h : zH} {va kn : Int} (hi : sInv swM h) (b_va : 0 ≤ va ∧ va ≤ 9999) (b_kn : 0 ≤ kn ∧ kn ≤ 63) (p_tk : pI h 0 8 = 3) (p_va : pI h 0 9 = va) (p_kn : pI h 0 51 = kn)
    (hE0 : ∀ (lo' : zL) (h' : zH) (y0 : Int32) (y1 : Int32) (y2 : Int32), sInv swM h' → sMd lwrn_m h h' → pI h' 0 51 = kn + 1 → zget lo' 0 = some (.ref 0) → y0.toInt = 0 → y1.toInt = va → y2.toInt = 0 → zX l Γ false (d + 1) (zhd 216) (zMQ' Γ false (zhd 216) Kp) 0 0 161 lo' [.int y0, .int y1, .int y2, .ref 0] h') : zSem l Γ false (d + 1) (zhd 216) [.ref 0] h Kp := by
  refine syf_ok (mi := 216) (fun i => [3, va, kn].getD i 0) lwrn_b (fun _ _ hc _ => nomatch hc) hd ⟨_, _, rfl, rfl, rfl⟩ ⟨rfl, trivial⟩ ⟨(fun _ hc => nomatch hc), (fun _ hc => nomatch hc), (fun _ hc => nomatch hc), Or.inl rfl⟩ ⟨⟨p_tk, by show 3 ≤ 3; omega, by show 3 ≤ 3; omega⟩, ⟨p_va, by show 0 ≤ va; omega, by show va ≤ 9999; omega⟩, ⟨p_kn, by show 0 ≤ kn; omega, by show kn ≤ 63; omega⟩, trivial⟩ trivial (fun _ hc => nomatch hc) hi ?_ ?_
  · intro e he lo' st' h' hp hi' hm
    rcases List.mem_cons.mp he with rfl | he
    · obtain ⟨p1, p2, -, hz⟩ := hp
      obtain ⟨⟨z1, z2, z3, z4⟩, z5, z6⟩ := hz
      have k0 : pI h' 0 51 = kn + 1 := (show pI h' 0 51 = (1 * kn + 0) + 1 from z1 (0, (none, 51), ([(2, 1)], 1)) (List.mem_of_getElem? (i := 0) rfl)).trans (by omega)
      have o0 : zget lo' 0 = some (.ref 0) := locR (p2 (0, .inr (.inl 0)) (List.mem_of_getElem? (i := 0) rfl))
      obtain ⟨_, _, rfl, ⟨y0, rfl, -⟩, p1⟩ := p1
      obtain ⟨_, _, rfl, ⟨y1, rfl, -⟩, p1⟩ := p1
      obtain ⟨_, _, rfl, ⟨y2, rfl, -⟩, p1⟩ := p1
      obtain ⟨_, _, rfl, hr, p1⟩ := p1
      have hr : _ = Value.ref 0 := hr
      subst hr
      have p1 : _ = [] := p1
      subst p1
      obtain ⟨v_, ev, hv⟩ := z2 (0, ([], 0)) (List.mem_of_getElem? (i := 0) rfl)
      cases ev
      have s0 : y0.toInt = 0 := (show y0.toInt = 0 + 0 from hv).trans (by omega)
      obtain ⟨v_, ev, hv⟩ := z2 (1, ([(1, 1)], 0)) (List.mem_of_getElem? (i := 1) rfl)
      cases ev
      have s1 : y1.toInt = va := (show y1.toInt = (1 * va + 0) + 0 from hv).trans (by omega)
      obtain ⟨v_, ev, hv⟩ := z2 (2, ([], 0)) (List.mem_of_getElem? (i := 2) rfl)
      cases ev
      have s2 : y2.toInt = 0 := (show y2.toInt = 0 + 0 from hv).trans (by omega)
      exact hE0 lo' h' y0 y1 y2 hi' hm k0 o0 s0 s1 s2
    cases he
  · intro e he r' h' hp hi' hm
    cases he
def lwrm_L : List sT := [.inr (.inl 0)]
def lwrm_A : sAs := ([], [], [], [])
def lwrm_P : List sP0 := [(0, (none, 8), (1, 1)), (0, (none, 9), (14, 20)), (0, (none, 51), (0, 63))]
def lwrm_G : List sP0 := []
def lwrm_B : List (Nat × Nat × Int) := []
def lwrm_m : sM := [(0, 51, 52)]
def lwrm_e0 : sXe := (161, [.inl sf32, .inl sf32, .inl sf32, .inr (.inl 0)], [(0, .inr (.inl 0))], sA0, [], ([(0, (none, 51), ([(2, 1)], 1))], [(0, ([], 0)), (1, ([(1, 1)], (-14))), (2, ([], 1))], [], []), [], [])
theorem lwrm_b : syfB swM sT0 lwrm_m 400 1 216 lwrm_L lwrm_A lwrm_P lwrm_G lwrm_B [lwrm_e0] [] = true := by decide +kernel
theorem lwrm {l : Launch} {Γ : zG} {d : Nat} (hd : 1 ≤ d) {Kp : Option Value → zH → Prop} {h : zH} {va kn : Int} (hi : sInv swM h) (b_va : 14 ≤ va ∧ va ≤ 20) (b_kn : 0 ≤ kn ∧ kn ≤ 63) (p_tk : pI h 0 8 = 1) (p_va : pI h 0 9 = va) (p_kn : pI h 0 51 = kn)
    (hE0 : ∀ (lo' : zL) (h' : zH) (y0 : Int32) (y1 : Int32) (y2 : Int32), sInv swM h' → sMd lwrm_m h h' → pI h' 0 51 = kn + 1 → zget lo' 0 = some (.ref 0) → y0.toInt = 0 → y1.toInt = va - 14 → y2.toInt = 1 → zX l Γ false (d + 1) (zhd 216) (zMQ' Γ false (zhd 216) Kp) 0 0 161 lo' [.int y0, .int y1, .int y2, .ref 0] h') : zSem l Γ false (d + 1) (zhd 216) [.ref 0] h Kp := by
  refine syf_ok (mi := 216) (fun i => [1, va, kn].getD i 0) lwrm_b (fun _ _ hc _ => nomatch hc) hd ⟨_, _, rfl, rfl, rfl⟩ ⟨rfl, trivial⟩ ⟨(fun _ hc => nomatch hc), (fun _ hc => nomatch hc), (fun _ hc => nomatch hc), Or.inl rfl⟩ ⟨⟨p_tk, by show 1 ≤ 1; omega, by show 1 ≤ 1; omega⟩, ⟨p_va, by show 14 ≤ va; omega, by show va ≤ 20; omega⟩, ⟨p_kn, by show 0 ≤ kn; omega, by show kn ≤ 63; omega⟩, trivial⟩ trivial (fun _ hc => nomatch hc) hi ?_ ?_
  · intro e he lo' st' h' hp hi' hm
    rcases List.mem_cons.mp he with rfl | he
    · obtain ⟨p1, p2, -, hz⟩ := hp
      obtain ⟨⟨z1, z2, z3, z4⟩, z5, z6⟩ := hz
      have k0 : pI h' 0 51 = kn + 1 := (show pI h' 0 51 = (1 * kn + 0) + 1 from z1 (0, (none, 51), ([(2, 1)], 1)) (List.mem_of_getElem? (i := 0) rfl)).trans (by omega)
      have o0 : zget lo' 0 = some (.ref 0) := locR (p2 (0, .inr (.inl 0)) (List.mem_of_getElem? (i := 0) rfl))
      obtain ⟨_, _, rfl, ⟨y0, rfl, -⟩, p1⟩ := p1
      obtain ⟨_, _, rfl, ⟨y1, rfl, -⟩, p1⟩ := p1
      obtain ⟨_, _, rfl, ⟨y2, rfl, -⟩, p1⟩ := p1
      obtain ⟨_, _, rfl, hr, p1⟩ := p1
      have hr : _ = Value.ref 0 := hr
      subst hr
      have p1 : _ = [] := p1
      subst p1
      obtain ⟨v_, ev, hv⟩ := z2 (0, ([], 0)) (List.mem_of_getElem? (i := 0) rfl)
      cases ev
      have s0 : y0.toInt = 0 := (show y0.toInt = 0 + 0 from hv).trans (by omega)
      obtain ⟨v_, ev, hv⟩ := z2 (1, ([(1, 1)], (-14))) (List.mem_of_getElem? (i := 1) rfl)
      cases ev
      have s1 : y1.toInt = va - 14 := (show y1.toInt = (1 * va + 0) + (-14) from hv).trans (by omega)
      obtain ⟨v_, ev, hv⟩ := z2 (2, ([], 1)) (List.mem_of_getElem? (i := 2) rfl)
      cases ev
      have s2 : y2.toInt = 1 := (show y2.toInt = 0 + 1 from hv).trans (by omega)
      exact hE0 lo' h' y0 y1 y2 hi' hm k0 o0 s0 s1 s2
    cases he
  · intro e he r' h' hp hi' hm
    cases he
def lwkp_L : List (Nat × sT) := [(0, .inr (.inl 0))]
def lwkp_S : List sT := []
def lwkp_A : sAs := ([], [], [], [])
def lwkp_P : List sP0 := [(19, (none, 3), (0, 1)), (19, (none, 4), (0, 1)), (19, (none, 5), (0, 1)), (20, (none, 3), (0, 64)), (20, (none, 4), (0, 64)), (20, (none, 5), (0, 64)), (21, (none, 3), (0, 64)), (21, (none, 4), (0, 64)), (21, (none, 5), (0, 64))]
def lwkp_G : List sP0 := []
def lwkp_B : List (Nat × Nat × Int) := []
def lwkp_m : sM := [(19, 0, 3), (20, 0, 3), (21, 0, 3)]
def lwkp_e0 : sXe := (230, [.inl sf32, .inr (.inl 22)], [(0, .inr (.inl 0))], sA0, [], ([(21, (none, 2), ([(8, 1)], 0)), (21, (none, 1), ([(7, 1)], 0)), (21, (none, 0), ([(6, 1)], 0)), (20, (none, 2), ([(5, 1)], 0)), (20, (none, 1), ([(4, 1)], 0)), (20, (none, 0), ([(3, 1)], 0)), (19, (none, 2), ([(2, 1)], 0)), (19, (none, 1), ([(1, 1)], 0)), (19, (none, 0), ([(0, 1)], 0))], [(0, ([], 64))], [], []), [], [])
theorem lwkp_b : syeB swMt sT0 lwkp_m 400 1 188 lwkp_L lwkp_S lwkp_A lwkp_P lwkp_G lwkp_B 181 [lwkp_e0] [] = true := by decide +kernel
theorem lwkp {l : Launch} {Γ : zG} {d : Nat} (hd : 1 ≤ d) {Kp : Option Value → zH → Prop} {lo : zL} {h : zH} {ta tb tc fa fb fc la lb lc : Int} (hi : sInv swMt h) (b_ta : 0 ≤ ta ∧ ta ≤ 1) (b_tb : 0 ≤ tb ∧ tb ≤ 1) (b_tc : 0 ≤ tc ∧ tc ≤ 1) (b_fa : 0 ≤ fa ∧ fa ≤ 64) (b_fb : 0 ≤ fb ∧ fb ≤ 64) (b_fc : 0 ≤ fc ∧ fc ≤ 64) (b_la : 0 ≤ la ∧ la ≤ 64) (b_lb : 0 ≤ lb ∧ lb ≤ 64) (b_lc : 0 ≤ lc ∧ lc ≤ 64) (l0 : zget lo 0 = some (.ref 0)) (p_ta : pI h 19 3 = ta) (p_tb : pI h 19 4 = tb) (p_tc : pI h 19 5 = tc) (p_fa : pI h 20 3 = fa) (p_fb : pI h 20 4 = fb) (p_fc : pI h 20 5 = fc) (p_la : pI h 21 3 = la) (p_lb : pI h 21 4 = lb) (p_lc : pI h 21 5 = lc)
    (hE0 : ∀ (lo' : zL) (h' : zH) (y0 : Int32), sInv swMt h' → sMd lwkp_m h h' → pI h' 21 2 = lc → pI h' 21 1 = lb → pI h' 21 0 = la → pI h' 20 2 = fc → pI h' 20 1 = fb → pI h' 20 0 = fa → pI h' 19 2 = tc → pI h' 19 1 = tb → pI h' 19 0 = ta → zget lo' 0 = some (.ref 0) → y0.toInt = 64 → zX l Γ false (d + 1) (zhd 188) (zMQ' Γ false (zhd 188) Kp) 0 0 230 lo' [.int y0, .ref 22] h') : zX l Γ false (d + 1) (zhd 188) (zMQ' Γ false (zhd 188) Kp) 0 0 181 lo [] h := by
  refine sye_ok (mi := 188) (pc := 181) (fun i => [ta, tb, tc, fa, fb, fc, la, lb, lc].getD i 0) lwkp_b (fun _ _ hc _ => nomatch hc) hd ⟨l0, trivial⟩ rfl ⟨(fun _ hc => nomatch hc), (fun _ hc => nomatch hc), (fun _ hc => nomatch hc), Or.inl rfl⟩ ⟨⟨p_ta, by show 0 ≤ ta; omega, by show ta ≤ 1; omega⟩, ⟨p_tb, by show 0 ≤ tb; omega, by show tb ≤ 1; omega⟩, ⟨p_tc, by show 0 ≤ tc; omega, by show tc ≤ 1; omega⟩, ⟨p_fa, by show 0 ≤ fa; omega, by show fa ≤ 64; omega⟩, ⟨p_fb, by show 0 ≤ fb; omega, by show fb ≤ 64; omega⟩, ⟨p_fc, by show 0 ≤ fc; omega, by show fc ≤ 64; omega⟩, ⟨p_la, by show 0 ≤ la; omega, by show la ≤ 64; omega⟩, ⟨p_lb, by show 0 ≤ lb; omega, by show lb ≤ 64; omega⟩, ⟨p_lc, by show 0 ≤ lc; omega, by show lc ≤ 64; omega⟩, trivial⟩ trivial (fun _ hc => nomatch hc) hi ?_ ?_
  · intro e he lo' st' h' hp hi' hm
    rcases List.mem_cons.mp he with rfl | he
    · obtain ⟨p1, p2, -, hz⟩ := hp
      obtain ⟨⟨z1, z2, z3, z4⟩, z5, z6⟩ := hz
      have k0 : pI h' 21 2 = lc := (show pI h' 21 2 = (1 * lc + 0) + 0 from z1 (21, (none, 2), ([(8, 1)], 0)) (List.mem_of_getElem? (i := 0) rfl)).trans (by omega)
      have k1 : pI h' 21 1 = lb := (show pI h' 21 1 = (1 * lb + 0) + 0 from z1 (21, (none, 1), ([(7, 1)], 0)) (List.mem_of_getElem? (i := 1) rfl)).trans (by omega)
      have k2 : pI h' 21 0 = la := (show pI h' 21 0 = (1 * la + 0) + 0 from z1 (21, (none, 0), ([(6, 1)], 0)) (List.mem_of_getElem? (i := 2) rfl)).trans (by omega)
      have k3 : pI h' 20 2 = fc := (show pI h' 20 2 = (1 * fc + 0) + 0 from z1 (20, (none, 2), ([(5, 1)], 0)) (List.mem_of_getElem? (i := 3) rfl)).trans (by omega)
      have k4 : pI h' 20 1 = fb := (show pI h' 20 1 = (1 * fb + 0) + 0 from z1 (20, (none, 1), ([(4, 1)], 0)) (List.mem_of_getElem? (i := 4) rfl)).trans (by omega)
      have k5 : pI h' 20 0 = fa := (show pI h' 20 0 = (1 * fa + 0) + 0 from z1 (20, (none, 0), ([(3, 1)], 0)) (List.mem_of_getElem? (i := 5) rfl)).trans (by omega)
      have k6 : pI h' 19 2 = tc := (show pI h' 19 2 = (1 * tc + 0) + 0 from z1 (19, (none, 2), ([(2, 1)], 0)) (List.mem_of_getElem? (i := 6) rfl)).trans (by omega)
      have k7 : pI h' 19 1 = tb := (show pI h' 19 1 = (1 * tb + 0) + 0 from z1 (19, (none, 1), ([(1, 1)], 0)) (List.mem_of_getElem? (i := 7) rfl)).trans (by omega)
      have k8 : pI h' 19 0 = ta := (show pI h' 19 0 = (1 * ta + 0) + 0 from z1 (19, (none, 0), ([(0, 1)], 0)) (List.mem_of_getElem? (i := 8) rfl)).trans (by omega)
      have o0 : zget lo' 0 = some (.ref 0) := locR (p2 (0, .inr (.inl 0)) (List.mem_of_getElem? (i := 0) rfl))
      obtain ⟨_, _, rfl, ⟨y0, rfl, -⟩, p1⟩ := p1
      obtain ⟨_, _, rfl, hr, p1⟩ := p1
      have hr : _ = Value.ref 22 := hr
      subst hr
      have p1 : _ = [] := p1
      subst p1
      obtain ⟨v_, ev, hv⟩ := z2 (0, ([], 64)) (List.mem_of_getElem? (i := 0) rfl)
      cases ev
      have s0 : y0.toInt = 64 := (show y0.toInt = 0 + 64 from hv).trans (by omega)
      exact hE0 lo' h' y0 hi' hm k0 k1 k2 k3 k4 k5 k6 k7 k8 o0 s0
    cases he
  · intro e he r' h' hp hi' hm
    cases he
