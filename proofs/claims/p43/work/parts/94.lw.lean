/-! the class: a knot more of a law (printed by rel.py: lw.py, lw2.py) -/
def lwad_L (n : Nat) (t : Nat) : List sT := [.inr (.inl (17 * t + 20)), .inl sf32]
def lwad_A (n : Nat) (t : Nat) : sAs := ([], [], [], [])
def lwad_P (n : Nat) (t : Nat) : List sP0 := [((17 * t + 20), (none, 1), ((n : Int), (n : Int)))]
def lwad_G (n : Nat) (t : Nat) : List sP0 := []
def lwad_B (n : Nat) (t : Nat) : List (Nat × Nat × Int) := []
def lwad_m (n : Nat) (t : Nat) : sM := [((17 * t + 20), 1, 2), ((17 * t + 21), n, (n + 1))]
def lwad_r0 (n : Nat) (t : Nat) : sXr := (none, sA0, [], ([((17 * t + 20), (none, 1), ([], ((n : Int) + 1))), ((17 * t + 21), (none, ((n : Nat) : Int)), ([(0, 1)], 0))], [], [], []), [], [])
theorem lwad_b : ((List.range 64).all fun n => ((List.range 2).all fun t => syfB swC sT0 (lwad_m n t) 400 0 66 (lwad_L n t) (lwad_A n t) (lwad_P n t) (lwad_G n t) (lwad_B n t) [] [lwad_r0 n t])) = true := by decide +kernel
theorem lwad {l : Launch} {Γ : zG} {d : Nat} (hd : 0 ≤ d) {Kp : Option Value → zH → Prop} {h : zH} {n : Nat} (h_n : n < 64) {t : Nat} (h_t : t < 2) {v : Int} (hi : sInv swC h) (b_v : (-2147483648) ≤ v ∧ v ≤ 2147483647) {x_v : Int32} (e_v : x_v.toInt = v) (p_n0 : pI h (17 * t + 20) 1 = (n : Int))
    (hR0 : ∀ (h' : zH), sInv swC h' → sMd (lwad_m n t) h h' → pI h' (17 * t + 20) 1 = ((n : Int) + 1) → pI h' (17 * t + 21) n = v → Kp none h') : zSem l Γ false (d + 1) (zhd 66) [.ref (17 * t + 20), .int x_v] h Kp := by
  refine syf_ok (mi := 66) (fun i => [v, (n : Int)].getD i 0) (zall_r (zall_r lwad_b h_n) h_t) (fun _ _ hc _ => nomatch hc) hd ⟨_, _, rfl, rfl, ⟨_, _, rfl, ⟨x_v, rfl, by show (-2147483648) ≤ x_v.toInt; omega, by show x_v.toInt ≤ 2147483647; omega⟩, rfl⟩⟩ ⟨rfl, ⟨x_v, rfl, e_v, by show (-2147483648) ≤ v; omega, by show v ≤ 2147483647; omega⟩, trivial⟩ ⟨(fun _ hc => nomatch hc), (fun _ hc => nomatch hc), (fun _ hc => nomatch hc), Or.inl rfl⟩ ⟨⟨p_n0, by show (n : Int) ≤ (n : Int); omega, by show (n : Int) ≤ (n : Int); omega⟩, trivial⟩ trivial (fun _ hc => nomatch hc) hi ?_ ?_
  · intro e he lo' st' h' hp hi' hm
    cases he
  · intro e he r' h' hp hi' hm
    rcases List.mem_cons.mp he with rfl | he
    · obtain ⟨p1, -, hz⟩ := hp
      obtain ⟨⟨z1, z2, z3, z4⟩, z5, z6⟩ := hz
      have k0 : pI h' (17 * t + 20) 1 = ((n : Int) + 1) := (show pI h' (17 * t + 20) 1 = 0 + ((n : Int) + 1) from z1 ((17 * t + 20), (none, 1), ([], ((n : Int) + 1))) (List.mem_of_getElem? (i := 0) rfl)).trans (by omega)
      have k1 : pI h' (17 * t + 21) n = v := (show pI h' (17 * t + 21) n = (1 * v + 0) + 0 from z1 ((17 * t + 21), (none, ((n : Nat) : Int)), ([(0, 1)], 0)) (List.mem_of_getElem? (i := 1) rfl)).trans (by omega)
      have p1 : r' = none := p1
      subst p1
      exact hR0 h' hi' hm k0 k1
    cases he
def lwnu_L (t : Nat) : List sT := [.inr (.inl 6), .inr (.inl 3), .inr (.inl (17 * t + 20))]
def lwnu_A (t : Nat) : sAs := ([], [], [], [])
def lwnu_P (t : Nat) : List sP0 := [(3, (none, 4), (3, 3)), (3, (none, 7), (0, 9999)), ((17 * t + 20), (none, 2), (0, 63))]
def lwnu_G (t : Nat) : List sP0 := []
def lwnu_B (t : Nat) : List (Nat × Nat × Int) := []
def lwnu_m (t : Nat) : sM := [((17 * t + 20), 2, 3)]
def lwnu_e0 (t : Nat) : sXe := (77, [.inl sf32, .inr (.inl (17 * t + 20))], [(0, .inr (.inl 6))], sA0, [], ([((17 * t + 20), (none, 2), ([(2, 1)], 1))], [(0, ([(1, 1)], 0))], [], []), [], [])
theorem lwnu_b : ((List.range 2).all fun t => syfB swC sT0 (lwnu_m t) 400 1 62 (lwnu_L t) (lwnu_A t) (lwnu_P t) (lwnu_G t) (lwnu_B t) [lwnu_e0 t] []) = true := by decide +kernel
theorem lwnu {l : Launch} {Γ : zG} {d : Nat} (hd : 1 ≤ d) {Kp : Option Value → zH → Prop} {h : zH} {t : Nat} (h_t : t < 2) {va kn : Int} (hi : sInv swC h) (b_va : 0 ≤ va ∧ va ≤ 9999) (b_kn : 0 ≤ kn ∧ kn ≤ 63) (p_ki : pI h 3 4 = 3) (p_va : pI h 3 7 = va) (p_kn : pI h (17 * t + 20) 2 = kn)
    (hE0 : ∀ (lo' : zL) (h' : zH) (y0 : Int32), sInv swC h' → sMd (lwnu_m t) h h' → pI h' (17 * t + 20) 2 = kn + 1 → zget lo' 0 = some (.ref 6) → y0.toInt = va → zX l Γ false (d + 1) (zhd 62) (zMQ' Γ false (zhd 62) Kp) 0 0 77 lo' [.int y0, .ref (17 * t + 20)] h') : zSem l Γ false (d + 1) (zhd 62) [.ref 6, .ref 3, .ref (17 * t + 20)] h Kp := by
  refine syf_ok (mi := 62) (fun i => [3, va, kn].getD i 0) (zall_r lwnu_b h_t) (fun _ _ hc _ => nomatch hc) hd ⟨_, _, rfl, rfl, ⟨_, _, rfl, rfl, ⟨_, _, rfl, rfl, rfl⟩⟩⟩ ⟨rfl, rfl, rfl, trivial⟩ ⟨(fun _ hc => nomatch hc), (fun _ hc => nomatch hc), (fun _ hc => nomatch hc), Or.inl rfl⟩ ⟨⟨p_ki, by show 3 ≤ 3; omega, by show 3 ≤ 3; omega⟩, ⟨p_va, by show 0 ≤ va; omega, by show va ≤ 9999; omega⟩, ⟨p_kn, by show 0 ≤ kn; omega, by show kn ≤ 63; omega⟩, trivial⟩ trivial (fun _ hc => nomatch hc) hi ?_ ?_
  · intro e he lo' st' h' hp hi' hm
    rcases List.mem_cons.mp he with rfl | he
    · obtain ⟨p1, p2, -, hz⟩ := hp
      obtain ⟨⟨z1, z2, z3, z4⟩, z5, z6⟩ := hz
      have k0 : pI h' (17 * t + 20) 2 = kn + 1 := (show pI h' (17 * t + 20) 2 = (1 * kn + 0) + 1 from z1 ((17 * t + 20), (none, 2), ([(2, 1)], 1)) (List.mem_of_getElem? (i := 0) rfl)).trans (by omega)
      have o0 : zget lo' 0 = some (.ref 6) := locR (p2 (0, .inr (.inl 6)) (List.mem_of_getElem? (i := 0) rfl))
      obtain ⟨_, _, rfl, ⟨y0, rfl, -⟩, p1⟩ := p1
      obtain ⟨_, _, rfl, hr, p1⟩ := p1
      have hr : _ = Value.ref (17 * t + 20) := hr
      subst hr
      have p1 : _ = [] := p1
      subst p1
      obtain ⟨v_, ev, hv⟩ := z2 (0, ([(1, 1)], 0)) (List.mem_of_getElem? (i := 0) rfl)
      cases ev
      have s0 : y0.toInt = va := (show y0.toInt = (1 * va + 0) + 0 from hv).trans (by omega)
      exact hE0 lo' h' y0 hi' hm k0 o0 s0
    cases he
  · intro e he r' h' hp hi' hm
    cases he
def lwna_L (p : Nat) (t : Nat) : List sT := [.inr (.inl 6), .inr (.inl 3), .inr (.inl (17 * t + 20))]
def lwna_A (p : Nat) (t : Nat) : sAs := ([], [], [], [])
def lwna_P (p : Nat) (t : Nat) : List sP0 := [(3, (none, 4), (((p : Int) + 21), ((p : Int) + 21))), ((17 * t + 20), (none, 2), (0, 63))]
def lwna_G (p : Nat) (t : Nat) : List sP0 := []
def lwna_B (p : Nat) (t : Nat) : List (Nat × Nat × Int) := []
def lwna_m (p : Nat) (t : Nat) : sM := [((17 * t + 20), 2, 3)]
def lwna_e0 (p : Nat) (t : Nat) : sXe := (109, [.inl sf32, .inr (.inl (17 * t + 20))], [(0, .inr (.inl 6))], sA0, [], ([((17 * t + 20), (none, 2), ([(1, 1)], 1))], [(0, ([], (-1 * (p : Int) - 21)))], [], []), [], [])
theorem lwna_b : ((List.range 7).all fun p => ((List.range 2).all fun t => syfB swC sT0 (lwna_m p t) 400 1 62 (lwna_L p t) (lwna_A p t) (lwna_P p t) (lwna_G p t) (lwna_B p t) [lwna_e0 p t] [])) = true := by decide +kernel
theorem lwna {l : Launch} {Γ : zG} {d : Nat} (hd : 1 ≤ d) {Kp : Option Value → zH → Prop} {h : zH} {p : Nat} (h_p : p < 7) {t : Nat} (h_t : t < 2) {kn : Int} (hi : sInv swC h) (b_kn : 0 ≤ kn ∧ kn ≤ 63) (p_ki : pI h 3 4 = ((p : Int) + 21)) (p_kn : pI h (17 * t + 20) 2 = kn)
    (hE0 : ∀ (lo' : zL) (h' : zH) (y0 : Int32), sInv swC h' → sMd (lwna_m p t) h h' → pI h' (17 * t + 20) 2 = kn + 1 → zget lo' 0 = some (.ref 6) → y0.toInt = (-1 * (p : Int) - 21) → zX l Γ false (d + 1) (zhd 62) (zMQ' Γ false (zhd 62) Kp) 0 0 109 lo' [.int y0, .ref (17 * t + 20)] h') : zSem l Γ false (d + 1) (zhd 62) [.ref 6, .ref 3, .ref (17 * t + 20)] h Kp := by
  refine syf_ok (mi := 62) (fun i => [((p : Int) + 21), kn].getD i 0) (zall_r (zall_r lwna_b h_p) h_t) (fun _ _ hc _ => nomatch hc) hd ⟨_, _, rfl, rfl, ⟨_, _, rfl, rfl, ⟨_, _, rfl, rfl, rfl⟩⟩⟩ ⟨rfl, rfl, rfl, trivial⟩ ⟨(fun _ hc => nomatch hc), (fun _ hc => nomatch hc), (fun _ hc => nomatch hc), Or.inl rfl⟩ ⟨⟨p_ki, by show ((p : Int) + 21) ≤ ((p : Int) + 21); omega, by show ((p : Int) + 21) ≤ ((p : Int) + 21); omega⟩, ⟨p_kn, by show 0 ≤ kn; omega, by show kn ≤ 63; omega⟩, trivial⟩ trivial (fun _ hc => nomatch hc) hi ?_ ?_
  · intro e he lo' st' h' hp hi' hm
    rcases List.mem_cons.mp he with rfl | he
    · obtain ⟨p1, p2, -, hz⟩ := hp
      obtain ⟨⟨z1, z2, z3, z4⟩, z5, z6⟩ := hz
      have k0 : pI h' (17 * t + 20) 2 = kn + 1 := (show pI h' (17 * t + 20) 2 = (1 * kn + 0) + 1 from z1 ((17 * t + 20), (none, 2), ([(1, 1)], 1)) (List.mem_of_getElem? (i := 0) rfl)).trans (by omega)
      have o0 : zget lo' 0 = some (.ref 6) := locR (p2 (0, .inr (.inl 6)) (List.mem_of_getElem? (i := 0) rfl))
      obtain ⟨_, _, rfl, ⟨y0, rfl, -⟩, p1⟩ := p1
      obtain ⟨_, _, rfl, hr, p1⟩ := p1
      have hr : _ = Value.ref (17 * t + 20) := hr
      subst hr
      have p1 : _ = [] := p1
      subst p1
      obtain ⟨v_, ev, hv⟩ := z2 (0, ([], (-1 * (p : Int) - 21))) (List.mem_of_getElem? (i := 0) rfl)
      cases ev
      have s0 : y0.toInt = (-1 * (p : Int) - 21) := (show y0.toInt = 0 + (-1 * (p : Int) - 21) from hv).trans (by omega)
      exact hE0 lo' h' y0 hi' hm k0 o0 s0
    cases he
  · intro e he r' h' hp hi' hm
    cases he
def lwnv_L : List (Nat × sT) := [(0, .inr (.inl 6))]
def lwnv_S : List sT := []
def lwnv_A : sAs := ([], [], [], [])
def lwnv_P : List sP0 := []
def lwnv_G : List sP0 := []
def lwnv_B : List (Nat × Nat × Int) := []
def lwnv_m : sM := [(6, 3, 4)]
def lwnv_r0 : sXr := (none, sA0, [], ([(6, (none, 3), ([], 0))], [], [], []), [], [])
theorem lwnv_b : syeB swC sT0 lwnv_m 400 0 62 lwnv_L lwnv_S lwnv_A lwnv_P lwnv_G lwnv_B 80 [] [lwnv_r0] = true := by decide +kernel
theorem lwnv {l : Launch} {Γ : zG} {d : Nat} (hd : 0 ≤ d) {Kp : Option Value → zH → Prop} {lo : zL} {h : zH} (hi : sInv swC h) (l0 : zget lo 0 = some (.ref 6))
    (hR0 : ∀ (h' : zH), sInv swC h' → sMd lwnv_m h h' → pI h' 6 3 = 0 → Kp none h') : zX l Γ false (d + 1) (zhd 62) (zMQ' Γ false (zhd 62) Kp) 0 0 80 lo [] h := by
  refine sye_ok (mi := 62) (pc := 80) (fun i => [].getD i 0) lwnv_b (fun _ _ hc _ => nomatch hc) hd ⟨l0, trivial⟩ rfl ⟨(fun _ hc => nomatch hc), (fun _ hc => nomatch hc), (fun _ hc => nomatch hc), Or.inl rfl⟩ trivial trivial (fun _ hc => nomatch hc) hi ?_ ?_
  · intro e he lo' st' h' hp hi' hm
    cases he
  · intro e he r' h' hp hi' hm
    rcases List.mem_cons.mp he with rfl | he
    · obtain ⟨p1, -, hz⟩ := hp
      obtain ⟨⟨z1, z2, z3, z4⟩, z5, z6⟩ := hz
      have k0 : pI h' 6 3 = 0 := (show pI h' 6 3 = 0 + 0 from z1 (6, (none, 3), ([], 0)) (List.mem_of_getElem? (i := 0) rfl)).trans (by omega)
      have p1 : r' = none := p1
      subst p1
      exact hR0 h' hi' hm k0
    cases he
def lwnw_L : List (Nat × sT) := [(0, .inr (.inl 6))]
def lwnw_S : List sT := []
def lwnw_A : sAs := ([], [], [], [])
def lwnw_P : List sP0 := []
def lwnw_G : List sP0 := []
def lwnw_B : List (Nat × Nat × Int) := []
def lwnw_m : sM := [(6, 3, 4)]
def lwnw_r0 : sXr := (none, sA0, [], ([(6, (none, 3), ([], 0))], [], [], []), [], [])
theorem lwnw_b : syeB swC sT0 lwnw_m 400 0 62 lwnw_L lwnw_S lwnw_A lwnw_P lwnw_G lwnw_B 112 [] [lwnw_r0] = true := by decide +kernel
theorem lwnw {l : Launch} {Γ : zG} {d : Nat} (hd : 0 ≤ d) {Kp : Option Value → zH → Prop} {lo : zL} {h : zH} (hi : sInv swC h) (l0 : zget lo 0 = some (.ref 6))
    (hR0 : ∀ (h' : zH), sInv swC h' → sMd lwnw_m h h' → pI h' 6 3 = 0 → Kp none h') : zX l Γ false (d + 1) (zhd 62) (zMQ' Γ false (zhd 62) Kp) 0 0 112 lo [] h := by
  refine sye_ok (mi := 62) (pc := 112) (fun i => [].getD i 0) lwnw_b (fun _ _ hc _ => nomatch hc) hd ⟨l0, trivial⟩ rfl ⟨(fun _ hc => nomatch hc), (fun _ hc => nomatch hc), (fun _ hc => nomatch hc), Or.inl rfl⟩ trivial trivial (fun _ hc => nomatch hc) hi ?_ ?_
  · intro e he lo' st' h' hp hi' hm
    cases he
  · intro e he r' h' hp hi' hm
    rcases List.mem_cons.mp he with rfl | he
    · obtain ⟨p1, -, hz⟩ := hp
      obtain ⟨⟨z1, z2, z3, z4⟩, z5, z6⟩ := hz
      have k0 : pI h' 6 3 = 0 := (show pI h' 6 3 = 0 + 0 from z1 (6, (none, 3), ([], 0)) (List.mem_of_getElem? (i := 0) rfl)).trans (by omega)
      have p1 : r' = none := p1
      subst p1
      exact hR0 h' hi' hm k0
    cases he
def lwre_L (t : Nat) : List (Nat × sT) := [(0, .inr (.inl 6)), (2, .inr (.inl (17 * t + 20)))]
def lwre_S (t : Nat) : List sT := []
def lwre_A (t : Nat) : sAs := ([], [], [], [])
def lwre_P (t : Nat) : List sP0 := [(6, (none, 2), (0, 0))]
def lwre_G (t : Nat) : List sP0 := []
def lwre_B (t : Nat) : List (Nat × Nat × Int) := []
def lwre_m (t : Nat) : sM := []
def lwre_e0 (t : Nat) : sXe := (117, [.inl sf32, .inr (.inl (17 * t + 20)), .inr (.inl 6)], [], sA0, [], ([], [(0, ([], 0))], [], []), [], [])
theorem lwre_b : ((List.range 2).all fun t => syeB swC sT0 (lwre_m t) 400 0 61 (lwre_L t) (lwre_S t) (lwre_A t) (lwre_P t) (lwre_G t) (lwre_B t) 102 [lwre_e0 t] []) = true := by decide +kernel
theorem lwre {l : Launch} {Γ : zG} {d : Nat} (hd : 0 ≤ d) {Kp : Option Value → zH → Prop} {lo : zL} {h : zH} {t : Nat} (h_t : t < 2) (hi : sInv swC h) (l0 : zget lo 0 = some (.ref 6)) (l2 : zget lo 2 = some (.ref (17 * t + 20))) (p_op : pI h 6 2 = 0)
    (hE0 : ∀ (lo' : zL) (h' : zH) (y0 : Int32), sInv swC h' → sMd (lwre_m t) h h' → y0.toInt = 0 → zX l Γ false (d + 1) (zhd 61) (zMQ' Γ false (zhd 61) Kp) 0 0 117 lo' [.int y0, .ref (17 * t + 20), .ref 6] h') : zX l Γ false (d + 1) (zhd 61) (zMQ' Γ false (zhd 61) Kp) 0 0 102 lo [] h := by
  refine sye_ok (mi := 61) (pc := 102) (fun i => [0].getD i 0) (zall_r lwre_b h_t) (fun _ _ hc _ => nomatch hc) hd ⟨l0, l2, trivial⟩ rfl ⟨(fun _ hc => nomatch hc), (fun _ hc => nomatch hc), (fun _ hc => nomatch hc), Or.inl rfl⟩ ⟨⟨p_op, by show 0 ≤ 0; omega, by show 0 ≤ 0; omega⟩, trivial⟩ trivial (fun _ hc => nomatch hc) hi ?_ ?_
  · intro e he lo' st' h' hp hi' hm
    rcases List.mem_cons.mp he with rfl | he
    · obtain ⟨p1, p2, -, hz⟩ := hp
      obtain ⟨⟨z1, z2, z3, z4⟩, z5, z6⟩ := hz
      obtain ⟨_, _, rfl, ⟨y0, rfl, -⟩, p1⟩ := p1
      obtain ⟨_, _, rfl, hr, p1⟩ := p1
      have hr : _ = Value.ref (17 * t + 20) := hr
      subst hr
      obtain ⟨_, _, rfl, hr, p1⟩ := p1
      have hr : _ = Value.ref 6 := hr
      subst hr
      have p1 : _ = [] := p1
      subst p1
      obtain ⟨v_, ev, hv⟩ := z2 (0, ([], 0)) (List.mem_of_getElem? (i := 0) rfl)
      cases ev
      have s0 : y0.toInt = 0 := (show y0.toInt = 0 + 0 from hv).trans (by omega)
      exact hE0 lo' h' y0 hi' hm s0
    cases he
  · intro e he r' h' hp hi' hm
    cases he
def lwrf_L : List (Nat × sT) := []
def lwrf_S : List sT := []
def lwrf_A : sAs := ([], [], [], [])
def lwrf_P : List sP0 := []
def lwrf_G : List sP0 := []
def lwrf_B : List (Nat × Nat × Int) := []
def lwrf_m : sM := []
def lwrf_r0 : sXr := (none, sA0, [], ([], [], [], []), [], [])
theorem lwrf_b : syeB swC sT0 lwrf_m 400 0 61 lwrf_L lwrf_S lwrf_A lwrf_P lwrf_G lwrf_B 120 [] [lwrf_r0] = true := by decide +kernel
theorem lwrf {l : Launch} {Γ : zG} {d : Nat} (hd : 0 ≤ d) {Kp : Option Value → zH → Prop} {lo : zL} {h : zH} (hi : sInv swC h) 
    (hR0 : ∀ (h' : zH), sInv swC h' → sMd lwrf_m h h' → Kp none h') : zX l Γ false (d + 1) (zhd 61) (zMQ' Γ false (zhd 61) Kp) 0 0 120 lo [] h := by
  refine sye_ok (mi := 61) (pc := 120) (fun i => [].getD i 0) lwrf_b (fun _ _ hc _ => nomatch hc) hd trivial rfl ⟨(fun _ hc => nomatch hc), (fun _ hc => nomatch hc), (fun _ hc => nomatch hc), Or.inl rfl⟩ trivial trivial (fun _ hc => nomatch hc) hi ?_ ?_
  · intro e he lo' st' h' hp hi' hm
    cases he
  · intro e he r' h' hp hi' hm
    rcases List.mem_cons.mp he with rfl | he
    · obtain ⟨p1, -, hz⟩ := hp
      obtain ⟨⟨z1, z2, z3, z4⟩, z5, z6⟩ := hz
      have p1 : r' = none := p1
      subst p1
      exact hR0 h' hi' hm
    cases he
