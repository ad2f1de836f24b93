theorem VM.st {o : Option Int} {y : Int} {h' : zH} {r : List Int} (h : VM o y h') : (pushW o r = some (y :: r) ∧ inW y ∧ pI h' 0 56 = 0) ∨ (pushW o r = none ∧ pI h' 0 56 = 1) := by
  rcases h with ⟨v, rfl, hv, rfl, h0⟩ | ⟨rfl | ⟨v, rfl, hv⟩, h1⟩
  · refine Or.inl ⟨?_, hv, h0⟩
    simp only [pushW]
    rw [if_pos hv]
  · exact Or.inr ⟨rfl, h1⟩
  · refine Or.inr ⟨?_, h1⟩
    simp only [pushW]
    rw [if_neg hv]
theorem zValM {l : Launch} {Γ : zG} {d : Nat} (hd : 1 ≤ d) {h : zH} (hi : sInv swM h) {b : Nat} {x : Int} {e st : List Int} {nm : Nat → Int} {x_rr : Int32} (hk : kR (pI h 22) (pI h 23) (pI h 24) b (x :: e)) (hlt : b + e.length < 64) (hx : x ≤ 9999) (hrr : x_rr.toInt = ((b + e.length : Nat) : Int)) (he : pI h 0 56 = 0) (hst : st = (ixs b e).map (fun i : Nat => pL h 28 i)) (hw : ∀ v, v ∈ st → inW v) (hnm : ∀ i, i < 7 → pL h 27 i = nm i ∧ inW (nm i)) : zSem l Γ false (d + 1) (zhd 241) [.ref 0, .int x_rr] h (fun r h' => ∃ y : Int64, r = some (.long y) ∧ sInv swM h' ∧ sMd [(0, 56, 57)] h h' ∧ ((stp nm x st = some (y.toInt :: (ixn b x e).map (fun i : Nat => pL h 28 i)) ∧ inW y.toInt ∧ pI h' 0 56 = 0) ∨ (stp nm x st = none ∧ pI h' 0 56 = 1))) := by
  have er : (((b + e.length : Nat) : Int) + 0).toNat = b + e.length := by omega
  have ei : ∀ i : Nat, ((i : Int) + 0).toNat = i := fun i => by omega
  have brr : (0 : Int) ≤ ((b + e.length : Nat) : Int) ∧ ((b + e.length : Nat) : Int) ≤ 63 := by omega
  have ixb : ∀ i, i ∈ ixs b e → i < 64 := fun i hi => by have := ixs_lt hi; omega
  rcases hk.2 with ⟨q1, q2, q3⟩ | ⟨q1, q1', q2, q3⟩ | ⟨q1, q2, i, r', q3, q4⟩ | ⟨q1, q2, q2', q3, i, j, r', q4, q5, q6⟩
  · refine (vmN hd hi brr hrr he (pv := x) ⟨q1, hx⟩ (by rw [er]; exact q2) (by rw [er]; exact q3)).mono ?_
    rintro r h' ⟨y, rfl, a1, a2, a3⟩
    refine ⟨y, rfl, a1, a2, ?_⟩
    unfold stp ixn
    rw [if_pos q1, if_neg (by omega), if_neg (by omega), ← hst]
    exact a3.st
  · obtain ⟨p, ep⟩ : ∃ p : Nat, -x - 21 = (p : Int) := ⟨(-x - 21).toNat, by omega⟩
    have hp := hnm p (by omega)
    refine (vmV hd hi brr hrr he (pv := (p : Int)) (nm := nm p) ⟨by omega, by omega⟩ hp.2 (by rw [er]; exact q2) (by rw [er]; exact q3.trans ep) (by rw [ei]; exact hp.1)).mono ?_
    rintro r h' ⟨y, rfl, a1, a2, a3⟩
    refine ⟨y, rfl, a1, a2, ?_⟩
    unfold stp ixn
    rw [if_neg (by omega), if_pos q1, if_neg (by omega), if_neg (by omega), ← hst, show (-x - 21).toNat = p from by omega]
    exact a3.st
  · subst q1
    have bi := ixb i (by rw [q3]; exact List.mem_cons_self)
    rw [q3] at hst
    simp only [List.map_cons] at hst
    refine (vmT hd hi brr hrr he (pa := (i : Int)) (va := pL h 28 i) ⟨by omega, by omega⟩ (hw _ (by rw [hst]; exact List.mem_cons_self)) (by rw [er]; exact q2) (by rw [er]; exact q4) (by rw [ei])).mono ?_
    rintro r h' ⟨y, rfl, a1, a2, a3⟩
    refine ⟨y, rfl, a1, a2, ?_⟩
    unfold stp ixn
    rw [if_neg (by decide), if_neg (by decide), if_pos rfl, if_pos rfl, q3, hst]
    exact a3.st
  · have bi := ixb i (by rw [q4]; exact List.mem_cons_of_mem _ List.mem_cons_self)
    have bj := ixb j (by rw [q4]; exact List.mem_cons_self)
    rw [q4] at hst
    simp only [List.map_cons] at hst
    have wa : inW (pL h 28 i) := hw _ (by rw [hst]; exact List.mem_cons_of_mem _ List.mem_cons_self)
    have wb : inW (pL h 28 j) := hw _ (by rw [hst]; exact List.mem_cons_self)
    have key : zSem l Γ false (d + 1) (zhd 241) [.ref 0, .int x_rr] h (fun r h' => ∃ y : Int64, r = some (.long y) ∧ sInv swM h' ∧ sMd [(0, 56, 57)] h h' ∧ VM (opv x (pL h 28 i) (pL h 28 j)) y.toInt h') := by
      obtain ⟨k, hkd⟩ : ∃ k : Int, pI h 22 (b + e.length) = k := ⟨_, rfl⟩
      rw [hkd] at q2 q2' q3
      have ks : k = 3 ∨ k = 4 ∨ k = 5 ∨ k = 6 ∨ k = 7 ∨ k = 8 ∨ k = 9 ∨ k = 10 ∨ k = 11 ∨ k = 12 ∨ k = 13 ∨ k = 14 := by omega
      have B1 : (0 : Int) ≤ (i : Int) ∧ (i : Int) ≤ 63 := by omega
      have B2 : (0 : Int) ≤ (j : Int) ∧ (j : Int) ≤ 63 := by omega
      have p5 : pI h 23 (((b + e.length : Nat) : Int) + 0).toNat = (i : Int) := by rw [er]; exact q5
      have p6 : pI h 24 (((b + e.length : Nat) : Int) + 0).toNat = (j : Int) := by rw [er]; exact q6
      have p7 : pL h 28 ((i : Int) + 0).toNat = pL h 28 i := by rw [ei]
      have p8 : pL h 28 ((j : Int) + 0).toNat = pL h 28 j := by rw [ei]
      have p0 : pI h 22 (((b + e.length : Nat) : Int) + 0).toNat = k := by rw [er]; exact hkd
      have xe : x = -(cm k) := by omega
      subst xe
      rcases ks with rfl | rfl | rfl | rfl | rfl | rfl | rfl | rfl | rfl | rfl | rfl | rfl
      · exact vmAn hd hi brr B1 B2 wa wb hrr p0 he p5 p6 p7 p8
      · exact vmOr hd hi brr B1 B2 wa wb hrr p0 he p5 p6 p7 p8
      · exact vmLs hd hi brr B1 B2 wa wb hrr p0 he p5 p6 p7 p8
      · exact vmLe hd hi brr B1 B2 wa wb hrr p0 he p5 p6 p7 p8
      · exact vmEq hd hi brr B1 B2 wa wb hrr p0 he p5 p6 p7 p8
      · exact vmNe hd hi brr B1 B2 wa wb hrr p0 he p5 p6 p7 p8
      · exact vmGe hd hi brr B1 B2 wa wb hrr p0 he p5 p6 p7 p8
      · exact vmGt hd hi brr B1 B2 wa wb hrr p0 he p5 p6 p7 p8
      · exact vmPl hd hi brr B1 B2 wa wb hrr p0 he p5 p6 p7 p8
      · exact vmMi hd hi brr B1 B2 wa wb hrr p0 he p5 p6 p7 p8
      · exact vmTi hd hi brr hrr he B1 B2 wa wb p0 p5 p6 p7 p8
      · exact vmOv hd hi brr hrr he B1 B2 wa wb p0 p5 p6 p7 p8
    refine key.mono ?_
    rintro r h' ⟨y, rfl, a1, a2, a3⟩
    refine ⟨y, rfl, a1, a2, ?_⟩
    unfold stp ixn
    rw [if_neg (by omega), if_neg (by omega), if_neg (by omega), if_neg (by omega), if_pos q1, q4, hst]
    exact a3.st
