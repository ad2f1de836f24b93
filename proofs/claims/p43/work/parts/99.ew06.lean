theorem vE_b : spmB swM sT0 [(0, 56, 57)] 1000 2 241 [] [sr0, .inl (0, 63)] (a1 [(0, 56, (1, 1))]) [] [] [(some (.inr (.inr sf64)), a1 [(0, 56, (1, 1))], [])] = true := by decide +kernel
theorem vE {l : Launch} {Γ : zG} {d : Nat} (hd : 2 ≤ d) {h : zH} (hi : sInv swM h) {x : Int32} (hx : 0 ≤ x.toInt ∧ x.toInt ≤ 63) (he : pI h 0 56 = 1) : zSem l Γ false (d + 1) (zhd 241) [.ref 0, .int x] h (fun r h' => ∃ y : Int64, r = some (.long y) ∧ sInv swM h' ∧ sMd [(0, 56, 57)] h h' ∧ pI h' 0 56 = 1) := by
  refine spm_ok (fun _ => 0) vE_b (fun mi c h => nomatch h) hd ⟨_, _, rfl, rfl, _, _, rfl, ⟨x, rfl, hx.1, hx.2⟩, rfl⟩ (sAok.of (iB (by omega) (by omega) iE)) trivial hi (fun e he => nomatch he) ?_
  intro e0 he0 r' h' hp hi' hm
  have e0 := List.mem_singleton.mp he0
  subst e0
  obtain ⟨⟨v, rfl, y, rfl, -⟩, p2, -⟩ := hp
  have q : 1 ≤ pI h' 0 56 ∧ pI h' 0 56 ≤ 1 := p2.1 (0, 56, (1, 1)) List.mem_cons_self
  exact ⟨y, rfl, hi', hm, by omega⟩
