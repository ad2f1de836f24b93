theorem zLawOfM {l : Launch} {Γ : zG} {d : Nat} (hd : 2 ≤ d) {h : zH} (hi : sInv swM h) {j : Nat} (hj : j < 3) {b : Nat} {e : List Int} {nm : Nat → Int} (hb : b + e.length ≤ 64) (he9 : ∀ x, x ∈ e → x ≤ 9999) (hk : kR (pI h 22) (pI h 23) (pI h 24) b e) (h1 : (ixs b e).length = 1) (hf : pI h 20 j = (b : Int)) (ht : pI h 21 j = ((b + e.length : Nat) : Int)) (hnm : ∀ i, i < 7 → pL h 27 i = nm i ∧ inW (nm i)) {x : Int32} (hx : x.toInt = (j : Int)) : zSem l Γ false (d + 2) (zhd 240) [.ref 0, .int x] h (fun r h' => ∃ y : Int64, r = some (.long y) ∧ sInv swM h' ∧ sMd [(0, 56, 57), (28, 0, 64)] h h' ∧ ((∃ v, evS nm e = some [v] ∧ inW v ∧ y.toInt = v ∧ pI h' 0 56 = 0) ∨ (evS nm e = none ∧ pI h' 0 56 = 1))) := by
  have ej : ((j : Int) + 0).toNat = j := by omega
  obtain ⟨x0, e0, rfl⟩ : ∃ x0 e0, e = x0 :: e0 := by
    cases e with
    | nil => simp only [ixs, List.length_nil] at h1; omega
    | cons x0 e0 => exact ⟨x0, e0, rfl⟩
  have hix : ixs b (x0 :: e0) = [b + e0.length] := by
    rw [ixs_c] at h1 ⊢
    simp only [List.length_cons] at h1
    rw [List.length_eq_zero_iff.mp (by omega : (ixn b x0 e0).length = 0)]
  have elc : (x0 :: e0).length = e0.length + 1 := rfl
  refine em0 (d := d + 1) (by omega) hi (la := (j : Int)) ⟨by omega, by omega⟩ (ff := (b : Int)) ⟨by omega, by omega⟩ hx (by rw [ej]; exact hf) (fun lo1 h1' hi1 hm1 e56 l0 l1 l2 => ?_)
  have w1 : ∀ q i, q ≠ 0 → pI h1' q i = pI h q i := fun q i hq => pI_md hm1 (smem1n (by omega))
  have v1 : ∀ q i, q ≠ 0 → pL h1' q i = pL h q i := fun q i hq => pL_md hm1 (smem1n (by omega))
  refine zLawLM hd hj (h0 := h1') hb he9 (kR_eq (fun i _ _ => ⟨w1 22 i (by decide), w1 23 i (by decide), w1 24 i (by decide)⟩) hk) ((w1 21 j (by decide)).trans ht) (fun i hi7 => ⟨(v1 27 i (by decide)).trans (hnm i hi7).1, (hnm i hi7).2⟩) ?_ (x0 :: e0).length lo1 h1' (Nat.le_refl _) hi1 sMd.rf l0 l1 (by rw [Nat.sub_self]; exact l2) ?_
  · intro lo h3 hi3 hm3 o0 o1 hE
    have M : sMd [(0, 56, 57), (28, 0, 64)] h h3 := (hm1.sub rfl).seq hm3
    rcases hE with ⟨st, a1, a2, a3, a4⟩ | ⟨a1, a2⟩
    · rw [hix] at a3
      simp only [List.map_cons, List.map_nil] at a3
      have bv : inW (pL h3 28 (b + e0.length)) := a4 _ (by rw [a3]; exact List.mem_cons_self)
      have bv' := bv
      unfold inW at bv'
      refine emQ (d := d + 1) (by omega) hi3 (la := (j : Int)) ⟨by omega, by omega⟩ (tt := ((b + (x0 :: e0).length : Nat) : Int)) ⟨by omega, by omega⟩ (va := pL h3 28 (b + e0.length)) ⟨by omega, by omega⟩ o0 o1 a2 (by rw [ej, pI_md hm3 rfl, w1 21 j (by decide)]; exact ht) (by rw [show (((b + (x0 :: e0).length : Nat) : Int) + (-1)).toNat = b + e0.length from by omega]) (fun h' y hi' hm' hy => ?_)
      exact ⟨y, rfl, hi', M.seq (hm'.sub rfl), Or.inl ⟨_, by rw [a1, a3], bv, hy, (pI_md hm' rfl).trans a2⟩⟩
    · refine emP (d := d + 1) (by omega) hi3 (la := (j : Int)) ⟨by omega, by omega⟩ o0 o1 a2 (fun h' y hi' hm' hy => ?_)
      exact ⟨y, rfl, hi', M.seq (hm'.sub rfl), Or.inr ⟨a1, (pI_md hm' rfl).trans a2⟩⟩
  · rw [List.drop_length]
    exact Or.inl ⟨[], rfl, e56, rfl, fun v hv => nomatch hv⟩
