/-! what is told, place by place -/
theorem zI.bd {lo : zL} {j : Nat} {v : Int} (h : zI lo j v) : -2147483648 ≤ v ∧ v ≤ 2147483647 := by
  obtain ⟨x, -, rfl⟩ := h
  exact i32bd x
/-- the class: what is told lies at 17 * t + 9 -/
def CTt (t : Nat) (N : zN) (S : zS) (h : zH) : Prop := h.2.2.2 0 5 = some (17 * t + 9) ∧ (pI h (17 * t + 10) 3 = (S 0 : Int) ∧ pI h (17 * t + 12) 3 = (S 1 : Int) ∧ pI h (17 * t + 14) 3 = (S 2 : Int) ∧ pI h (17 * t + 16) 3 = (S 3 : Int) ∧ pI h (17 * t + 18) 3 = (S 4 : Int)) ∧
  (∀ i, i < S 1 → pI h (17 * t + 13) (6 * i) = N 1 i ∧ pI h (17 * t + 13) (6 * i + 1) = N 2 i ∧ pI h (17 * t + 13) (6 * i + 2) = N 3 i ∧ pI h (17 * t + 13) (6 * i + 3) = N 4 i ∧ pI h (17 * t + 13) (6 * i + 4) = N 5 i ∧ pI h (17 * t + 13) (6 * i + 5) = N 6 i) ∧
  (∀ i, i < S 2 → pI h (17 * t + 15) (2 * i) = N 7 i ∧ pI h (17 * t + 15) (2 * i + 1) = N 8 i) ∧
  (∀ i, i < S 3 → pI h (17 * t + 17) (4 * i) = N 9 i ∧ pI h (17 * t + 17) (4 * i + 1) = N 10 i ∧ pI h (17 * t + 17) (4 * i + 2) = N 11 i ∧ pI h (17 * t + 17) (4 * i + 3) = N 12 i) ∧
  (∀ i, i < S 4 → pI h (17 * t + 19) i = N 13 i) ∧ pI h (17 * t + 9) 6 = N 14 0 ∧ pI h (17 * t + 9) 7 = N 14 1
theorem CT.t {N : zN} {S : zS} {h : zH} (hC : CT N S h) : ∃ t, t < 2 ∧ CTt t N S h := by
  obtain ⟨d0, hd, h5, -, hR⟩ := hC
  obtain ⟨t, ht, rfl⟩ : ∃ t, t < 2 ∧ d0 = 17 * t + 9 := by
    rcases dLs_b hd with rfl | rfl
    · exact ⟨0, by decide, rfl⟩
    · exact ⟨1, by decide, rfl⟩
  have hc := hR.2.2.2.1
  refine ⟨t, ht, h5, ⟨hR.s (j := 0) (by decide), hR.s (j := 1) (by decide), hR.s (j := 2) (by decide), hR.s (j := 3) (by decide), hR.s (j := 4) (by decide)⟩, fun i hi => ?_, fun i hi => ?_, fun i hi => ?_, fun i hi => ?_, hR.2.2.2.2.1 0 (by decide), hR.2.2.2.2.1 1 (by decide)⟩
  · have e : i * wdO 1 = 6 * i := Nat.mul_comm i 6
    have q : ∀ c, c < 6 → pI h (17 * t + 13) (6 * i + c) = N (clO 1 c) i := fun c hc6 => by
      rw [← e]
      exact hc 1 c i (by decide) hc6 hi
    exact ⟨q 0 (by decide), q 1 (by decide), q 2 (by decide), q 3 (by decide), q 4 (by decide), q 5 (by decide)⟩
  · have e : i * wdO 2 = 2 * i := Nat.mul_comm i 2
    have q : ∀ c, c < 2 → pI h (17 * t + 15) (2 * i + c) = N (clO 2 c) i := fun c hc6 => by
      rw [← e]
      exact hc 2 c i (by decide) hc6 hi
    exact ⟨q 0 (by decide), q 1 (by decide)⟩
  · have e : i * wdO 3 = 4 * i := Nat.mul_comm i 4
    have q : ∀ c, c < 4 → pI h (17 * t + 17) (4 * i + c) = N (clO 3 c) i := fun c hc6 => by
      rw [← e]
      exact hc 3 c i (by decide) hc6 hi
    exact ⟨q 0 (by decide), q 1 (by decide), q 2 (by decide), q 3 (by decide)⟩
  · have e : i * wdO 4 + 0 = i := by
      show i * 1 + 0 = i
      omega
    have q := hc 4 0 i (by decide) (by decide) hi
    rw [e] at q
    exact q
/-- nothing that is told is written -/
def ctb (md : sM) : Bool := md.all (fun t => decide (43 ≤ t.1) || decide (1 ≤ t.1 ∧ t.1 < 9) || decide (t.1 = 24 ∨ t.1 = 25 ∨ t.1 = 41 ∨ t.1 = 42) || (t.1 == 0 && (decide (6 ≤ t.2.1) || decide (t.2.2 ≤ 5))))
theorem ctb_k {md : sM} (hb : ctb md = true) {q j : Nat} (hq : (9 ≤ q ∧ q < 43 ∧ q ≠ 24 ∧ q ≠ 25 ∧ q ≠ 41 ∧ q ≠ 42) ∨ (q = 0 ∧ j = 5)) : smem md q j = false := by
  cases hc : smem md q j with
  | false => rfl
  | true =>
    obtain ⟨t, ht, h1⟩ := List.any_eq_true.mp hc
    have h2 := List.all_eq_true.mp hb t ht
    simp only [Bool.and_eq_true, Bool.or_eq_true, beq_iff_eq, decide_eq_true_eq] at h1 h2
    omega
theorem CTt.md {t : Nat} (ht : t < 2) {N : zN} {S : zS} {h h' : zH} {md : sM} (hC : CTt t N S h) (hm : sMd md h h') (hb : ctb md = true) : CTt t N S h' := by
  have k : ∀ c j, c < 15 → pI h' (17 * t + 9 + c) j = pI h (17 * t + 9 + c) j := fun c j hc => pI_md hm (ctb_k hb (Or.inl (by omega)))
  obtain ⟨a0, ⟨a1, a2, a3, a4, a5⟩, b1, b2, b3, b4, b5, b6⟩ := hC
  refine ⟨((hm 0 5 (ctb_k hb (Or.inr ⟨rfl, rfl⟩))).2.1).trans a0, ⟨(k 1 3 (by decide)).trans a1, (k 3 3 (by decide)).trans a2, (k 5 3 (by decide)).trans a3, (k 7 3 (by decide)).trans a4, (k 9 3 (by decide)).trans a5⟩, fun i hi => ?_, fun i hi => ?_, fun i hi => ?_, fun i hi => ?_, (k 0 6 (by decide)).trans b5, (k 0 7 (by decide)).trans b6⟩
  · obtain ⟨q0, q1, q2, q3, q4, q5⟩ := b1 i hi
    exact ⟨(k 4 _ (by decide)).trans q0, (k 4 _ (by decide)).trans q1, (k 4 _ (by decide)).trans q2, (k 4 _ (by decide)).trans q3, (k 4 _ (by decide)).trans q4, (k 4 _ (by decide)).trans q5⟩
  · obtain ⟨q0, q1⟩ := b2 i hi
    exact ⟨(k 6 _ (by decide)).trans q0, (k 6 _ (by decide)).trans q1⟩
  · obtain ⟨q0, q1, q2, q3⟩ := b3 i hi
    exact ⟨(k 8 _ (by decide)).trans q0, (k 8 _ (by decide)).trans q1, (k 8 _ (by decide)).trans q2, (k 8 _ (by decide)).trans q3⟩
  · exact (k 10 _ (by decide)).trans (b4 i hi)
/-- the reference -/
def TMt (N : zN) (S : zS) (h : zH) : Prop := (pI h 0 12 = (S 0 : Int) ∧ pI h 0 13 = (S 1 : Int) ∧ pI h 0 14 = (S 2 : Int) ∧ pI h 0 15 = (S 3 : Int) ∧ pI h 0 16 = (S 4 : Int)) ∧ (S 0 ≤ 5 ∧ S 1 ≤ 8 ∧ S 2 ≤ 10 ∧ S 3 ≤ 10 ∧ S 4 ≤ 6) ∧
  (∀ i, i < S 0 → pI h 5 i = N 0 i) ∧ (∀ i, i < S 1 → pI h 6 i = N 1 i ∧ pI h 7 i = N 2 i ∧ pI h 8 i = N 3 i ∧ pI h 9 i = N 4 i ∧ pI h 10 i = N 5 i ∧ pI h 11 i = N 6 i) ∧
  (∀ i, i < S 2 → pI h 12 i = N 7 i ∧ pI h 13 i = N 8 i) ∧ (∀ i, i < S 3 → pI h 14 i = N 9 i ∧ pI h 15 i = N 10 i ∧ pI h 16 i = N 11 i ∧ pI h 17 i = N 12 i) ∧ (∀ i, i < S 4 → pI h 18 i = N 13 i) ∧ pI h 4 0 = N 14 0 ∧ pI h 4 1 = N 14 1
theorem TM.t {N : zN} {S : zS} {h : zH} (hi : sInv swM h) (hT : TM N S h) : TMt N S h := by
  have b := hT.b hi
  obtain ⟨t1, t2, t3, ⟨t4, t5⟩, t6⟩ := hT
  have c : ∀ t, t ∈ colsA → ∀ i, i < S t.2.2.2 → pI h t.2.1 i = N t.1 i := t3
  refine ⟨⟨t1 0 (by decide), t1 1 (by decide), t1 2 (by decide), t1 3 (by decide), t1 4 (by decide)⟩, ⟨b 0 (by decide), b 1 (by decide), b 2 (by decide), b 3 (by decide), b 4 (by decide)⟩, fun i hi => c (0, 5, 5, 0) (by decide) i hi, fun i hi => ⟨c (1, 6, 8, 1) (by decide) i hi, c (2, 7, 8, 1) (by decide) i hi, c (3, 8, 8, 1) (by decide) i hi, c (4, 9, 8, 1) (by decide) i hi, c (5, 10, 8, 1) (by decide) i hi, c (6, 11, 8, 1) (by decide) i hi⟩, fun i hi => ⟨c (7, 12, 10, 2) (by decide) i hi, c (8, 13, 10, 2) (by decide) i hi⟩, fun i hi => ⟨c (9, 14, 10, 3) (by decide) i hi, c (10, 15, 10, 3) (by decide) i hi, c (11, 16, 10, 3) (by decide) i hi, c (12, 17, 10, 3) (by decide) i hi⟩, fun i hi => c (13, 18, 6, 4) (by decide) i hi, t4, t5⟩
def tmb (md : sM) : Bool := md.all (fun t => decide (19 ≤ t.1) || decide (t.1 = 1 ∨ t.1 = 2 ∨ t.1 = 3) || (t.1 == 0 && (decide (17 ≤ t.2.1) || decide (t.2.2 ≤ 12))) || (t.1 == 4 && decide (2 ≤ t.2.1)))
theorem tmb_k {md : sM} (hb : tmb md = true) {q j : Nat} (hq : (5 ≤ q ∧ q < 19) ∨ (q = 0 ∧ 12 ≤ j ∧ j < 17) ∨ (q = 4 ∧ j < 2)) : smem md q j = false := by
  cases hc : smem md q j with
  | false => rfl
  | true =>
    obtain ⟨t, ht, h1⟩ := List.any_eq_true.mp hc
    have h2 := List.all_eq_true.mp hb t ht
    simp only [Bool.and_eq_true, Bool.or_eq_true, beq_iff_eq, decide_eq_true_eq] at h1 h2
    omega
theorem TMt.md {N : zN} {S : zS} {h h' : zH} {md : sM} (hC : TMt N S h) (hm : sMd md h h') (hb : tmb md = true) : TMt N S h' := by
  have k : ∀ q j, 5 ≤ q → q < 19 → pI h' q j = pI h q j := fun q j a b => pI_md hm (tmb_k hb (Or.inl ⟨a, b⟩))
  have k0 : ∀ j, 12 ≤ j → j < 17 → pI h' 0 j = pI h 0 j := fun j a b => pI_md hm (tmb_k hb (Or.inr (Or.inl ⟨rfl, a, b⟩)))
  have k4 : ∀ j, j < 2 → pI h' 4 j = pI h 4 j := fun j a => pI_md hm (tmb_k hb (Or.inr (Or.inr ⟨rfl, a⟩)))
  obtain ⟨⟨a1, a2, a3, a4, a5⟩, a6, b0, b1, b2, b3, b4, b5, b6⟩ := hC
  refine ⟨⟨(k0 12 (by decide) (by decide)).trans a1, (k0 13 (by decide) (by decide)).trans a2, (k0 14 (by decide) (by decide)).trans a3, (k0 15 (by decide) (by decide)).trans a4, (k0 16 (by decide) (by decide)).trans a5⟩, a6, fun i hi => (k 5 i (by decide) (by decide)).trans (b0 i hi), fun i hi => ?_, fun i hi => ?_, fun i hi => ?_, fun i hi => (k 18 i (by decide) (by decide)).trans (b4 i hi), (k4 0 (by decide)).trans b5, (k4 1 (by decide)).trans b6⟩
  · obtain ⟨q0, q1, q2, q3, q4, q5⟩ := b1 i hi
    exact ⟨(k 6 i (by decide) (by decide)).trans q0, (k 7 i (by decide) (by decide)).trans q1, (k 8 i (by decide) (by decide)).trans q2, (k 9 i (by decide) (by decide)).trans q3, (k 10 i (by decide) (by decide)).trans q4, (k 11 i (by decide) (by decide)).trans q5⟩
  · obtain ⟨q0, q1⟩ := b2 i hi
    exact ⟨(k 12 i (by decide) (by decide)).trans q0, (k 13 i (by decide) (by decide)).trans q1⟩
  · obtain ⟨q0, q1, q2, q3⟩ := b3 i hi
    exact ⟨(k 14 i (by decide) (by decide)).trans q0, (k 15 i (by decide) (by decide)).trans q1, (k 16 i (by decide) (by decide)).trans q2, (k 17 i (by decide) (by decide)).trans q3⟩
