/-! what a text tells lies in its bounds -/
def PB (N : zN) (S : zS) : Prop := (S 0 ≤ 5 ∧ S 1 ≤ 8 ∧ S 2 ≤ 10 ∧ S 3 ≤ 10 ∧ S 4 ≤ 6) ∧ (∀ i, i < S 1 → (0 ≤ N 2 i ∧ N 2 i < (S 0 : Int)) ∧ (0 ≤ N 3 i ∧ N 3 i ≤ 99) ∧ (0 ≤ N 4 i ∧ N 4 i ≤ 99) ∧ (0 ≤ N 5 i ∧ N 5 i ≤ 9) ∧ (0 ≤ N 6 i ∧ N 6 i ≤ 9)) ∧ (∀ i, i < S 2 → (0 ≤ N 7 i ∧ N 7 i < (S 1 : Int)) ∧ 0 ≤ N 8 i ∧ N 8 i ≤ 99) ∧ (∀ i, i < S 3 → (0 ≤ N 9 i ∧ N 9 i < (S 1 : Int)) ∧ (0 ≤ N 10 i ∧ N 10 i < (S 1 : Int)) ∧ (0 ≤ N 11 i ∧ N 11 i ≤ 99) ∧ (0 ≤ N 12 i ∧ N 12 i ≤ 99) ∧ N 10 i ≠ N 9 i) ∧ (∀ i, i < S 4 → 1 ≤ N 13 i ∧ N 13 i ≤ 9) ∧ (0 ≤ N 14 0 ∧ N 14 0 ≤ 100) ∧ (0 ≤ N 14 1 ∧ N 14 1 ≤ 99999)
theorem PB.zero {N : zN} (h0 : N 14 0 = 0) (h1 : N 14 1 = 0) : PB N S0 := ⟨by decide, fun i h => absurd h (Nat.not_lt_zero i), fun i h => absurd h (Nat.not_lt_zero i), fun i h => absurd h (Nat.not_lt_zero i), fun i h => absurd h (Nat.not_lt_zero i), by omega, by omega⟩
theorem nU_n {N : zN} {k r a i : Nat} {v : Int} (h : ¬ (a = k ∧ i = r)) : nU N k r v a i = N a i := if_neg h
theorem nU_s {N : zN} {k r : Nat} {v : Int} : nU N k r v k r = v := if_pos ⟨rfl, rfl⟩
theorem nU_k {N : zN} {k r a i : Nat} {v : Int} (h : a ≠ k) : nU N k r v a i = N a i := if_neg (fun e => h e.1)
/-- other columns, other counts -/
theorem PB.eq {N N' : zN} {S S' : zS} (h : PB N S) (hS : ∀ j, j < 5 → S' j = S j) (hN : ∀ k i, 2 ≤ k → k ≤ 13 → N' k i = N k i) (h0 : 0 ≤ N' 14 0 ∧ N' 14 0 ≤ 100) (h1 : 0 ≤ N' 14 1 ∧ N' 14 1 ≤ 99999) : PB N' S' := by
  obtain ⟨a0, a1, a2, a3, a4, a5, a6⟩ := h
  have e0 := hS 0 (by decide)
  have e1 := hS 1 (by decide)
  have e2 := hS 2 (by decide)
  have e3 := hS 3 (by decide)
  have e4 := hS 4 (by decide)
  refine ⟨by omega, fun i hi => ?_, fun i hi => ?_, fun i hi => ?_, fun i hi => ?_, h0, h1⟩
  · rw [hN 2 i (by decide) (by decide), hN 3 i (by decide) (by decide), hN 4 i (by decide) (by decide), hN 5 i (by decide) (by decide), hN 6 i (by decide) (by decide), e0]
    exact a1 i (by omega)
  · rw [hN 7 i (by decide) (by decide), hN 8 i (by decide) (by decide), e1]
    exact a2 i (by omega)
  · rw [hN 9 i (by decide) (by decide), hN 10 i (by decide) (by decide), hN 11 i (by decide) (by decide), hN 12 i (by decide) (by decide), e1]
    exact a3 i (by omega)
  · rw [hN 13 i (by decide) (by decide)]
    exact a4 i (by omega)
theorem PB.man {N : zN} {S : zS} {v : Int} (h : PB N S) (h5 : S 0 ≠ 5) : PB (nU N 0 (S 0) v) (sU S 0 (S 0 + 1)) := by
  obtain ⟨a0, a1, a2, a3, a4, a5, a6⟩ := h
  have e0 : sU S 0 (S 0 + 1) 0 = S 0 + 1 := sU_at
  have e : ∀ j, j ≠ 0 → sU S 0 (S 0 + 1) j = S j := fun j hj => sU_ne hj
  have n : ∀ k i, 2 ≤ k → nU N 0 (S 0) v k i = N k i := fun k i hk => nU_n (by omega)
  refine ⟨?_, fun i hi => ?_, fun i hi => ?_, fun i hi => ?_, fun i hi => ?_, ?_, ?_⟩
  · rw [e0, e 1 (by decide), e 2 (by decide), e 3 (by decide), e 4 (by decide)]
    omega
  · rw [e 1 (by decide)] at hi
    rw [n 2 i (by decide), n 3 i (by decide), n 4 i (by decide), n 5 i (by decide), n 6 i (by decide), e0]
    have := a1 i hi
    omega
  · rw [e 2 (by decide)] at hi
    rw [n 7 i (by decide), n 8 i (by decide), e 1 (by decide)]
    exact a2 i hi
  · rw [e 3 (by decide)] at hi
    rw [n 9 i (by decide), n 10 i (by decide), n 11 i (by decide), n 12 i (by decide), e 1 (by decide)]
    exact a3 i hi
  · rw [e 4 (by decide)] at hi
    rw [n 13 i (by decide)]
    exact a4 i hi
  · rw [n 14 0 (by decide)]
    exact a5
  · rw [n 14 1 (by decide)]
    exact a6
theorem PB.gls {N : zN} {S : zS} {v m a b n c : Int} (h : PB N S) (h8 : S 1 ≠ 8) (hm : 0 ≤ m ∧ m < (S 0 : Int)) (ha : 0 ≤ a ∧ a ≤ 99) (hb : 0 ≤ b ∧ b ≤ 99) (hn : 0 ≤ n ∧ n ≤ 9) (hc : 0 ≤ c ∧ c ≤ 9) : PB (nG N (S 1) v m a b n c) (sU S 1 (S 1 + 1)) := by
  obtain ⟨a0, a1, a2, a3, a4, a5, a6⟩ := h
  have e0 : sU S 1 (S 1 + 1) 1 = S 1 + 1 := sU_at
  have e : ∀ j, j ≠ 1 → sU S 1 (S 1 + 1) j = S j := fun j hj => sU_ne hj
  have w : ∀ k i, (i ≠ S 1 ∨ 7 ≤ k) → nG N (S 1) v m a b n c k i = N k i := fun k i hk => by
    unfold nG
    rw [nU_n (by omega), nU_n (by omega), nU_n (by omega), nU_n (by omega), nU_n (by omega), nU_n (by omega)]
  refine ⟨?_, fun i hi => ?_, fun i hi => ?_, fun i hi => ?_, fun i hi => ?_, ?_, ?_⟩
  · rw [e0, e 0 (by decide), e 2 (by decide), e 3 (by decide), e 4 (by decide)]
    omega
  · rw [e0] at hi
    rw [e 0 (by decide)]
    by_cases ei : i = S 1
    · subst ei
      have w2 : nG N (S 1) v m a b n c 2 (S 1) = m := by
        unfold nG
        rw [nU_k (by decide), nU_k (by decide), nU_k (by decide), nU_k (by decide), nU_s]
      have w3 : nG N (S 1) v m a b n c 3 (S 1) = a := by
        unfold nG
        rw [nU_k (by decide), nU_k (by decide), nU_k (by decide), nU_s]
      have w4 : nG N (S 1) v m a b n c 4 (S 1) = b := by
        unfold nG
        rw [nU_k (by decide), nU_k (by decide), nU_s]
      have w5 : nG N (S 1) v m a b n c 5 (S 1) = n := by
        unfold nG
        rw [nU_k (by decide), nU_s]
      have w6 : nG N (S 1) v m a b n c 6 (S 1) = c := by
        unfold nG
        rw [nU_s]
      rw [w2, w3, w4, w5, w6]
      exact ⟨hm, ha, hb, hn, hc⟩
    · rw [w 2 i (by omega), w 3 i (by omega), w 4 i (by omega), w 5 i (by omega), w 6 i (by omega)]
      exact a1 i (by omega)
  · rw [e 2 (by decide)] at hi
    rw [w 7 i (by omega), w 8 i (by omega), e0]
    have := a2 i hi
    omega
  · rw [e 3 (by decide)] at hi
    rw [w 9 i (by omega), w 10 i (by omega), w 11 i (by omega), w 12 i (by omega), e0]
    have := a3 i hi
    omega
  · rw [e 4 (by decide)] at hi
    rw [w 13 i (by omega)]
    exact a4 i hi
  · rw [w 14 0 (by omega)]
    exact a5
  · rw [w 14 1 (by omega)]
    exact a6
theorem PB.trn {N : zN} {S : zS} {g m : Int} (h : PB N S) (h10 : S 2 ≠ 10) (hg : 0 ≤ g ∧ g < (S 1 : Int)) (hm : 0 ≤ m ∧ m ≤ 99) : PB (nT N (S 2) g m) (sU S 2 (S 2 + 1)) := by
  obtain ⟨a0, a1, a2, a3, a4, a5, a6⟩ := h
  have e0 : sU S 2 (S 2 + 1) 2 = S 2 + 1 := sU_at
  have e : ∀ j, j ≠ 2 → sU S 2 (S 2 + 1) j = S j := fun j hj => sU_ne hj
  have w : ∀ k i, (i ≠ S 2 ∨ k ≤ 6 ∨ 9 ≤ k) → nT N (S 2) g m k i = N k i := fun k i hk => by
    unfold nT
    rw [nU_n (by omega), nU_n (by omega)]
  refine ⟨?_, fun i hi => ?_, fun i hi => ?_, fun i hi => ?_, fun i hi => ?_, ?_, ?_⟩
  · rw [e0, e 0 (by decide), e 1 (by decide), e 3 (by decide), e 4 (by decide)]
    omega
  · rw [e 1 (by decide)] at hi
    rw [w 2 i (by omega), w 3 i (by omega), w 4 i (by omega), w 5 i (by omega), w 6 i (by omega), e 0 (by decide)]
    exact a1 i hi
  · rw [e0] at hi
    rw [e 1 (by decide)]
    by_cases ei : i = S 2
    · subst ei
      have w7 : nT N (S 2) g m 7 (S 2) = g := by
        unfold nT
        rw [nU_k (by decide), nU_s]
      have w8 : nT N (S 2) g m 8 (S 2) = m := by
        unfold nT
        rw [nU_s]
      rw [w7, w8]
      exact ⟨hg, hm⟩
    · rw [w 7 i (by omega), w 8 i (by omega)]
      exact a2 i (by omega)
  · rw [e 3 (by decide)] at hi
    rw [w 9 i (by omega), w 10 i (by omega), w 11 i (by omega), w 12 i (by omega), e 1 (by decide)]
    exact a3 i hi
  · rw [e 4 (by decide)] at hi
    rw [w 13 i (by omega)]
    exact a4 i hi
  · rw [w 14 0 (by omega)]
    exact a5
  · rw [w 14 1 (by omega)]
    exact a6
theorem PB.pay {N : zN} {S : zS} {a b m g : Int} (h : PB N S) (h10 : S 3 ≠ 10) (ha : 0 ≤ a ∧ a < (S 1 : Int)) (hb : 0 ≤ b ∧ b < (S 1 : Int)) (hm : 0 ≤ m ∧ m ≤ 99) (hg : 0 ≤ g ∧ g ≤ 99) (hab : b ≠ a) : PB (nPy N (S 3) a b m g) (sU S 3 (S 3 + 1)) := by
  obtain ⟨a0, a1, a2, a3, a4, a5, a6⟩ := h
  have e0 : sU S 3 (S 3 + 1) 3 = S 3 + 1 := sU_at
  have e : ∀ j, j ≠ 3 → sU S 3 (S 3 + 1) j = S j := fun j hj => sU_ne hj
  have w : ∀ k i, (i ≠ S 3 ∨ k ≤ 8 ∨ 13 ≤ k) → nPy N (S 3) a b m g k i = N k i := fun k i hk => by
    unfold nPy
    rw [nU_n (by omega), nU_n (by omega), nU_n (by omega), nU_n (by omega)]
  refine ⟨?_, fun i hi => ?_, fun i hi => ?_, fun i hi => ?_, fun i hi => ?_, ?_, ?_⟩
  · rw [e0, e 0 (by decide), e 1 (by decide), e 2 (by decide), e 4 (by decide)]
    omega
  · rw [e 1 (by decide)] at hi
    rw [w 2 i (by omega), w 3 i (by omega), w 4 i (by omega), w 5 i (by omega), w 6 i (by omega), e 0 (by decide)]
    exact a1 i hi
  · rw [e 2 (by decide)] at hi
    rw [w 7 i (by omega), w 8 i (by omega), e 1 (by decide)]
    exact a2 i hi
  · rw [e0] at hi
    rw [e 1 (by decide)]
    by_cases ei : i = S 3
    · subst ei
      have w9 : nPy N (S 3) a b m g 9 (S 3) = a := by
        unfold nPy
        rw [nU_k (by decide), nU_k (by decide), nU_k (by decide), nU_s]
      have wa : nPy N (S 3) a b m g 10 (S 3) = b := by
        unfold nPy
        rw [nU_k (by decide), nU_k (by decide), nU_s]
      have wb : nPy N (S 3) a b m g 11 (S 3) = m := by
        unfold nPy
        rw [nU_k (by decide), nU_s]
      have wc : nPy N (S 3) a b m g 12 (S 3) = g := by
        unfold nPy
        rw [nU_s]
      rw [w9, wa, wb, wc]
      exact ⟨ha, hb, hm, hg, hab⟩
    · rw [w 9 i (by omega), w 10 i (by omega), w 11 i (by omega), w 12 i (by omega)]
      exact a3 i (by omega)
  · rw [e 4 (by decide)] at hi
    rw [w 13 i (by omega)]
    exact a4 i hi
  · rw [w 14 0 (by omega)]
    exact a5
  · rw [w 14 1 (by omega)]
    exact a6
theorem PB.siv {N : zN} {S : zS} {m : Int} (h : PB N S) (h6 : S 4 ≠ 6) (hm : 1 ≤ m ∧ m ≤ 9) : PB (nU N 13 (S 4) m) (sU S 4 (S 4 + 1)) := by
  obtain ⟨a0, a1, a2, a3, a4, a5, a6⟩ := h
  have e0 : sU S 4 (S 4 + 1) 4 = S 4 + 1 := sU_at
  have e : ∀ j, j ≠ 4 → sU S 4 (S 4 + 1) j = S j := fun j hj => sU_ne hj
  have w : ∀ k i, (i ≠ S 4 ∨ k ≠ 13) → nU N 13 (S 4) m k i = N k i := fun k i hk => nU_n (by omega)
  refine ⟨?_, fun i hi => ?_, fun i hi => ?_, fun i hi => ?_, fun i hi => ?_, ?_, ?_⟩
  · rw [e0, e 0 (by decide), e 1 (by decide), e 2 (by decide), e 3 (by decide)]
    omega
  · rw [e 1 (by decide)] at hi
    rw [w 2 i (by omega), w 3 i (by omega), w 4 i (by omega), w 5 i (by omega), w 6 i (by omega), e 0 (by decide)]
    exact a1 i hi
  · rw [e 2 (by decide)] at hi
    rw [w 7 i (by omega), w 8 i (by omega), e 1 (by decide)]
    exact a2 i hi
  · rw [e 3 (by decide)] at hi
    rw [w 9 i (by omega), w 10 i (by omega), w 11 i (by omega), w 12 i (by omega), e 1 (by decide)]
    exact a3 i hi
  · rw [e0] at hi
    by_cases ei : i = S 4
    · subst ei
      rw [nU_s]
      exact hm
    · rw [w 13 i (by omega)]
      exact a4 i (by omega)
  · rw [w 14 0 (by omega)]
    exact a5
  · rw [w 14 1 (by omega)]
    exact a6
theorem PB.onc {N : zN} {S : zS} {j : Nat} {v : Int} (h : PB N S) (hj : j = 5 ∨ j = 6) (hv : 0 ≤ v ∧ v ≤ if j = 5 then 100 else 99999) : PB (nU N 14 (j - 5) v) (sU S j 1) := by
  refine h.eq (fun i hi => sU_ne (by omega)) (fun k i h2 h13 => nU_n (by omega)) ?_ ?_
  · rcases hj with rfl | rfl
    · exact hv
    · rw [nU_n (by decide)]
      exact h.2.2.2.2.2.1
  · rcases hj with rfl | rfl
    · rw [nU_n (by decide)]
      exact h.2.2.2.2.2.2
    · exact hv
theorem PB.law {N : zN} {S : zS} {j c : Nat} {e : List Int} (h : PB N S) : PB (nLw N j e) (sLw S j c e) := by
  have w : ∀ k i, k ≤ 14 → nLw N j e k i = N k i := fun k i hk => if_neg (by omega)
  refine h.eq (fun i hi => ?_) (fun k i h2 h13 => w k i (by omega)) ?_ ?_
  · unfold sLw
    rw [sU_ne (by omega), sU_ne (by omega), sU_ne (by omega), sU_ne (by omega)]
  · rw [w 14 0 (by decide)]
    exact h.2.2.2.2.2.1
  · rw [w 14 1 (by decide)]
    exact h.2.2.2.2.2.2
theorem wNum_y {α : Type} {D : zD} {lo hi : Int} {q : Nat} {KF KO : α → Int → Nat → Prop} (hF : ∀ c p, ∃ o, KF o c p) (hO : ∀ v p, lo ≤ v ∧ v ≤ hi → ∃ o, KO o v p) : ∃ o, wNum D lo hi q (KF o) (KO o) := by
  unfold wNum
  split
  · split
    · rename_i e
      exact hO _ _ e
    · exact hF _ _
  · exact hF _ _
theorem wThr_y {α : Type} {D : zD} {f : Nat → Int} {r q : Nat} {KF KO : α → Int → Nat → Prop} (hF : ∀ c p, ∃ o, KF o c p) (hO : ∀ v p, 0 ≤ v ∧ v < (r : Int) → ∃ o, KO o v p) : ∃ o, wThr D f r q (KF o) (KO o) := by
  unfold wThr
  split
  · split
    · exact hF _ _
    · have := fIx_bd f r (lF D q)
      exact hO _ _ (by omega)
  · exact hF _ _
theorem wLin_y {α : Type} {D : zD} {N : zN} {S : zS} {q : Nat} {KF : α → zKF} {KO : α → zKO} (hP : PB N S) (hF : ∀ c p, ∃ o, KF o c p) (hO : ∀ N S p, PB N S → ∃ o, KO o N S p) : ∃ o, wLin D N S q (KF o) (KO o) := by
  have hE : ∀ N S p, PB N S → ∃ o, wEnd D p (KF o) (KO o N S) := fun N S p h => wEnd_x hF (fun p => hO N S p h)
  unfold wLin
  split
  · unfold wMan
    split
    · exact hF _ _
    · rename_i e5
      exact wNew_x hF (fun v p => hE _ _ _ (hP.man e5))
  split
  · unfold wGls
    split
    · exact hF _ _
    · rename_i e8
      exact wNew_x hF (fun _ _ => wThr_y hF (fun _ _ h1 => wNum_y hF (fun _ _ h2 => wNum_y hF (fun _ _ h3 => wNum_y hF (fun _ _ h4 => wNum_y hF (fun _ _ h5 => hE _ _ _ (hP.gls e8 h1 (by omega) (by omega) (by omega) (by omega))))))))
  split
  · unfold wTrn
    split
    · exact hF _ _
    · rename_i e10
      exact wThr_y hF (fun _ _ h1 => wNum_y hF (fun _ _ h2 => hE _ _ _ (hP.trn e10 h1 (by omega))))
  split
  · unfold wPay
    split
    · exact hF _ _
    · rename_i e10
      refine wThr_y hF (fun a p h1 => wThr_y hF (fun b p' h2 => ?_))
      split
      · exact hF _ _
      · rename_i e
        exact wNum_y hF (fun _ _ h3 => wNum_y hF (fun _ _ h4 => hE _ _ _ (hP.pay e10 h1 h2 (by omega) (by omega) e)))
  split
  · unfold wSiv
    split
    · exact hF _ _
    · rename_i e6
      exact wNum_y hF (fun _ _ h1 => hE _ _ _ (hP.siv e6 h1))
  split
  · unfold wOnc
    split
    · exact wNum_y hF (fun _ _ h1 => hE _ _ _ (hP.onc (Or.inl rfl) h1))
    · exact hF _ _
  split
  · unfold wOnc
    split
    · exact wNum_y hF (fun _ _ h1 => hE _ _ _ (hP.onc (Or.inr rfl) h1))
    · exact hF _ _
  split
  · unfold wLaw
    split
    · split
      · exact wSum_x hF (fun _ _ _ => hE _ _ _ hP.law) _ _ _ _ _ _ _ _
      · exact hF _ _
    · exact hF _ _
  · exact hF _ _
theorem wTxt_y {α : Type} {D : zD} {KF : α → zKF} {KO : α → Nat → zN → zS → Prop} (hF : ∀ c p, ∃ o, KF o c p) (hO : ∀ m N S, PB N S → ∃ o, KO o m N S) : ∀ (f : Nat) (N : zN) (S : zS) (q m : Nat), PB N S → ∃ o, wTxt D f N S q m (KF o) (KO o)
  | 0, N, S, q, m, h => hO _ _ _ h
  | f + 1, N, S, q, m, h => by
    simp only [wTxt]
    split
    · exact hO _ _ _ h
    · exact wLin_y h hF (fun N S p h => wTxt_y hF hO f N S p (m + 1) h)
theorem c23_t : ((List.range 64).all fun i => decide (sIv swM 23 i = (0, 9999))) = true := by decide +kernel
theorem kR_b {f : Nat → Int} (hf : ∀ i, i < 64 → 0 ≤ f i ∧ f i ≤ 9999) {kd ot : Nat → Int} {b : Nat} : ∀ {e : List Int}, kR kd f ot b e → b + e.length ≤ 64 → ∀ x, x ∈ e → x ≤ 9999
  | [], _, _, x, hx => nomatch hx
  | y :: e, hk, hl, x, hx => by
    have hl : b + (e.length + 1) ≤ 64 := hl
    rcases List.mem_cons.mp hx with rfl | hx
    · rcases hk.2 with ⟨-, -, q⟩ | h | h | h
      · have := hf (b + e.length) (by omega)
        omega
      · omega
      · omega
      · omega
    · exact kR_b hf hk.1 (by omega) x hx
/-- what is told lies in the bounds that a minute wants -/
theorem TB.of {N : zN} {S : zS} {h : zH} (hP : PB N S) (hL : LwT N S h) (hi : sInv swM h) : TB N S := by
  obtain ⟨a0, a1, a2, a3, a4, a5, a6⟩ := hP
  refine ⟨a0, fun i hj => ?_, fun i hj => (a2 i hj).1, fun i hj => ?_, a5, fun j hj h0 => ?_⟩
  · have := a1 i hj
    omega
  · have := a3 i hj
    omega
  · obtain ⟨l1, l2⟩ := hL
    obtain ⟨-, -, q3, q4, q5⟩ := (l2 j hj).2 h0
    have lt : S (14 + j) + S (11 + j) ≤ 64 := by omega
    refine ⟨lt, ⟨_, _, _, q4⟩, q5, kR_b (fun i hi' => ?_) q4 (by rw [lsF_len]; exact lt)⟩
    exact sIbd hi (of_decide_eq_true (zall_r c23_t hi'))
