/-! a line goes on -/
theorem wNum_k {D : zD} {lo hi : Int} {q : Nat} {KF KO KO' : Int → Nat → Prop} (h : wNum D lo hi q KF KO) (hm : ∀ v, KO v (qF D q) → KO' v (qF D q)) : wNum D lo hi q KF KO' := by
  unfold wNum at h ⊢
  split
  · rename_i e
    rw [if_pos e] at h
    split
    · rename_i e2
      rw [if_pos e2] at h
      exact hm _ h
    · rename_i e2
      rw [if_neg e2] at h
      exact h
  · rename_i e
    rw [if_neg e] at h
    exact h
theorem wNew_k {D : zD} {f : Nat → Int} {r q : Nat} {KF KO KO' : Int → Nat → Prop} (h : wNew D f r q KF KO) (hm : ∀ v, KO v (qF D q) → KO' v (qF D q)) : wNew D f r q KF KO' := by
  unfold wNew at h ⊢
  split
  · rename_i e
    rw [if_pos e] at h
    split
    · rename_i e2
      rw [if_pos e2] at h
      exact hm _ h
    · rename_i e2
      rw [if_neg e2] at h
      exact h
  · rename_i e
    rw [if_neg e] at h
    exact h
theorem wThr_k {D : zD} {f : Nat → Int} {r q : Nat} {KF KO KO' : Int → Nat → Prop} (h : wThr D f r q KF KO) (hm : ∀ v, KO v (qF D q) → KO' v (qF D q)) : wThr D f r q KF KO' := by
  unfold wThr at h ⊢
  split
  · rename_i e
    rw [if_pos e] at h
    split
    · rename_i e2
      rw [if_pos e2] at h
      exact h
    · rename_i e2
      rw [if_neg e2] at h
      exact hm _ h
  · rename_i e
    rw [if_neg e] at h
    exact h
theorem wEnd_k {D : zD} {q : Nat} {KF : Int → Nat → Prop} {KO KO' : Nat → Prop} (h : wEnd D q KF KO) (hm : KO (qF D q) → KO' (qF D q)) : wEnd D q KF KO' := by
  unfold wEnd at h ⊢
  split
  · rename_i e
    rw [if_pos e] at h
    exact hm h
  · rename_i e
    rw [if_neg e] at h
    exact h
theorem wSum_k {D : zD} {KF : Int → Nat → Prop} {KO KO' : Nat → List Int → Nat → Prop} {b : Nat} (hm : ∀ c e q', b ≤ q' → q' ≤ D.2 → KO c e q' → KO' c e q') : ∀ (m : Nat) (s : List Int) (o : Nat) (due nm : Bool) (c : Nat) (e : List Int) (q : Nat), b ≤ q → q ≤ D.2 → wSum D m s o due nm c e q KF KO → wSum D m s o due nm c e q KF KO'
  | 0, s, o, due, nm, c, e, q, hb, hq, h => hm c e q hb hq h
  | m + 1, s, o, due, nm, c, e, q, hb, hq, h => by
    have qb := qF_bd hq
    have ih := fun s o due nm c e => wSum_k (KF := KF) (KO := KO) hm m s o due nm c e (qF D q) (by omega) qb.2.1
    rw [wSum] at h ⊢
    by_cases hd : due = true
    · rw [if_pos hd] at h ⊢
      by_cases h5 : kF D q = 5
      · rw [if_pos h5] at h ⊢
        by_cases ho : o = 8
        · rw [if_pos ho] at h ⊢
          exact h
        · rw [if_neg ho] at h ⊢
          exact ih _ _ _ _ _ _ h
      rw [if_neg h5] at h ⊢
      by_cases h28 : kF D q = 28 ∧ nm = true
      · rw [if_pos h28] at h ⊢
        by_cases ho : c = 64
        · rw [if_pos ho] at h ⊢
          exact h
        · rw [if_neg ho] at h ⊢
          exact ih _ _ _ _ _ _ h
      rw [if_neg h28] at h ⊢
      by_cases h3 : kF D q = 3
      · rw [if_pos h3] at h ⊢
        by_cases hv : 9999 < vF D q
        · rw [if_pos hv] at h ⊢
          exact h
        rw [if_neg hv] at h ⊢
        by_cases ho : c = 64
        · rw [if_pos ho] at h ⊢
          exact h
        · rw [if_neg ho] at h ⊢
          exact ih _ _ _ _ _ _ h
      rw [if_neg h3] at h ⊢
      by_cases hn : 21 ≤ kF D q ∧ kF D q ≤ 27
      · rw [if_pos hn] at h ⊢
        by_cases ho : c = 64
        · rw [if_pos ho] at h ⊢
          exact h
        · rw [if_neg ho] at h ⊢
          exact ih _ _ _ _ _ _ h
      · rw [if_neg hn] at h ⊢
        exact h
    · rw [if_neg hd] at h ⊢
      by_cases h6 : kF D q = 6 ∧ 0 < o
      · rw [if_pos h6] at h ⊢
        exact ih _ _ _ _ _ _ h
      rw [if_neg h6] at h ⊢
      by_cases hs : 29 ≤ kF D q ∧ kF D q ≤ 40
      · rw [if_pos hs] at h ⊢
        generalize (if tgt (kF D q) = 4 then (5 : Int) else tgt (kF D q)) = a at h ⊢
        split
        · rename_i e
          rw [if_pos e] at h
          exact h
        · rename_i e
          rw [if_neg e] at h
          split
          · rename_i e2
            rw [if_pos e2] at h
            exact h
          · rename_i e2
            rw [if_neg e2] at h
            exact ih _ _ _ _ _ _ h
      rw [if_neg hs] at h ⊢
      by_cases hx : kF D q = 4 ∧ o = 0
      · rw [if_pos hx] at h ⊢
        exact hm c _ q hb hq h
      · rw [if_neg hx] at h ⊢
        exact h
theorem wLin_p {D : zD} {N : zN} {S : zS} {q : Nat} {KF : zKF} {KO : zKO} (hq : q ≤ D.2) (h0 : kF D q ≠ 0) (h : wLin D N S q KF KO) : wLin D N S q KF (fun N S q' => q < q' ∧ KO N S q') := by
  have k0 := kF_0 hq
  have q1 := qF_bd hq
  have hlt : q < qF D q := q1.2.2 (by omega)
  have nx : ∀ {p : Nat}, q < p ∧ p ≤ D.2 → q < qF D p ∧ qF D p ≤ D.2 := fun {p} hp => by
    have := qF_bd hp.2
    omega
  have b1 : q < qF D q ∧ qF D q ≤ D.2 := ⟨hlt, q1.2.1⟩
  have en : ∀ {N : zN} {S : zS} {p : Nat}, q < p ∧ p ≤ D.2 → wEnd D p KF (KO N S) → wEnd D p KF (fun q' => q < q' ∧ KO N S q') := fun hp g => wEnd_k g (fun g => ⟨(nx hp).1, g⟩)
  unfold wLin at h ⊢
  by_cases k1 : kF D q = 10
  · rw [if_pos k1] at h ⊢
    unfold wMan at h ⊢
    split
    · rename_i e
      rw [if_pos e] at h
      exact h
    · rename_i e
      rw [if_neg e] at h
      refine wNew_k h (fun v g => ?_)
      have b2 := nx b1
      generalize qF D (qF D q) = q2 at g b2 ⊢
      exact en b2 g
  rw [if_neg k1] at h ⊢
  by_cases k2 : kF D q = 11
  · rw [if_pos k2] at h ⊢
    unfold wGls at h ⊢
    split
    · rename_i e
      rw [if_pos e] at h
      exact h
    · rename_i e
      rw [if_neg e] at h
      refine wNew_k h (fun v g => ?_)
      have b2 := nx b1
      generalize qF D (qF D q) = q2 at g b2 ⊢
      refine wThr_k g (fun v g => ?_)
      have b3 := nx b2
      generalize qF D q2 = q3 at g b3 ⊢
      refine wNum_k g (fun v g => ?_)
      have b4 := nx b3
      generalize qF D q3 = q4 at g b4 ⊢
      refine wNum_k g (fun v g => ?_)
      have b5 := nx b4
      generalize qF D q4 = q5 at g b5 ⊢
      refine wNum_k g (fun v g => ?_)
      have b6 := nx b5
      generalize qF D q5 = q6 at g b6 ⊢
      refine wNum_k g (fun v g => ?_)
      have b7 := nx b6
      generalize qF D q6 = q7 at g b7 ⊢
      exact en b7 g
  rw [if_neg k2] at h ⊢
  by_cases k3 : kF D q = 12
  · rw [if_pos k3] at h ⊢
    unfold wTrn at h ⊢
    split
    · rename_i e
      rw [if_pos e] at h
      exact h
    · rename_i e
      rw [if_neg e] at h
      refine wThr_k h (fun v g => ?_)
      have b2 := nx b1
      generalize qF D (qF D q) = q2 at g b2 ⊢
      refine wNum_k g (fun v g => ?_)
      have b3 := nx b2
      generalize qF D q2 = q3 at g b3 ⊢
      exact en b3 g
  rw [if_neg k3] at h ⊢
  by_cases k4 : kF D q = 13
  · rw [if_pos k4] at h ⊢
    unfold wPay at h ⊢
    split
    · rename_i e
      rw [if_pos e] at h
      exact h
    · rename_i e
      rw [if_neg e] at h
      refine wThr_k h (fun a g => ?_)
      have b2 := nx b1
      generalize qF D (qF D q) = q2 at g b2 ⊢
      refine wThr_k g (fun b g => ?_)
      have b3 := nx b2
      generalize qF D q2 = q3 at g b3 ⊢
      by_cases e : b = a
      · have g : KF 5 q2 := by
          have g : (if b = a then KF 5 q2 else _) := g
          rw [if_pos e] at g
          exact g
        show (if b = a then KF 5 q2 else _)
        rw [if_pos e]
        exact g
      · have g : (if b = a then KF 5 q2 else wNum D 0 99 q3 KF (fun m q => wNum D 1 99 q KF (fun v q => wEnd D q KF (KO (nPy N (S 3) a b m v) (sU S 3 (S 3 + 1)))))) := g
        rw [if_neg e] at g
        show (if b = a then KF 5 q2 else wNum D 0 99 q3 KF (fun _ q => wNum D 1 99 q KF (fun _ q => wEnd D q KF _)))
        rw [if_neg e]
        refine wNum_k g (fun v g => ?_)
        have b4 := nx b3
        generalize qF D q3 = q4 at g b4 ⊢
        refine wNum_k g (fun v g => ?_)
        have b5 := nx b4
        generalize qF D q4 = q5 at g b5 ⊢
        exact en b5 g
  rw [if_neg k4] at h ⊢
  by_cases k5 : kF D q = 14
  · rw [if_pos k5] at h ⊢
    unfold wSiv at h ⊢
    split
    · rename_i e
      rw [if_pos e] at h
      exact h
    · rename_i e
      rw [if_neg e] at h
      refine wNum_k h (fun v g => ?_)
      have b2 := nx b1
      generalize qF D (qF D q) = q2 at g b2 ⊢
      exact en b2 g
  rw [if_neg k5] at h ⊢
  by_cases k6 : kF D q = 15
  · rw [if_pos k6] at h ⊢
    unfold wOnc at h ⊢
    split
    · rename_i e
      rw [if_pos e] at h
      refine wNum_k h (fun v g => ?_)
      have b2 := nx b1
      generalize qF D (qF D q) = q2 at g b2 ⊢
      exact en b2 g
    · rename_i e
      rw [if_neg e] at h
      exact h
  rw [if_neg k6] at h ⊢
  by_cases k7 : kF D q = 16
  · rw [if_pos k7] at h ⊢
    unfold wOnc at h ⊢
    split
    · rename_i e
      rw [if_pos e] at h
      refine wNum_k h (fun v g => ?_)
      have b2 := nx b1
      generalize qF D (qF D q) = q2 at g b2 ⊢
      exact en b2 g
    · rename_i e
      rw [if_neg e] at h
      exact h
  rw [if_neg k7] at h ⊢
  by_cases k8 : kF D q = 17
  · rw [if_pos k8] at h ⊢
    unfold wLaw at h ⊢
    split
    · rename_i e
      rw [if_pos e] at h
      split
      · rename_i e2
        rw [if_pos e2] at h
        exact wSum_k (b := q + 1) (fun c e q' h1 h2 g => en ⟨h1, h2⟩ g) _ _ _ _ _ _ _ _ (nx b1).1 (nx b1).2 h
      · rename_i e2
        rw [if_neg e2] at h
        exact h
    · rename_i e
      rw [if_neg e] at h
      exact h
  rw [if_neg k8] at h ⊢
  exact h
