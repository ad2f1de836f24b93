set_option maxRecDepth 100000 in
set_option maxHeartbeats 4000000 in
theorem zw6 {l : Launch} {Γ : zG} {d : Nat} {Kp : Option Value → zH → Prop} {I : zHI} {Lg : zHL} {P : zHP} {T : Nat → Int} {pa m : Nat} (hH : wH I P T pa m) (hY : mtW T pa m 6 → Kp (some (.int (Int32.ofInt 6))) (zshM, I, Lg, P))
    (hN : ¬ mtW T pa m 6 → zX l Γ false (d + 1) zh197 (zMQ' Γ false zh197 Kp) 0 0 5 [(4, .int (Int32.ofInt 35)), (3, .int (Int32.ofInt 7)), (0, .ref 0), (1, .int (Int32.ofNat pa)), (2, .int (Int32.ofNat (pa + m)))] [] (zshM, I, Lg, P)) : zX l Γ false (d + 1) zh197 (zMQ' Γ false zh197 Kp) 0 0 5 [(4, .int (Int32.ofInt 30)), (3, .int (Int32.ofInt 6)), (0, .ref 0), (1, .int (Int32.ofNat pa)), (2, .int (Int32.ofNat (pa + m)))] [] (zshM, I, Lg, P) := by
  obtain ⟨hP0, hP3, hw, hm1, hpm, hT⟩ := hH
  have hba : (Int32.ofNat (pa + m) - Int32.ofNat pa).toInt = (m : Int) := by
    rw [Int32.toInt_sub, oN (by omega), oN (by omega), s32r _ (by show (-2147483648 : Int) ≤ _; omega) (by show _ ≤ (2147483647 : Int); omega)]
    omega
  have eP := wPx hP0 hP3
  rw [eP] at hY hN ⊢
  have hN : ¬ (m = 4 ∧ T pa = 115 ∧ T (pa + 1) = 101 ∧ T (pa + 2) = 101 ∧ T (pa + 3) = 100) → _ := hN
  have hY : (m = 4 ∧ T pa = 115 ∧ T (pa + 1) = 101 ∧ T (pa + 2) = 101 ∧ T (pa + 3) = 100) → _ := hY
  by_cases hm : m = 4
  · have q0 : (I 1 (Int32.ofNat pa + Int32.ofInt 0).toNatClampNeg).toInt = T pa ∧ ¬ (Int32.ofNat pa + Int32.ofInt 0 < 0 ∨ 700 ≤ (Int32.ofNat pa + Int32.ofInt 0).toNatClampNeg) := wIdx 0 (by omega) hT
    have t0 := q0.1
    have b0 := q0.2
    have q1 : (I 1 (Int32.ofNat pa + Int32.ofInt 1).toNatClampNeg).toInt = T (pa + 1) ∧ ¬ (Int32.ofNat pa + Int32.ofInt 1 < 0 ∨ 700 ≤ (Int32.ofNat pa + Int32.ofInt 1).toNatClampNeg) := wIdx 1 (by omega) hT
    have t1 := q1.1
    have b1 := q1.2
    have q2 : (I 1 (Int32.ofNat pa + Int32.ofInt 2).toNatClampNeg).toInt = T (pa + 2) ∧ ¬ (Int32.ofNat pa + Int32.ofInt 2 < 0 ∨ 700 ≤ (Int32.ofNat pa + Int32.ofInt 2).toNatClampNeg) := wIdx 2 (by omega) hT
    have t2 := q2.1
    have b2 := q2.2
    have q3 : (I 1 (Int32.ofNat pa + Int32.ofInt 3).toNatClampNeg).toInt = T (pa + 3) ∧ ¬ (Int32.ofNat pa + Int32.ofInt 3 < 0 ∨ 700 ≤ (Int32.ofNat pa + Int32.ofInt 3).toNatClampNeg) := wIdx 3 (by omega) hT
    have t3 := q3.1
    have b3 := q3.2
    by_cases c0 : T pa = 115
    case neg =>
      refine zpcF (M := (zh197, zc197)) 197 5 rfl zckm197 (fun _ _ _ _ h => h) ?_
      refine zdecF (show ¬ I 2 30 = Int32.ofInt 32 from den (by rw [hw 30 115 rfl, oI (by decide) (by decide)] <;> omega)) (fun _ => ?_)
      refine zdecF (show ¬ I 2 31 = Int32.ofInt 32 from den (by rw [hw 31 101 rfl, oI (by decide) (by decide)] <;> omega)) (fun _ => ?_)
      refine zdecF (show ¬ I 2 32 = Int32.ofInt 32 from den (by rw [hw 32 101 rfl, oI (by decide) (by decide)] <;> omega)) (fun _ => ?_)
      refine zdecF (show ¬ I 2 33 = Int32.ofInt 32 from den (by rw [hw 33 100 rfl, oI (by decide) (by decide)] <;> omega)) (fun _ => ?_)
      refine zdecT (show I 2 34 = Int32.ofInt 32 from deq (by rw [hw 34 32 rfl, oI (by decide) (by decide)] <;> omega)) (fun _ => ?_)
      refine zdecT (show Int32.ofInt 4 = (Int32.ofNat (pa + m)) - (Int32.ofNat pa) from deq (by rw [oI (by decide) (by decide), hba] <;> omega)) (fun _ => ?_)
      refine zdecF b0 (fun _ => ?_)
      refine zdecF (show ¬ I 2 30 = I 1 (Int32.ofNat pa + Int32.ofInt 0).toNatClampNeg from den (by rw [hw 30 115 rfl, t0] <;> omega)) (fun _ => ?_)
      refine zX_sub (fun x hx => ?_) (hN (by omega))
      simp only [List.mem_cons, List.not_mem_nil, or_false] at hx
      rcases hx with rfl | rfl | rfl | rfl | rfl
      all_goals first | exact List.Mem.head _ | exact List.Mem.tail _ (List.Mem.head _) | exact List.Mem.tail _ (List.Mem.tail _ (List.Mem.head _)) | exact List.Mem.tail _ (List.Mem.tail _ (List.Mem.tail _ (List.Mem.head _))) | exact List.Mem.tail _ (List.Mem.tail _ (List.Mem.tail _ (List.Mem.tail _ (List.Mem.head _)))) | exact List.Mem.tail _ (List.Mem.tail _ (List.Mem.tail _ (List.Mem.tail _ (List.Mem.tail _ (List.Mem.head _))))) | exact List.Mem.tail _ (List.Mem.tail _ (List.Mem.tail _ (List.Mem.tail _ (List.Mem.tail _ (List.Mem.tail _ (List.Mem.head _)))))) | exact List.Mem.tail _ (List.Mem.tail _ (List.Mem.tail _ (List.Mem.tail _ (List.Mem.tail _ (List.Mem.tail _ (List.Mem.tail _ (List.Mem.head _)))))))
    by_cases c1 : T (pa + 1) = 101
    case neg =>
      refine zpcF (M := (zh197, zc197)) 197 5 rfl zckm197 (fun _ _ _ _ h => h) ?_
      refine zdecF (show ¬ I 2 30 = Int32.ofInt 32 from den (by rw [hw 30 115 rfl, oI (by decide) (by decide)] <;> omega)) (fun _ => ?_)
      refine zdecF (show ¬ I 2 31 = Int32.ofInt 32 from den (by rw [hw 31 101 rfl, oI (by decide) (by decide)] <;> omega)) (fun _ => ?_)
      refine zdecF (show ¬ I 2 32 = Int32.ofInt 32 from den (by rw [hw 32 101 rfl, oI (by decide) (by decide)] <;> omega)) (fun _ => ?_)
      refine zdecF (show ¬ I 2 33 = Int32.ofInt 32 from den (by rw [hw 33 100 rfl, oI (by decide) (by decide)] <;> omega)) (fun _ => ?_)
      refine zdecT (show I 2 34 = Int32.ofInt 32 from deq (by rw [hw 34 32 rfl, oI (by decide) (by decide)] <;> omega)) (fun _ => ?_)
      refine zdecT (show Int32.ofInt 4 = (Int32.ofNat (pa + m)) - (Int32.ofNat pa) from deq (by rw [oI (by decide) (by decide), hba] <;> omega)) (fun _ => ?_)
      refine zdecF b0 (fun _ => ?_)
      refine zdecT (show I 2 30 = I 1 (Int32.ofNat pa + Int32.ofInt 0).toNatClampNeg from deq (by rw [hw 30 115 rfl, t0] <;> omega)) (fun _ => ?_)
      refine zdecF b1 (fun _ => ?_)
      refine zdecF (show ¬ I 2 31 = I 1 (Int32.ofNat pa + Int32.ofInt 1).toNatClampNeg from den (by rw [hw 31 101 rfl, t1] <;> omega)) (fun _ => ?_)
      refine zX_sub (fun x hx => ?_) (hN (by omega))
      simp only [List.mem_cons, List.not_mem_nil, or_false] at hx
      rcases hx with rfl | rfl | rfl | rfl | rfl
      all_goals first | exact List.Mem.head _ | exact List.Mem.tail _ (List.Mem.head _) | exact List.Mem.tail _ (List.Mem.tail _ (List.Mem.head _)) | exact List.Mem.tail _ (List.Mem.tail _ (List.Mem.tail _ (List.Mem.head _))) | exact List.Mem.tail _ (List.Mem.tail _ (List.Mem.tail _ (List.Mem.tail _ (List.Mem.head _)))) | exact List.Mem.tail _ (List.Mem.tail _ (List.Mem.tail _ (List.Mem.tail _ (List.Mem.tail _ (List.Mem.head _))))) | exact List.Mem.tail _ (List.Mem.tail _ (List.Mem.tail _ (List.Mem.tail _ (List.Mem.tail _ (List.Mem.tail _ (List.Mem.head _)))))) | exact List.Mem.tail _ (List.Mem.tail _ (List.Mem.tail _ (List.Mem.tail _ (List.Mem.tail _ (List.Mem.tail _ (List.Mem.tail _ (List.Mem.head _)))))))
    by_cases c2 : T (pa + 2) = 101
    case neg =>
      refine zpcF (M := (zh197, zc197)) 197 5 rfl zckm197 (fun _ _ _ _ h => h) ?_
      refine zdecF (show ¬ I 2 30 = Int32.ofInt 32 from den (by rw [hw 30 115 rfl, oI (by decide) (by decide)] <;> omega)) (fun _ => ?_)
      refine zdecF (show ¬ I 2 31 = Int32.ofInt 32 from den (by rw [hw 31 101 rfl, oI (by decide) (by decide)] <;> omega)) (fun _ => ?_)
      refine zdecF (show ¬ I 2 32 = Int32.ofInt 32 from den (by rw [hw 32 101 rfl, oI (by decide) (by decide)] <;> omega)) (fun _ => ?_)
      refine zdecF (show ¬ I 2 33 = Int32.ofInt 32 from den (by rw [hw 33 100 rfl, oI (by decide) (by decide)] <;> omega)) (fun _ => ?_)
      refine zdecT (show I 2 34 = Int32.ofInt 32 from deq (by rw [hw 34 32 rfl, oI (by decide) (by decide)] <;> omega)) (fun _ => ?_)
      refine zdecT (show Int32.ofInt 4 = (Int32.ofNat (pa + m)) - (Int32.ofNat pa) from deq (by rw [oI (by decide) (by decide), hba] <;> omega)) (fun _ => ?_)
      refine zdecF b0 (fun _ => ?_)
      refine zdecT (show I 2 30 = I 1 (Int32.ofNat pa + Int32.ofInt 0).toNatClampNeg from deq (by rw [hw 30 115 rfl, t0] <;> omega)) (fun _ => ?_)
      refine zdecF b1 (fun _ => ?_)
      refine zdecT (show I 2 31 = I 1 (Int32.ofNat pa + Int32.ofInt 1).toNatClampNeg from deq (by rw [hw 31 101 rfl, t1] <;> omega)) (fun _ => ?_)
      refine zdecF b2 (fun _ => ?_)
      refine zdecF (show ¬ I 2 32 = I 1 (Int32.ofNat pa + Int32.ofInt 2).toNatClampNeg from den (by rw [hw 32 101 rfl, t2] <;> omega)) (fun _ => ?_)
      refine zX_sub (fun x hx => ?_) (hN (by omega))
      simp only [List.mem_cons, List.not_mem_nil, or_false] at hx
      rcases hx with rfl | rfl | rfl | rfl | rfl
      all_goals first | exact List.Mem.head _ | exact List.Mem.tail _ (List.Mem.head _) | exact List.Mem.tail _ (List.Mem.tail _ (List.Mem.head _)) | exact List.Mem.tail _ (List.Mem.tail _ (List.Mem.tail _ (List.Mem.head _))) | exact List.Mem.tail _ (List.Mem.tail _ (List.Mem.tail _ (List.Mem.tail _ (List.Mem.head _)))) | exact List.Mem.tail _ (List.Mem.tail _ (List.Mem.tail _ (List.Mem.tail _ (List.Mem.tail _ (List.Mem.head _))))) | exact List.Mem.tail _ (List.Mem.tail _ (List.Mem.tail _ (List.Mem.tail _ (List.Mem.tail _ (List.Mem.tail _ (List.Mem.head _)))))) | exact List.Mem.tail _ (List.Mem.tail _ (List.Mem.tail _ (List.Mem.tail _ (List.Mem.tail _ (List.Mem.tail _ (List.Mem.tail _ (List.Mem.head _)))))))
    by_cases c3 : T (pa + 3) = 100
    case neg =>
      refine zpcF (M := (zh197, zc197)) 197 5 rfl zckm197 (fun _ _ _ _ h => h) ?_
      refine zdecF (show ¬ I 2 30 = Int32.ofInt 32 from den (by rw [hw 30 115 rfl, oI (by decide) (by decide)] <;> omega)) (fun _ => ?_)
      refine zdecF (show ¬ I 2 31 = Int32.ofInt 32 from den (by rw [hw 31 101 rfl, oI (by decide) (by decide)] <;> omega)) (fun _ => ?_)
      refine zdecF (show ¬ I 2 32 = Int32.ofInt 32 from den (by rw [hw 32 101 rfl, oI (by decide) (by decide)] <;> omega)) (fun _ => ?_)
      refine zdecF (show ¬ I 2 33 = Int32.ofInt 32 from den (by rw [hw 33 100 rfl, oI (by decide) (by decide)] <;> omega)) (fun _ => ?_)
      refine zdecT (show I 2 34 = Int32.ofInt 32 from deq (by rw [hw 34 32 rfl, oI (by decide) (by decide)] <;> omega)) (fun _ => ?_)
      refine zdecT (show Int32.ofInt 4 = (Int32.ofNat (pa + m)) - (Int32.ofNat pa) from deq (by rw [oI (by decide) (by decide), hba] <;> omega)) (fun _ => ?_)
      refine zdecF b0 (fun _ => ?_)
      refine zdecT (show I 2 30 = I 1 (Int32.ofNat pa + Int32.ofInt 0).toNatClampNeg from deq (by rw [hw 30 115 rfl, t0] <;> omega)) (fun _ => ?_)
      refine zdecF b1 (fun _ => ?_)
      refine zdecT (show I 2 31 = I 1 (Int32.ofNat pa + Int32.ofInt 1).toNatClampNeg from deq (by rw [hw 31 101 rfl, t1] <;> omega)) (fun _ => ?_)
      refine zdecF b2 (fun _ => ?_)
      refine zdecT (show I 2 32 = I 1 (Int32.ofNat pa + Int32.ofInt 2).toNatClampNeg from deq (by rw [hw 32 101 rfl, t2] <;> omega)) (fun _ => ?_)
      refine zdecF b3 (fun _ => ?_)
      refine zdecF (show ¬ I 2 33 = I 1 (Int32.ofNat pa + Int32.ofInt 3).toNatClampNeg from den (by rw [hw 33 100 rfl, t3] <;> omega)) (fun _ => ?_)
      refine zX_sub (fun x hx => ?_) (hN (by omega))
      simp only [List.mem_cons, List.not_mem_nil, or_false] at hx
      rcases hx with rfl | rfl | rfl | rfl | rfl
      all_goals first | exact List.Mem.head _ | exact List.Mem.tail _ (List.Mem.head _) | exact List.Mem.tail _ (List.Mem.tail _ (List.Mem.head _)) | exact List.Mem.tail _ (List.Mem.tail _ (List.Mem.tail _ (List.Mem.head _))) | exact List.Mem.tail _ (List.Mem.tail _ (List.Mem.tail _ (List.Mem.tail _ (List.Mem.head _)))) | exact List.Mem.tail _ (List.Mem.tail _ (List.Mem.tail _ (List.Mem.tail _ (List.Mem.tail _ (List.Mem.head _))))) | exact List.Mem.tail _ (List.Mem.tail _ (List.Mem.tail _ (List.Mem.tail _ (List.Mem.tail _ (List.Mem.tail _ (List.Mem.head _)))))) | exact List.Mem.tail _ (List.Mem.tail _ (List.Mem.tail _ (List.Mem.tail _ (List.Mem.tail _ (List.Mem.tail _ (List.Mem.tail _ (List.Mem.head _)))))))
    refine zpcF (M := (zh197, zc197)) 197 5 rfl zckm197 (fun _ _ _ _ h => h) ?_
    refine zdecF (show ¬ I 2 30 = Int32.ofInt 32 from den (by rw [hw 30 115 rfl, oI (by decide) (by decide)] <;> omega)) (fun _ => ?_)
    refine zdecF (show ¬ I 2 31 = Int32.ofInt 32 from den (by rw [hw 31 101 rfl, oI (by decide) (by decide)] <;> omega)) (fun _ => ?_)
    refine zdecF (show ¬ I 2 32 = Int32.ofInt 32 from den (by rw [hw 32 101 rfl, oI (by decide) (by decide)] <;> omega)) (fun _ => ?_)
    refine zdecF (show ¬ I 2 33 = Int32.ofInt 32 from den (by rw [hw 33 100 rfl, oI (by decide) (by decide)] <;> omega)) (fun _ => ?_)
    refine zdecT (show I 2 34 = Int32.ofInt 32 from deq (by rw [hw 34 32 rfl, oI (by decide) (by decide)] <;> omega)) (fun _ => ?_)
    refine zdecT (show Int32.ofInt 4 = (Int32.ofNat (pa + m)) - (Int32.ofNat pa) from deq (by rw [oI (by decide) (by decide), hba] <;> omega)) (fun _ => ?_)
    refine zdecF b0 (fun _ => ?_)
    refine zdecT (show I 2 30 = I 1 (Int32.ofNat pa + Int32.ofInt 0).toNatClampNeg from deq (by rw [hw 30 115 rfl, t0] <;> omega)) (fun _ => ?_)
    refine zdecF b1 (fun _ => ?_)
    refine zdecT (show I 2 31 = I 1 (Int32.ofNat pa + Int32.ofInt 1).toNatClampNeg from deq (by rw [hw 31 101 rfl, t1] <;> omega)) (fun _ => ?_)
    refine zdecF b2 (fun _ => ?_)
    refine zdecT (show I 2 32 = I 1 (Int32.ofNat pa + Int32.ofInt 2).toNatClampNeg from deq (by rw [hw 32 101 rfl, t2] <;> omega)) (fun _ => ?_)
    refine zdecF b3 (fun _ => ?_)
    refine zdecT (show I 2 33 = I 1 (Int32.ofNat pa + Int32.ofInt 3).toNatClampNeg from deq (by rw [hw 33 100 rfl, t3] <;> omega)) (fun _ => ?_)
    exact hY ⟨hm, c0, c1, c2, c3⟩
  · refine zpcF (M := (zh197, zc197)) 197 5 rfl zckm197 (fun _ _ _ _ h => h) ?_
    refine zdecF (show ¬ I 2 30 = Int32.ofInt 32 from den (by rw [hw 30 115 rfl, oI (by decide) (by decide)] <;> omega)) (fun _ => ?_)
    refine zdecF (show ¬ I 2 31 = Int32.ofInt 32 from den (by rw [hw 31 101 rfl, oI (by decide) (by decide)] <;> omega)) (fun _ => ?_)
    refine zdecF (show ¬ I 2 32 = Int32.ofInt 32 from den (by rw [hw 32 101 rfl, oI (by decide) (by decide)] <;> omega)) (fun _ => ?_)
    refine zdecF (show ¬ I 2 33 = Int32.ofInt 32 from den (by rw [hw 33 100 rfl, oI (by decide) (by decide)] <;> omega)) (fun _ => ?_)
    refine zdecT (show I 2 34 = Int32.ofInt 32 from deq (by rw [hw 34 32 rfl, oI (by decide) (by decide)] <;> omega)) (fun _ => ?_)
    refine zdecF (show ¬ Int32.ofInt 4 = (Int32.ofNat (pa + m)) - (Int32.ofNat pa) from den (by rw [oI (by decide) (by decide), hba] <;> omega)) (fun _ => ?_)
    refine zX_sub (fun x hx => ?_) (hN (by omega))
    simp only [List.mem_cons, List.not_mem_nil, or_false] at hx
    rcases hx with rfl | rfl | rfl | rfl | rfl
    all_goals first | exact List.Mem.head _ | exact List.Mem.tail _ (List.Mem.head _) | exact List.Mem.tail _ (List.Mem.tail _ (List.Mem.head _)) | exact List.Mem.tail _ (List.Mem.tail _ (List.Mem.tail _ (List.Mem.head _))) | exact List.Mem.tail _ (List.Mem.tail _ (List.Mem.tail _ (List.Mem.tail _ (List.Mem.head _)))) | exact List.Mem.tail _ (List.Mem.tail _ (List.Mem.tail _ (List.Mem.tail _ (List.Mem.tail _ (List.Mem.head _))))) | exact List.Mem.tail _ (List.Mem.tail _ (List.Mem.tail _ (List.Mem.tail _ (List.Mem.tail _ (List.Mem.tail _ (List.Mem.head _)))))) | exact List.Mem.tail _ (List.Mem.tail _ (List.Mem.tail _ (List.Mem.tail _ (List.Mem.tail _ (List.Mem.tail _ (List.Mem.tail _ (List.Mem.head _)))))))
set_option maxRecDepth 100000 in
set_option maxHeartbeats 4000000 in
theorem zw7 {l : Launch} {Γ : zG} {d : Nat} {Kp : Option Value → zH → Prop} {I : zHI} {Lg : zHL} {P : zHP} {T : Nat → Int} {pa m : Nat} (hH : wH I P T pa m) (hY : mtW T pa m 7 → Kp (some (.int (Int32.ofInt 7))) (zshM, I, Lg, P))
    (hN : ¬ mtW T pa m 7 → zX l Γ false (d + 1) zh197 (zMQ' Γ false zh197 Kp) 0 0 5 [(4, .int (Int32.ofInt 39)), (3, .int (Int32.ofInt 8)), (0, .ref 0), (1, .int (Int32.ofNat pa)), (2, .int (Int32.ofNat (pa + m)))] [] (zshM, I, Lg, P)) : zX l Γ false (d + 1) zh197 (zMQ' Γ false zh197 Kp) 0 0 5 [(4, .int (Int32.ofInt 35)), (3, .int (Int32.ofInt 7)), (0, .ref 0), (1, .int (Int32.ofNat pa)), (2, .int (Int32.ofNat (pa + m)))] [] (zshM, I, Lg, P) := by
  obtain ⟨hP0, hP3, hw, hm1, hpm, hT⟩ := hH
  have hba : (Int32.ofNat (pa + m) - Int32.ofNat pa).toInt = (m : Int) := by
    rw [Int32.toInt_sub, oN (by omega), oN (by omega), s32r _ (by show (-2147483648 : Int) ≤ _; omega) (by show _ ≤ (2147483647 : Int); omega)]
    omega
  have eP := wPx hP0 hP3
  rw [eP] at hY hN ⊢
  have hN : ¬ (m = 3 ∧ T pa = 108 ∧ T (pa + 1) = 97 ∧ T (pa + 2) = 119) → _ := hN
  have hY : (m = 3 ∧ T pa = 108 ∧ T (pa + 1) = 97 ∧ T (pa + 2) = 119) → _ := hY
  by_cases hm : m = 3
  · have q0 : (I 1 (Int32.ofNat pa + Int32.ofInt 0).toNatClampNeg).toInt = T pa ∧ ¬ (Int32.ofNat pa + Int32.ofInt 0 < 0 ∨ 700 ≤ (Int32.ofNat pa + Int32.ofInt 0).toNatClampNeg) := wIdx 0 (by omega) hT
    have t0 := q0.1
    have b0 := q0.2
    have q1 : (I 1 (Int32.ofNat pa + Int32.ofInt 1).toNatClampNeg).toInt = T (pa + 1) ∧ ¬ (Int32.ofNat pa + Int32.ofInt 1 < 0 ∨ 700 ≤ (Int32.ofNat pa + Int32.ofInt 1).toNatClampNeg) := wIdx 1 (by omega) hT
    have t1 := q1.1
    have b1 := q1.2
    have q2 : (I 1 (Int32.ofNat pa + Int32.ofInt 2).toNatClampNeg).toInt = T (pa + 2) ∧ ¬ (Int32.ofNat pa + Int32.ofInt 2 < 0 ∨ 700 ≤ (Int32.ofNat pa + Int32.ofInt 2).toNatClampNeg) := wIdx 2 (by omega) hT
    have t2 := q2.1
    have b2 := q2.2
    by_cases c0 : T pa = 108
    case neg =>
      refine zpcF (M := (zh197, zc197)) 197 5 rfl zckm197 (fun _ _ _ _ h => h) ?_
      refine zdecF (show ¬ I 2 35 = Int32.ofInt 32 from den (by rw [hw 35 108 rfl, oI (by decide) (by decide)] <;> omega)) (fun _ => ?_)
      refine zdecF (show ¬ I 2 36 = Int32.ofInt 32 from den (by rw [hw 36 97 rfl, oI (by decide) (by decide)] <;> omega)) (fun _ => ?_)
      refine zdecF (show ¬ I 2 37 = Int32.ofInt 32 from den (by rw [hw 37 119 rfl, oI (by decide) (by decide)] <;> omega)) (fun _ => ?_)
      refine zdecT (show I 2 38 = Int32.ofInt 32 from deq (by rw [hw 38 32 rfl, oI (by decide) (by decide)] <;> omega)) (fun _ => ?_)
      refine zdecT (show Int32.ofInt 3 = (Int32.ofNat (pa + m)) - (Int32.ofNat pa) from deq (by rw [oI (by decide) (by decide), hba] <;> omega)) (fun _ => ?_)
      refine zdecF b0 (fun _ => ?_)
      refine zdecF (show ¬ I 2 35 = I 1 (Int32.ofNat pa + Int32.ofInt 0).toNatClampNeg from den (by rw [hw 35 108 rfl, t0] <;> omega)) (fun _ => ?_)
      refine zX_sub (fun x hx => ?_) (hN (by omega))
      simp only [List.mem_cons, List.not_mem_nil, or_false] at hx
      rcases hx with rfl | rfl | rfl | rfl | rfl
      all_goals first | exact List.Mem.head _ | exact List.Mem.tail _ (List.Mem.head _) | exact List.Mem.tail _ (List.Mem.tail _ (List.Mem.head _)) | exact List.Mem.tail _ (List.Mem.tail _ (List.Mem.tail _ (List.Mem.head _))) | exact List.Mem.tail _ (List.Mem.tail _ (List.Mem.tail _ (List.Mem.tail _ (List.Mem.head _)))) | exact List.Mem.tail _ (List.Mem.tail _ (List.Mem.tail _ (List.Mem.tail _ (List.Mem.tail _ (List.Mem.head _))))) | exact List.Mem.tail _ (List.Mem.tail _ (List.Mem.tail _ (List.Mem.tail _ (List.Mem.tail _ (List.Mem.tail _ (List.Mem.head _)))))) | exact List.Mem.tail _ (List.Mem.tail _ (List.Mem.tail _ (List.Mem.tail _ (List.Mem.tail _ (List.Mem.tail _ (List.Mem.tail _ (List.Mem.head _)))))))
    by_cases c1 : T (pa + 1) = 97
    case neg =>
      refine zpcF (M := (zh197, zc197)) 197 5 rfl zckm197 (fun _ _ _ _ h => h) ?_
      refine zdecF (show ¬ I 2 35 = Int32.ofInt 32 from den (by rw [hw 35 108 rfl, oI (by decide) (by decide)] <;> omega)) (fun _ => ?_)
      refine zdecF (show ¬ I 2 36 = Int32.ofInt 32 from den (by rw [hw 36 97 rfl, oI (by decide) (by decide)] <;> omega)) (fun _ => ?_)
      refine zdecF (show ¬ I 2 37 = Int32.ofInt 32 from den (by rw [hw 37 119 rfl, oI (by decide) (by decide)] <;> omega)) (fun _ => ?_)
      refine zdecT (show I 2 38 = Int32.ofInt 32 from deq (by rw [hw 38 32 rfl, oI (by decide) (by decide)] <;> omega)) (fun _ => ?_)
      refine zdecT (show Int32.ofInt 3 = (Int32.ofNat (pa + m)) - (Int32.ofNat pa) from deq (by rw [oI (by decide) (by decide), hba] <;> omega)) (fun _ => ?_)
      refine zdecF b0 (fun _ => ?_)
      refine zdecT (show I 2 35 = I 1 (Int32.ofNat pa + Int32.ofInt 0).toNatClampNeg from deq (by rw [hw 35 108 rfl, t0] <;> omega)) (fun _ => ?_)
      refine zdecF b1 (fun _ => ?_)
      refine zdecF (show ¬ I 2 36 = I 1 (Int32.ofNat pa + Int32.ofInt 1).toNatClampNeg from den (by rw [hw 36 97 rfl, t1] <;> omega)) (fun _ => ?_)
      refine zX_sub (fun x hx => ?_) (hN (by omega))
      simp only [List.mem_cons, List.not_mem_nil, or_false] at hx
      rcases hx with rfl | rfl | rfl | rfl | rfl
      all_goals first | exact List.Mem.head _ | exact List.Mem.tail _ (List.Mem.head _) | exact List.Mem.tail _ (List.Mem.tail _ (List.Mem.head _)) | exact List.Mem.tail _ (List.Mem.tail _ (List.Mem.tail _ (List.Mem.head _))) | exact List.Mem.tail _ (List.Mem.tail _ (List.Mem.tail _ (List.Mem.tail _ (List.Mem.head _)))) | exact List.Mem.tail _ (List.Mem.tail _ (List.Mem.tail _ (List.Mem.tail _ (List.Mem.tail _ (List.Mem.head _))))) | exact List.Mem.tail _ (List.Mem.tail _ (List.Mem.tail _ (List.Mem.tail _ (List.Mem.tail _ (List.Mem.tail _ (List.Mem.head _)))))) | exact List.Mem.tail _ (List.Mem.tail _ (List.Mem.tail _ (List.Mem.tail _ (List.Mem.tail _ (List.Mem.tail _ (List.Mem.tail _ (List.Mem.head _)))))))
    by_cases c2 : T (pa + 2) = 119
    case neg =>
      refine zpcF (M := (zh197, zc197)) 197 5 rfl zckm197 (fun _ _ _ _ h => h) ?_
      refine zdecF (show ¬ I 2 35 = Int32.ofInt 32 from den (by rw [hw 35 108 rfl, oI (by decide) (by decide)] <;> omega)) (fun _ => ?_)
      refine zdecF (show ¬ I 2 36 = Int32.ofInt 32 from den (by rw [hw 36 97 rfl, oI (by decide) (by decide)] <;> omega)) (fun _ => ?_)
      refine zdecF (show ¬ I 2 37 = Int32.ofInt 32 from den (by rw [hw 37 119 rfl, oI (by decide) (by decide)] <;> omega)) (fun _ => ?_)
      refine zdecT (show I 2 38 = Int32.ofInt 32 from deq (by rw [hw 38 32 rfl, oI (by decide) (by decide)] <;> omega)) (fun _ => ?_)
      refine zdecT (show Int32.ofInt 3 = (Int32.ofNat (pa + m)) - (Int32.ofNat pa) from deq (by rw [oI (by decide) (by decide), hba] <;> omega)) (fun _ => ?_)
      refine zdecF b0 (fun _ => ?_)
      refine zdecT (show I 2 35 = I 1 (Int32.ofNat pa + Int32.ofInt 0).toNatClampNeg from deq (by rw [hw 35 108 rfl, t0] <;> omega)) (fun _ => ?_)
      refine zdecF b1 (fun _ => ?_)
      refine zdecT (show I 2 36 = I 1 (Int32.ofNat pa + Int32.ofInt 1).toNatClampNeg from deq (by rw [hw 36 97 rfl, t1] <;> omega)) (fun _ => ?_)
      refine zdecF b2 (fun _ => ?_)
      refine zdecF (show ¬ I 2 37 = I 1 (Int32.ofNat pa + Int32.ofInt 2).toNatClampNeg from den (by rw [hw 37 119 rfl, t2] <;> omega)) (fun _ => ?_)
      refine zX_sub (fun x hx => ?_) (hN (by omega))
      simp only [List.mem_cons, List.not_mem_nil, or_false] at hx
      rcases hx with rfl | rfl | rfl | rfl | rfl
      all_goals first | exact List.Mem.head _ | exact List.Mem.tail _ (List.Mem.head _) | exact List.Mem.tail _ (List.Mem.tail _ (List.Mem.head _)) | exact List.Mem.tail _ (List.Mem.tail _ (List.Mem.tail _ (List.Mem.head _))) | exact List.Mem.tail _ (List.Mem.tail _ (List.Mem.tail _ (List.Mem.tail _ (List.Mem.head _)))) | exact List.Mem.tail _ (List.Mem.tail _ (List.Mem.tail _ (List.Mem.tail _ (List.Mem.tail _ (List.Mem.head _))))) | exact List.Mem.tail _ (List.Mem.tail _ (List.Mem.tail _ (List.Mem.tail _ (List.Mem.tail _ (List.Mem.tail _ (List.Mem.head _)))))) | exact List.Mem.tail _ (List.Mem.tail _ (List.Mem.tail _ (List.Mem.tail _ (List.Mem.tail _ (List.Mem.tail _ (List.Mem.tail _ (List.Mem.head _)))))))
    refine zpcF (M := (zh197, zc197)) 197 5 rfl zckm197 (fun _ _ _ _ h => h) ?_
    refine zdecF (show ¬ I 2 35 = Int32.ofInt 32 from den (by rw [hw 35 108 rfl, oI (by decide) (by decide)] <;> omega)) (fun _ => ?_)
    refine zdecF (show ¬ I 2 36 = Int32.ofInt 32 from den (by rw [hw 36 97 rfl, oI (by decide) (by decide)] <;> omega)) (fun _ => ?_)
    refine zdecF (show ¬ I 2 37 = Int32.ofInt 32 from den (by rw [hw 37 119 rfl, oI (by decide) (by decide)] <;> omega)) (fun _ => ?_)
    refine zdecT (show I 2 38 = Int32.ofInt 32 from deq (by rw [hw 38 32 rfl, oI (by decide) (by decide)] <;> omega)) (fun _ => ?_)
    refine zdecT (show Int32.ofInt 3 = (Int32.ofNat (pa + m)) - (Int32.ofNat pa) from deq (by rw [oI (by decide) (by decide), hba] <;> omega)) (fun _ => ?_)
    refine zdecF b0 (fun _ => ?_)
    refine zdecT (show I 2 35 = I 1 (Int32.ofNat pa + Int32.ofInt 0).toNatClampNeg from deq (by rw [hw 35 108 rfl, t0] <;> omega)) (fun _ => ?_)
    refine zdecF b1 (fun _ => ?_)
    refine zdecT (show I 2 36 = I 1 (Int32.ofNat pa + Int32.ofInt 1).toNatClampNeg from deq (by rw [hw 36 97 rfl, t1] <;> omega)) (fun _ => ?_)
    refine zdecF b2 (fun _ => ?_)
    refine zdecT (show I 2 37 = I 1 (Int32.ofNat pa + Int32.ofInt 2).toNatClampNeg from deq (by rw [hw 37 119 rfl, t2] <;> omega)) (fun _ => ?_)
    exact hY ⟨hm, c0, c1, c2⟩
  · refine zpcF (M := (zh197, zc197)) 197 5 rfl zckm197 (fun _ _ _ _ h => h) ?_
    refine zdecF (show ¬ I 2 35 = Int32.ofInt 32 from den (by rw [hw 35 108 rfl, oI (by decide) (by decide)] <;> omega)) (fun _ => ?_)
    refine zdecF (show ¬ I 2 36 = Int32.ofInt 32 from den (by rw [hw 36 97 rfl, oI (by decide) (by decide)] <;> omega)) (fun _ => ?_)
    refine zdecF (show ¬ I 2 37 = Int32.ofInt 32 from den (by rw [hw 37 119 rfl, oI (by decide) (by decide)] <;> omega)) (fun _ => ?_)
    refine zdecT (show I 2 38 = Int32.ofInt 32 from deq (by rw [hw 38 32 rfl, oI (by decide) (by decide)] <;> omega)) (fun _ => ?_)
    refine zdecF (show ¬ Int32.ofInt 3 = (Int32.ofNat (pa + m)) - (Int32.ofNat pa) from den (by rw [oI (by decide) (by decide), hba] <;> omega)) (fun _ => ?_)
    refine zX_sub (fun x hx => ?_) (hN (by omega))
    simp only [List.mem_cons, List.not_mem_nil, or_false] at hx
    rcases hx with rfl | rfl | rfl | rfl | rfl
    all_goals first | exact List.Mem.head _ | exact List.Mem.tail _ (List.Mem.head _) | exact List.Mem.tail _ (List.Mem.tail _ (List.Mem.head _)) | exact List.Mem.tail _ (List.Mem.tail _ (List.Mem.tail _ (List.Mem.head _))) | exact List.Mem.tail _ (List.Mem.tail _ (List.Mem.tail _ (List.Mem.tail _ (List.Mem.head _)))) | exact List.Mem.tail _ (List.Mem.tail _ (List.Mem.tail _ (List.Mem.tail _ (List.Mem.tail _ (List.Mem.head _))))) | exact List.Mem.tail _ (List.Mem.tail _ (List.Mem.tail _ (List.Mem.tail _ (List.Mem.tail _ (List.Mem.tail _ (List.Mem.head _)))))) | exact List.Mem.tail _ (List.Mem.tail _ (List.Mem.tail _ (List.Mem.tail _ (List.Mem.tail _ (List.Mem.tail _ (List.Mem.tail _ (List.Mem.head _)))))))
set_option maxRecDepth 100000 in
set_option maxHeartbeats 4000000 in
theorem zw8 {l : Launch} {Γ : zG} {d : Nat} {Kp : Option Value → zH → Prop} {I : zHI} {Lg : zHL} {P : zHP} {T : Nat → Int} {pa m : Nat} (hH : wH I P T pa m) (hY : mtW T pa m 8 → Kp (some (.int (Int32.ofInt 8))) (zshM, I, Lg, P))
    (hN : ¬ mtW T pa m 8 → zX l Γ false (d + 1) zh197 (zMQ' Γ false zh197 Kp) 0 0 5 [(4, .int (Int32.ofInt 44)), (3, .int (Int32.ofInt 9)), (0, .ref 0), (1, .int (Int32.ofNat pa)), (2, .int (Int32.ofNat (pa + m)))] [] (zshM, I, Lg, P)) : zX l Γ false (d + 1) zh197 (zMQ' Γ false zh197 Kp) 0 0 5 [(4, .int (Int32.ofInt 39)), (3, .int (Int32.ofInt 8)), (0, .ref 0), (1, .int (Int32.ofNat pa)), (2, .int (Int32.ofNat (pa + m)))] [] (zshM, I, Lg, P) := by
  obtain ⟨hP0, hP3, hw, hm1, hpm, hT⟩ := hH
  have hba : (Int32.ofNat (pa + m) - Int32.ofNat pa).toInt = (m : Int) := by
    rw [Int32.toInt_sub, oN (by omega), oN (by omega), s32r _ (by show (-2147483648 : Int) ≤ _; omega) (by show _ ≤ (2147483647 : Int); omega)]
    omega
  have eP := wPx hP0 hP3
  rw [eP] at hY hN ⊢
  have hN : ¬ (m = 4 ∧ T pa = 102 ∧ T (pa + 1) = 108 ∧ T (pa + 2) = 111 ∧ T (pa + 3) = 119) → _ := hN
  have hY : (m = 4 ∧ T pa = 102 ∧ T (pa + 1) = 108 ∧ T (pa + 2) = 111 ∧ T (pa + 3) = 119) → _ := hY
  by_cases hm : m = 4
  · have q0 : (I 1 (Int32.ofNat pa + Int32.ofInt 0).toNatClampNeg).toInt = T pa ∧ ¬ (Int32.ofNat pa + Int32.ofInt 0 < 0 ∨ 700 ≤ (Int32.ofNat pa + Int32.ofInt 0).toNatClampNeg) := wIdx 0 (by omega) hT
    have t0 := q0.1
    have b0 := q0.2
    have q1 : (I 1 (Int32.ofNat pa + Int32.ofInt 1).toNatClampNeg).toInt = T (pa + 1) ∧ ¬ (Int32.ofNat pa + Int32.ofInt 1 < 0 ∨ 700 ≤ (Int32.ofNat pa + Int32.ofInt 1).toNatClampNeg) := wIdx 1 (by omega) hT
    have t1 := q1.1
    have b1 := q1.2
    have q2 : (I 1 (Int32.ofNat pa + Int32.ofInt 2).toNatClampNeg).toInt = T (pa + 2) ∧ ¬ (Int32.ofNat pa + Int32.ofInt 2 < 0 ∨ 700 ≤ (Int32.ofNat pa + Int32.ofInt 2).toNatClampNeg) := wIdx 2 (by omega) hT
    have t2 := q2.1
    have b2 := q2.2
    have q3 : (I 1 (Int32.ofNat pa + Int32.ofInt 3).toNatClampNeg).toInt = T (pa + 3) ∧ ¬ (Int32.ofNat pa + Int32.ofInt 3 < 0 ∨ 700 ≤ (Int32.ofNat pa + Int32.ofInt 3).toNatClampNeg) := wIdx 3 (by omega) hT
    have t3 := q3.1
    have b3 := q3.2
    by_cases c0 : T pa = 102
    case neg =>
      refine zpcF (M := (zh197, zc197)) 197 5 rfl zckm197 (fun _ _ _ _ h => h) ?_
      refine zdecF (show ¬ I 2 39 = Int32.ofInt 32 from den (by rw [hw 39 102 rfl, oI (by decide) (by decide)] <;> omega)) (fun _ => ?_)
      refine zdecF (show ¬ I 2 40 = Int32.ofInt 32 from den (by rw [hw 40 108 rfl, oI (by decide) (by decide)] <;> omega)) (fun _ => ?_)
      refine zdecF (show ¬ I 2 41 = Int32.ofInt 32 from den (by rw [hw 41 111 rfl, oI (by decide) (by decide)] <;> omega)) (fun _ => ?_)
      refine zdecF (show ¬ I 2 42 = Int32.ofInt 32 from den (by rw [hw 42 119 rfl, oI (by decide) (by decide)] <;> omega)) (fun _ => ?_)
      refine zdecT (show I 2 43 = Int32.ofInt 32 from deq (by rw [hw 43 32 rfl, oI (by decide) (by decide)] <;> omega)) (fun _ => ?_)
      refine zdecT (show Int32.ofInt 4 = (Int32.ofNat (pa + m)) - (Int32.ofNat pa) from deq (by rw [oI (by decide) (by decide), hba] <;> omega)) (fun _ => ?_)
      refine zdecF b0 (fun _ => ?_)
      refine zdecF (show ¬ I 2 39 = I 1 (Int32.ofNat pa + Int32.ofInt 0).toNatClampNeg from den (by rw [hw 39 102 rfl, t0] <;> omega)) (fun _ => ?_)
      refine zX_sub (fun x hx => ?_) (hN (by omega))
      simp only [List.mem_cons, List.not_mem_nil, or_false] at hx
      rcases hx with rfl | rfl | rfl | rfl | rfl
      all_goals first | exact List.Mem.head _ | exact List.Mem.tail _ (List.Mem.head _) | exact List.Mem.tail _ (List.Mem.tail _ (List.Mem.head _)) | exact List.Mem.tail _ (List.Mem.tail _ (List.Mem.tail _ (List.Mem.head _))) | exact List.Mem.tail _ (List.Mem.tail _ (List.Mem.tail _ (List.Mem.tail _ (List.Mem.head _)))) | exact List.Mem.tail _ (List.Mem.tail _ (List.Mem.tail _ (List.Mem.tail _ (List.Mem.tail _ (List.Mem.head _))))) | exact List.Mem.tail _ (List.Mem.tail _ (List.Mem.tail _ (List.Mem.tail _ (List.Mem.tail _ (List.Mem.tail _ (List.Mem.head _)))))) | exact List.Mem.tail _ (List.Mem.tail _ (List.Mem.tail _ (List.Mem.tail _ (List.Mem.tail _ (List.Mem.tail _ (List.Mem.tail _ (List.Mem.head _)))))))
    by_cases c1 : T (pa + 1) = 108
    case neg =>
      refine zpcF (M := (zh197, zc197)) 197 5 rfl zckm197 (fun _ _ _ _ h => h) ?_
      refine zdecF (show ¬ I 2 39 = Int32.ofInt 32 from den (by rw [hw 39 102 rfl, oI (by decide) (by decide)] <;> omega)) (fun _ => ?_)
      refine zdecF (show ¬ I 2 40 = Int32.ofInt 32 from den (by rw [hw 40 108 rfl, oI (by decide) (by decide)] <;> omega)) (fun _ => ?_)
      refine zdecF (show ¬ I 2 41 = Int32.ofInt 32 from den (by rw [hw 41 111 rfl, oI (by decide) (by decide)] <;> omega)) (fun _ => ?_)
      refine zdecF (show ¬ I 2 42 = Int32.ofInt 32 from den (by rw [hw 42 119 rfl, oI (by decide) (by decide)] <;> omega)) (fun _ => ?_)
      refine zdecT (show I 2 43 = Int32.ofInt 32 from deq (by rw [hw 43 32 rfl, oI (by decide) (by decide)] <;> omega)) (fun _ => ?_)
      refine zdecT (show Int32.ofInt 4 = (Int32.ofNat (pa + m)) - (Int32.ofNat pa) from deq (by rw [oI (by decide) (by decide), hba] <;> omega)) (fun _ => ?_)
      refine zdecF b0 (fun _ => ?_)
      refine zdecT (show I 2 39 = I 1 (Int32.ofNat pa + Int32.ofInt 0).toNatClampNeg from deq (by rw [hw 39 102 rfl, t0] <;> omega)) (fun _ => ?_)
      refine zdecF b1 (fun _ => ?_)
      refine zdecF (show ¬ I 2 40 = I 1 (Int32.ofNat pa + Int32.ofInt 1).toNatClampNeg from den (by rw [hw 40 108 rfl, t1] <;> omega)) (fun _ => ?_)
      refine zX_sub (fun x hx => ?_) (hN (by omega))
      simp only [List.mem_cons, List.not_mem_nil, or_false] at hx
      rcases hx with rfl | rfl | rfl | rfl | rfl
      all_goals first | exact List.Mem.head _ | exact List.Mem.tail _ (List.Mem.head _) | exact List.Mem.tail _ (List.Mem.tail _ (List.Mem.head _)) | exact List.Mem.tail _ (List.Mem.tail _ (List.Mem.tail _ (List.Mem.head _))) | exact List.Mem.tail _ (List.Mem.tail _ (List.Mem.tail _ (List.Mem.tail _ (List.Mem.head _)))) | exact List.Mem.tail _ (List.Mem.tail _ (List.Mem.tail _ (List.Mem.tail _ (List.Mem.tail _ (List.Mem.head _))))) | exact List.Mem.tail _ (List.Mem.tail _ (List.Mem.tail _ (List.Mem.tail _ (List.Mem.tail _ (List.Mem.tail _ (List.Mem.head _)))))) | exact List.Mem.tail _ (List.Mem.tail _ (List.Mem.tail _ (List.Mem.tail _ (List.Mem.tail _ (List.Mem.tail _ (List.Mem.tail _ (List.Mem.head _)))))))
    by_cases c2 : T (pa + 2) = 111
    case neg =>
      refine zpcF (M := (zh197, zc197)) 197 5 rfl zckm197 (fun _ _ _ _ h => h) ?_
      refine zdecF (show ¬ I 2 39 = Int32.ofInt 32 from den (by rw [hw 39 102 rfl, oI (by decide) (by decide)] <;> omega)) (fun _ => ?_)
      refine zdecF (show ¬ I 2 40 = Int32.ofInt 32 from den (by rw [hw 40 108 rfl, oI (by decide) (by decide)] <;> omega)) (fun _ => ?_)
      refine zdecF (show ¬ I 2 41 = Int32.ofInt 32 from den (by rw [hw 41 111 rfl, oI (by decide) (by decide)] <;> omega)) (fun _ => ?_)
      refine zdecF (show ¬ I 2 42 = Int32.ofInt 32 from den (by rw [hw 42 119 rfl, oI (by decide) (by decide)] <;> omega)) (fun _ => ?_)
      refine zdecT (show I 2 43 = Int32.ofInt 32 from deq (by rw [hw 43 32 rfl, oI (by decide) (by decide)] <;> omega)) (fun _ => ?_)
      refine zdecT (show Int32.ofInt 4 = (Int32.ofNat (pa + m)) - (Int32.ofNat pa) from deq (by rw [oI (by decide) (by decide), hba] <;> omega)) (fun _ => ?_)
      refine zdecF b0 (fun _ => ?_)
      refine zdecT (show I 2 39 = I 1 (Int32.ofNat pa + Int32.ofInt 0).toNatClampNeg from deq (by rw [hw 39 102 rfl, t0] <;> omega)) (fun _ => ?_)
      refine zdecF b1 (fun _ => ?_)
      refine zdecT (show I 2 40 = I 1 (Int32.ofNat pa + Int32.ofInt 1).toNatClampNeg from deq (by rw [hw 40 108 rfl, t1] <;> omega)) (fun _ => ?_)
      refine zdecF b2 (fun _ => ?_)
      refine zdecF (show ¬ I 2 41 = I 1 (Int32.ofNat pa + Int32.ofInt 2).toNatClampNeg from den (by rw [hw 41 111 rfl, t2] <;> omega)) (fun _ => ?_)
      refine zX_sub (fun x hx => ?_) (hN (by omega))
      simp only [List.mem_cons, List.not_mem_nil, or_false] at hx
      rcases hx with rfl | rfl | rfl | rfl | rfl
      all_goals first | exact List.Mem.head _ | exact List.Mem.tail _ (List.Mem.head _) | exact List.Mem.tail _ (List.Mem.tail _ (List.Mem.head _)) | exact List.Mem.tail _ (List.Mem.tail _ (List.Mem.tail _ (List.Mem.head _))) | exact List.Mem.tail _ (List.Mem.tail _ (List.Mem.tail _ (List.Mem.tail _ (List.Mem.head _)))) | exact List.Mem.tail _ (List.Mem.tail _ (List.Mem.tail _ (List.Mem.tail _ (List.Mem.tail _ (List.Mem.head _))))) | exact List.Mem.tail _ (List.Mem.tail _ (List.Mem.tail _ (List.Mem.tail _ (List.Mem.tail _ (List.Mem.tail _ (List.Mem.head _)))))) | exact List.Mem.tail _ (List.Mem.tail _ (List.Mem.tail _ (List.Mem.tail _ (List.Mem.tail _ (List.Mem.tail _ (List.Mem.tail _ (List.Mem.head _)))))))
    by_cases c3 : T (pa + 3) = 119
    case neg =>
      refine zpcF (M := (zh197, zc197)) 197 5 rfl zckm197 (fun _ _ _ _ h => h) ?_
      refine zdecF (show ¬ I 2 39 = Int32.ofInt 32 from den (by rw [hw 39 102 rfl, oI (by decide) (by decide)] <;> omega)) (fun _ => ?_)
      refine zdecF (show ¬ I 2 40 = Int32.ofInt 32 from den (by rw [hw 40 108 rfl, oI (by decide) (by decide)] <;> omega)) (fun _ => ?_)
      refine zdecF (show ¬ I 2 41 = Int32.ofInt 32 from den (by rw [hw 41 111 rfl, oI (by decide) (by decide)] <;> omega)) (fun _ => ?_)
      refine zdecF (show ¬ I 2 42 = Int32.ofInt 32 from den (by rw [hw 42 119 rfl, oI (by decide) (by decide)] <;> omega)) (fun _ => ?_)
      refine zdecT (show I 2 43 = Int32.ofInt 32 from deq (by rw [hw 43 32 rfl, oI (by decide) (by decide)] <;> omega)) (fun _ => ?_)
      refine zdecT (show Int32.ofInt 4 = (Int32.ofNat (pa + m)) - (Int32.ofNat pa) from deq (by rw [oI (by decide) (by decide), hba] <;> omega)) (fun _ => ?_)
      refine zdecF b0 (fun _ => ?_)
      refine zdecT (show I 2 39 = I 1 (Int32.ofNat pa + Int32.ofInt 0).toNatClampNeg from deq (by rw [hw 39 102 rfl, t0] <;> omega)) (fun _ => ?_)
      refine zdecF b1 (fun _ => ?_)
      refine zdecT (show I 2 40 = I 1 (Int32.ofNat pa + Int32.ofInt 1).toNatClampNeg from deq (by rw [hw 40 108 rfl, t1] <;> omega)) (fun _ => ?_)
      refine zdecF b2 (fun _ => ?_)
      refine zdecT (show I 2 41 = I 1 (Int32.ofNat pa + Int32.ofInt 2).toNatClampNeg from deq (by rw [hw 41 111 rfl, t2] <;> omega)) (fun _ => ?_)
      refine zdecF b3 (fun _ => ?_)
      refine zdecF (show ¬ I 2 42 = I 1 (Int32.ofNat pa + Int32.ofInt 3).toNatClampNeg from den (by rw [hw 42 119 rfl, t3] <;> omega)) (fun _ => ?_)
      refine zX_sub (fun x hx => ?_) (hN (by omega))
      simp only [List.mem_cons, List.not_mem_nil, or_false] at hx
      rcases hx with rfl | rfl | rfl | rfl | rfl
      all_goals first | exact List.Mem.head _ | exact List.Mem.tail _ (List.Mem.head _) | exact List.Mem.tail _ (List.Mem.tail _ (List.Mem.head _)) | exact List.Mem.tail _ (List.Mem.tail _ (List.Mem.tail _ (List.Mem.head _))) | exact List.Mem.tail _ (List.Mem.tail _ (List.Mem.tail _ (List.Mem.tail _ (List.Mem.head _)))) | exact List.Mem.tail _ (List.Mem.tail _ (List.Mem.tail _ (List.Mem.tail _ (List.Mem.tail _ (List.Mem.head _))))) | exact List.Mem.tail _ (List.Mem.tail _ (List.Mem.tail _ (List.Mem.tail _ (List.Mem.tail _ (List.Mem.tail _ (List.Mem.head _)))))) | exact List.Mem.tail _ (List.Mem.tail _ (List.Mem.tail _ (List.Mem.tail _ (List.Mem.tail _ (List.Mem.tail _ (List.Mem.tail _ (List.Mem.head _)))))))
    refine zpcF (M := (zh197, zc197)) 197 5 rfl zckm197 (fun _ _ _ _ h => h) ?_
    refine zdecF (show ¬ I 2 39 = Int32.ofInt 32 from den (by rw [hw 39 102 rfl, oI (by decide) (by decide)] <;> omega)) (fun _ => ?_)
    refine zdecF (show ¬ I 2 40 = Int32.ofInt 32 from den (by rw [hw 40 108 rfl, oI (by decide) (by decide)] <;> omega)) (fun _ => ?_)
    refine zdecF (show ¬ I 2 41 = Int32.ofInt 32 from den (by rw [hw 41 111 rfl, oI (by decide) (by decide)] <;> omega)) (fun _ => ?_)
    refine zdecF (show ¬ I 2 42 = Int32.ofInt 32 from den (by rw [hw 42 119 rfl, oI (by decide) (by decide)] <;> omega)) (fun _ => ?_)
    refine zdecT (show I 2 43 = Int32.ofInt 32 from deq (by rw [hw 43 32 rfl, oI (by decide) (by decide)] <;> omega)) (fun _ => ?_)
    refine zdecT (show Int32.ofInt 4 = (Int32.ofNat (pa + m)) - (Int32.ofNat pa) from deq (by rw [oI (by decide) (by decide), hba] <;> omega)) (fun _ => ?_)
    refine zdecF b0 (fun _ => ?_)
    refine zdecT (show I 2 39 = I 1 (Int32.ofNat pa + Int32.ofInt 0).toNatClampNeg from deq (by rw [hw 39 102 rfl, t0] <;> omega)) (fun _ => ?_)
    refine zdecF b1 (fun _ => ?_)
    refine zdecT (show I 2 40 = I 1 (Int32.ofNat pa + Int32.ofInt 1).toNatClampNeg from deq (by rw [hw 40 108 rfl, t1] <;> omega)) (fun _ => ?_)
    refine zdecF b2 (fun _ => ?_)
    refine zdecT (show I 2 41 = I 1 (Int32.ofNat pa + Int32.ofInt 2).toNatClampNeg from deq (by rw [hw 41 111 rfl, t2] <;> omega)) (fun _ => ?_)
    refine zdecF b3 (fun _ => ?_)
    refine zdecT (show I 2 42 = I 1 (Int32.ofNat pa + Int32.ofInt 3).toNatClampNeg from deq (by rw [hw 42 119 rfl, t3] <;> omega)) (fun _ => ?_)
    exact hY ⟨hm, c0, c1, c2, c3⟩
  · refine zpcF (M := (zh197, zc197)) 197 5 rfl zckm197 (fun _ _ _ _ h => h) ?_
    refine zdecF (show ¬ I 2 39 = Int32.ofInt 32 from den (by rw [hw 39 102 rfl, oI (by decide) (by decide)] <;> omega)) (fun _ => ?_)
    refine zdecF (show ¬ I 2 40 = Int32.ofInt 32 from den (by rw [hw 40 108 rfl, oI (by decide) (by decide)] <;> omega)) (fun _ => ?_)
    refine zdecF (show ¬ I 2 41 = Int32.ofInt 32 from den (by rw [hw 41 111 rfl, oI (by decide) (by decide)] <;> omega)) (fun _ => ?_)
    refine zdecF (show ¬ I 2 42 = Int32.ofInt 32 from den (by rw [hw 42 119 rfl, oI (by decide) (by decide)] <;> omega)) (fun _ => ?_)
    refine zdecT (show I 2 43 = Int32.ofInt 32 from deq (by rw [hw 43 32 rfl, oI (by decide) (by decide)] <;> omega)) (fun _ => ?_)
    refine zdecF (show ¬ Int32.ofInt 4 = (Int32.ofNat (pa + m)) - (Int32.ofNat pa) from den (by rw [oI (by decide) (by decide), hba] <;> omega)) (fun _ => ?_)
    refine zX_sub (fun x hx => ?_) (hN (by omega))
    simp only [List.mem_cons, List.not_mem_nil, or_false] at hx
    rcases hx with rfl | rfl | rfl | rfl | rfl
    all_goals first | exact List.Mem.head _ | exact List.Mem.tail _ (List.Mem.head _) | exact List.Mem.tail _ (List.Mem.tail _ (List.Mem.head _)) | exact List.Mem.tail _ (List.Mem.tail _ (List.Mem.tail _ (List.Mem.head _))) | exact List.Mem.tail _ (List.Mem.tail _ (List.Mem.tail _ (List.Mem.tail _ (List.Mem.head _)))) | exact List.Mem.tail _ (List.Mem.tail _ (List.Mem.tail _ (List.Mem.tail _ (List.Mem.tail _ (List.Mem.head _))))) | exact List.Mem.tail _ (List.Mem.tail _ (List.Mem.tail _ (List.Mem.tail _ (List.Mem.tail _ (List.Mem.tail _ (List.Mem.head _)))))) | exact List.Mem.tail _ (List.Mem.tail _ (List.Mem.tail _ (List.Mem.tail _ (List.Mem.tail _ (List.Mem.tail _ (List.Mem.tail _ (List.Mem.head _)))))))
