set_option maxRecDepth 100000 in
set_option maxHeartbeats 4000000 in
theorem zw15 {l : Launch} {Γ : zG} {d : Nat} {Kp : Option Value → zH → Prop} {I : zHI} {Lg : zHL} {P : zHP} {T : Nat → Int} {pa m : Nat} (hH : wH I P T pa m) (hY : mtW T pa m 15 → Kp (some (.int (Int32.ofInt 15))) (zshM, I, Lg, P))
    (hN : ¬ mtW T pa m 15 → zX l Γ false (d + 1) zh197 (zMQ' Γ false zh197 Kp) 0 0 5 [(4, .int (Int32.ofInt 76)), (3, .int (Int32.ofInt 16)), (0, .ref 0), (1, .int (Int32.ofNat pa)), (2, .int (Int32.ofNat (pa + m)))] [] (zshM, I, Lg, P)) : zX l Γ false (d + 1) zh197 (zMQ' Γ false zh197 Kp) 0 0 5 [(4, .int (Int32.ofInt 70)), (3, .int (Int32.ofInt 15)), (0, .ref 0), (1, .int (Int32.ofNat pa)), (2, .int (Int32.ofNat (pa + m)))] [] (zshM, I, Lg, P) := by
  obtain ⟨hP0, hP3, hw, hm1, hpm, hT⟩ := hH
  have hba : (Int32.ofNat (pa + m) - Int32.ofNat pa).toInt = (m : Int) := by
    rw [Int32.toInt_sub, oN (by omega), oN (by omega), s32r _ (by show (-2147483648 : Int) ≤ _; omega) (by show _ ≤ (2147483647 : Int); omega)]
    omega
  have eP := wPx hP0 hP3
  rw [eP] at hY hN ⊢
  have hN : ¬ (m = 5 ∧ T pa = 98 ∧ T (pa + 1) = 101 ∧ T (pa + 2) = 108 ∧ T (pa + 3) = 111 ∧ T (pa + 4) = 119) → _ := hN
  have hY : (m = 5 ∧ T pa = 98 ∧ T (pa + 1) = 101 ∧ T (pa + 2) = 108 ∧ T (pa + 3) = 111 ∧ T (pa + 4) = 119) → _ := hY
  by_cases hm : m = 5
  · have q0 : (I 1 (Int32.ofNat pa + Int32.ofInt 0).toNatClampNeg).toInt = T pa ∧ ¬ (Int32.ofNat pa + Int32.ofInt 0 < 0 ∨ 700 ≤ (Int32.ofNat pa + Int32.ofInt 0).toNatClampNeg) := wIdx 0 (by omega) hT
    have t0 := q0.1
    have b0 := q0.2
    have q1 : (I 1 (Int32.ofNat pa + Int32.ofInt 1).toNatClampNeg).toInt = T (pa + 1) ∧ ¬ (Int32.ofNat pa + Int32.ofInt 1 < 0 ∨ 700 ≤ (Int32.ofNat pa + Int32.ofInt 1).toNatClampNeg) := wIdx 1 (by omega) hT
    have t1 := q1.1
    have b1 := q1.2
    have q2 : (I 1 (Int32.ofNat pa + Int32.ofInt 2).toNatClampNeg).toInt = T (pa + 2) ∧ ¬ (Int32.ofNat pa + Int32.ofInt 2 < 0 ∨ 700 ≤ (Int32.ofNat pa + Int32.ofInt 2).toNatClampNeg) := wIdx 2 (by omega) hT
    have t2 := q2.1
    have b2 := q2.2
    have q3 : (I 1 (Int32.ofNat pa + Int32.ofInt 3).toNatClampNeg).toInt = T (pa + 3) ∧ ¬ (Int32.ofNat pa + Int32.ofInt 3 < 0 ∨ 700 ≤ (Int32.ofNat pa + Int32.ofInt 3).toNatClampNeg) := wIdx 3 (by omega) hT
    have t3 := q3.1
    have b3 := q3.2
    have q4 : (I 1 (Int32.ofNat pa + Int32.ofInt 4).toNatClampNeg).toInt = T (pa + 4) ∧ ¬ (Int32.ofNat pa + Int32.ofInt 4 < 0 ∨ 700 ≤ (Int32.ofNat pa + Int32.ofInt 4).toNatClampNeg) := wIdx 4 (by omega) hT
    have t4 := q4.1
    have b4 := q4.2
    by_cases c0 : T pa = 98
    case neg =>
      refine zpcF (M := (zh197, zc197)) 197 5 rfl zckm197 (fun _ _ _ _ h => h) ?_
      refine zdecF (show ¬ I 2 70 = Int32.ofInt 32 from den (by rw [hw 70 98 rfl, oI (by decide) (by decide)] <;> omega)) (fun _ => ?_)
      refine zdecF (show ¬ I 2 71 = Int32.ofInt 32 from den (by rw [hw 71 101 rfl, oI (by decide) (by decide)] <;> omega)) (fun _ => ?_)
      refine zdecF (show ¬ I 2 72 = Int32.ofInt 32 from den (by rw [hw 72 108 rfl, oI (by decide) (by decide)] <;> omega)) (fun _ => ?_)
      refine zdecF (show ¬ I 2 73 = Int32.ofInt 32 from den (by rw [hw 73 111 rfl, oI (by decide) (by decide)] <;> omega)) (fun _ => ?_)
      refine zdecF (show ¬ I 2 74 = Int32.ofInt 32 from den (by rw [hw 74 119 rfl, oI (by decide) (by decide)] <;> omega)) (fun _ => ?_)
      refine zdecT (show I 2 75 = Int32.ofInt 32 from deq (by rw [hw 75 32 rfl, oI (by decide) (by decide)] <;> omega)) (fun _ => ?_)
      refine zdecT (show Int32.ofInt 5 = (Int32.ofNat (pa + m)) - (Int32.ofNat pa) from deq (by rw [oI (by decide) (by decide), hba] <;> omega)) (fun _ => ?_)
      refine zdecF b0 (fun _ => ?_)
      refine zdecF (show ¬ I 2 70 = I 1 (Int32.ofNat pa + Int32.ofInt 0).toNatClampNeg from den (by rw [hw 70 98 rfl, t0] <;> omega)) (fun _ => ?_)
      refine zX_sub (fun x hx => ?_) (hN (by omega))
      simp only [List.mem_cons, List.not_mem_nil, or_false] at hx
      rcases hx with rfl | rfl | rfl | rfl | rfl
      all_goals first | exact List.Mem.head _ | exact List.Mem.tail _ (List.Mem.head _) | exact List.Mem.tail _ (List.Mem.tail _ (List.Mem.head _)) | exact List.Mem.tail _ (List.Mem.tail _ (List.Mem.tail _ (List.Mem.head _))) | exact List.Mem.tail _ (List.Mem.tail _ (List.Mem.tail _ (List.Mem.tail _ (List.Mem.head _)))) | exact List.Mem.tail _ (List.Mem.tail _ (List.Mem.tail _ (List.Mem.tail _ (List.Mem.tail _ (List.Mem.head _))))) | exact List.Mem.tail _ (List.Mem.tail _ (List.Mem.tail _ (List.Mem.tail _ (List.Mem.tail _ (List.Mem.tail _ (List.Mem.head _)))))) | exact List.Mem.tail _ (List.Mem.tail _ (List.Mem.tail _ (List.Mem.tail _ (List.Mem.tail _ (List.Mem.tail _ (List.Mem.tail _ (List.Mem.head _)))))))
    by_cases c1 : T (pa + 1) = 101
    case neg =>
      refine zpcF (M := (zh197, zc197)) 197 5 rfl zckm197 (fun _ _ _ _ h => h) ?_
      refine zdecF (show ¬ I 2 70 = Int32.ofInt 32 from den (by rw [hw 70 98 rfl, oI (by decide) (by decide)] <;> omega)) (fun _ => ?_)
      refine zdecF (show ¬ I 2 71 = Int32.ofInt 32 from den (by rw [hw 71 101 rfl, oI (by decide) (by decide)] <;> omega)) (fun _ => ?_)
      refine zdecF (show ¬ I 2 72 = Int32.ofInt 32 from den (by rw [hw 72 108 rfl, oI (by decide) (by decide)] <;> omega)) (fun _ => ?_)
      refine zdecF (show ¬ I 2 73 = Int32.ofInt 32 from den (by rw [hw 73 111 rfl, oI (by decide) (by decide)] <;> omega)) (fun _ => ?_)
      refine zdecF (show ¬ I 2 74 = Int32.ofInt 32 from den (by rw [hw 74 119 rfl, oI (by decide) (by decide)] <;> omega)) (fun _ => ?_)
      refine zdecT (show I 2 75 = Int32.ofInt 32 from deq (by rw [hw 75 32 rfl, oI (by decide) (by decide)] <;> omega)) (fun _ => ?_)
      refine zdecT (show Int32.ofInt 5 = (Int32.ofNat (pa + m)) - (Int32.ofNat pa) from deq (by rw [oI (by decide) (by decide), hba] <;> omega)) (fun _ => ?_)
      refine zdecF b0 (fun _ => ?_)
      refine zdecT (show I 2 70 = I 1 (Int32.ofNat pa + Int32.ofInt 0).toNatClampNeg from deq (by rw [hw 70 98 rfl, t0] <;> omega)) (fun _ => ?_)
      refine zdecF b1 (fun _ => ?_)
      refine zdecF (show ¬ I 2 71 = I 1 (Int32.ofNat pa + Int32.ofInt 1).toNatClampNeg from den (by rw [hw 71 101 rfl, t1] <;> omega)) (fun _ => ?_)
      refine zX_sub (fun x hx => ?_) (hN (by omega))
      simp only [List.mem_cons, List.not_mem_nil, or_false] at hx
      rcases hx with rfl | rfl | rfl | rfl | rfl
      all_goals first | exact List.Mem.head _ | exact List.Mem.tail _ (List.Mem.head _) | exact List.Mem.tail _ (List.Mem.tail _ (List.Mem.head _)) | exact List.Mem.tail _ (List.Mem.tail _ (List.Mem.tail _ (List.Mem.head _))) | exact List.Mem.tail _ (List.Mem.tail _ (List.Mem.tail _ (List.Mem.tail _ (List.Mem.head _)))) | exact List.Mem.tail _ (List.Mem.tail _ (List.Mem.tail _ (List.Mem.tail _ (List.Mem.tail _ (List.Mem.head _))))) | exact List.Mem.tail _ (List.Mem.tail _ (List.Mem.tail _ (List.Mem.tail _ (List.Mem.tail _ (List.Mem.tail _ (List.Mem.head _)))))) | exact List.Mem.tail _ (List.Mem.tail _ (List.Mem.tail _ (List.Mem.tail _ (List.Mem.tail _ (List.Mem.tail _ (List.Mem.tail _ (List.Mem.head _)))))))
    by_cases c2 : T (pa + 2) = 108
    case neg =>
      refine zpcF (M := (zh197, zc197)) 197 5 rfl zckm197 (fun _ _ _ _ h => h) ?_
      refine zdecF (show ¬ I 2 70 = Int32.ofInt 32 from den (by rw [hw 70 98 rfl, oI (by decide) (by decide)] <;> omega)) (fun _ => ?_)
      refine zdecF (show ¬ I 2 71 = Int32.ofInt 32 from den (by rw [hw 71 101 rfl, oI (by decide) (by decide)] <;> omega)) (fun _ => ?_)
      refine zdecF (show ¬ I 2 72 = Int32.ofInt 32 from den (by rw [hw 72 108 rfl, oI (by decide) (by decide)] <;> omega)) (fun _ => ?_)
      refine zdecF (show ¬ I 2 73 = Int32.ofInt 32 from den (by rw [hw 73 111 rfl, oI (by decide) (by decide)] <;> omega)) (fun _ => ?_)
      refine zdecF (show ¬ I 2 74 = Int32.ofInt 32 from den (by rw [hw 74 119 rfl, oI (by decide) (by decide)] <;> omega)) (fun _ => ?_)
      refine zdecT (show I 2 75 = Int32.ofInt 32 from deq (by rw [hw 75 32 rfl, oI (by decide) (by decide)] <;> omega)) (fun _ => ?_)
      refine zdecT (show Int32.ofInt 5 = (Int32.ofNat (pa + m)) - (Int32.ofNat pa) from deq (by rw [oI (by decide) (by decide), hba] <;> omega)) (fun _ => ?_)
      refine zdecF b0 (fun _ => ?_)
      refine zdecT (show I 2 70 = I 1 (Int32.ofNat pa + Int32.ofInt 0).toNatClampNeg from deq (by rw [hw 70 98 rfl, t0] <;> omega)) (fun _ => ?_)
      refine zdecF b1 (fun _ => ?_)
      refine zdecT (show I 2 71 = I 1 (Int32.ofNat pa + Int32.ofInt 1).toNatClampNeg from deq (by rw [hw 71 101 rfl, t1] <;> omega)) (fun _ => ?_)
      refine zdecF b2 (fun _ => ?_)
      refine zdecF (show ¬ I 2 72 = I 1 (Int32.ofNat pa + Int32.ofInt 2).toNatClampNeg from den (by rw [hw 72 108 rfl, t2] <;> omega)) (fun _ => ?_)
      refine zX_sub (fun x hx => ?_) (hN (by omega))
      simp only [List.mem_cons, List.not_mem_nil, or_false] at hx
      rcases hx with rfl | rfl | rfl | rfl | rfl
      all_goals first | exact List.Mem.head _ | exact List.Mem.tail _ (List.Mem.head _) | exact List.Mem.tail _ (List.Mem.tail _ (List.Mem.head _)) | exact List.Mem.tail _ (List.Mem.tail _ (List.Mem.tail _ (List.Mem.head _))) | exact List.Mem.tail _ (List.Mem.tail _ (List.Mem.tail _ (List.Mem.tail _ (List.Mem.head _)))) | exact List.Mem.tail _ (List.Mem.tail _ (List.Mem.tail _ (List.Mem.tail _ (List.Mem.tail _ (List.Mem.head _))))) | exact List.Mem.tail _ (List.Mem.tail _ (List.Mem.tail _ (List.Mem.tail _ (List.Mem.tail _ (List.Mem.tail _ (List.Mem.head _)))))) | exact List.Mem.tail _ (List.Mem.tail _ (List.Mem.tail _ (List.Mem.tail _ (List.Mem.tail _ (List.Mem.tail _ (List.Mem.tail _ (List.Mem.head _)))))))
    by_cases c3 : T (pa + 3) = 111
    case neg =>
      refine zpcF (M := (zh197, zc197)) 197 5 rfl zckm197 (fun _ _ _ _ h => h) ?_
      refine zdecF (show ¬ I 2 70 = Int32.ofInt 32 from den (by rw [hw 70 98 rfl, oI (by decide) (by decide)] <;> omega)) (fun _ => ?_)
      refine zdecF (show ¬ I 2 71 = Int32.ofInt 32 from den (by rw [hw 71 101 rfl, oI (by decide) (by decide)] <;> omega)) (fun _ => ?_)
      refine zdecF (show ¬ I 2 72 = Int32.ofInt 32 from den (by rw [hw 72 108 rfl, oI (by decide) (by decide)] <;> omega)) (fun _ => ?_)
      refine zdecF (show ¬ I 2 73 = Int32.ofInt 32 from den (by rw [hw 73 111 rfl, oI (by decide) (by decide)] <;> omega)) (fun _ => ?_)
      refine zdecF (show ¬ I 2 74 = Int32.ofInt 32 from den (by rw [hw 74 119 rfl, oI (by decide) (by decide)] <;> omega)) (fun _ => ?_)
      refine zdecT (show I 2 75 = Int32.ofInt 32 from deq (by rw [hw 75 32 rfl, oI (by decide) (by decide)] <;> omega)) (fun _ => ?_)
      refine zdecT (show Int32.ofInt 5 = (Int32.ofNat (pa + m)) - (Int32.ofNat pa) from deq (by rw [oI (by decide) (by decide), hba] <;> omega)) (fun _ => ?_)
      refine zdecF b0 (fun _ => ?_)
      refine zdecT (show I 2 70 = I 1 (Int32.ofNat pa + Int32.ofInt 0).toNatClampNeg from deq (by rw [hw 70 98 rfl, t0] <;> omega)) (fun _ => ?_)
      refine zdecF b1 (fun _ => ?_)
      refine zdecT (show I 2 71 = I 1 (Int32.ofNat pa + Int32.ofInt 1).toNatClampNeg from deq (by rw [hw 71 101 rfl, t1] <;> omega)) (fun _ => ?_)
      refine zdecF b2 (fun _ => ?_)
      refine zdecT (show I 2 72 = I 1 (Int32.ofNat pa + Int32.ofInt 2).toNatClampNeg from deq (by rw [hw 72 108 rfl, t2] <;> omega)) (fun _ => ?_)
      refine zdecF b3 (fun _ => ?_)
      refine zdecF (show ¬ I 2 73 = I 1 (Int32.ofNat pa + Int32.ofInt 3).toNatClampNeg from den (by rw [hw 73 111 rfl, t3] <;> omega)) (fun _ => ?_)
      refine zX_sub (fun x hx => ?_) (hN (by omega))
      simp only [List.mem_cons, List.not_mem_nil, or_false] at hx
      rcases hx with rfl | rfl | rfl | rfl | rfl
      all_goals first | exact List.Mem.head _ | exact List.Mem.tail _ (List.Mem.head _) | exact List.Mem.tail _ (List.Mem.tail _ (List.Mem.head _)) | exact List.Mem.tail _ (List.Mem.tail _ (List.Mem.tail _ (List.Mem.head _))) | exact List.Mem.tail _ (List.Mem.tail _ (List.Mem.tail _ (List.Mem.tail _ (List.Mem.head _)))) | exact List.Mem.tail _ (List.Mem.tail _ (List.Mem.tail _ (List.Mem.tail _ (List.Mem.tail _ (List.Mem.head _))))) | exact List.Mem.tail _ (List.Mem.tail _ (List.Mem.tail _ (List.Mem.tail _ (List.Mem.tail _ (List.Mem.tail _ (List.Mem.head _)))))) | exact List.Mem.tail _ (List.Mem.tail _ (List.Mem.tail _ (List.Mem.tail _ (List.Mem.tail _ (List.Mem.tail _ (List.Mem.tail _ (List.Mem.head _)))))))
    by_cases c4 : T (pa + 4) = 119
    case neg =>
      refine zpcF (M := (zh197, zc197)) 197 5 rfl zckm197 (fun _ _ _ _ h => h) ?_
      refine zdecF (show ¬ I 2 70 = Int32.ofInt 32 from den (by rw [hw 70 98 rfl, oI (by decide) (by decide)] <;> omega)) (fun _ => ?_)
      refine zdecF (show ¬ I 2 71 = Int32.ofInt 32 from den (by rw [hw 71 101 rfl, oI (by decide) (by decide)] <;> omega)) (fun _ => ?_)
      refine zdecF (show ¬ I 2 72 = Int32.ofInt 32 from den (by rw [hw 72 108 rfl, oI (by decide) (by decide)] <;> omega)) (fun _ => ?_)
      refine zdecF (show ¬ I 2 73 = Int32.ofInt 32 from den (by rw [hw 73 111 rfl, oI (by decide) (by decide)] <;> omega)) (fun _ => ?_)
      refine zdecF (show ¬ I 2 74 = Int32.ofInt 32 from den (by rw [hw 74 119 rfl, oI (by decide) (by decide)] <;> omega)) (fun _ => ?_)
      refine zdecT (show I 2 75 = Int32.ofInt 32 from deq (by rw [hw 75 32 rfl, oI (by decide) (by decide)] <;> omega)) (fun _ => ?_)
      refine zdecT (show Int32.ofInt 5 = (Int32.ofNat (pa + m)) - (Int32.ofNat pa) from deq (by rw [oI (by decide) (by decide), hba] <;> omega)) (fun _ => ?_)
      refine zdecF b0 (fun _ => ?_)
      refine zdecT (show I 2 70 = I 1 (Int32.ofNat pa + Int32.ofInt 0).toNatClampNeg from deq (by rw [hw 70 98 rfl, t0] <;> omega)) (fun _ => ?_)
      refine zdecF b1 (fun _ => ?_)
      refine zdecT (show I 2 71 = I 1 (Int32.ofNat pa + Int32.ofInt 1).toNatClampNeg from deq (by rw [hw 71 101 rfl, t1] <;> omega)) (fun _ => ?_)
      refine zdecF b2 (fun _ => ?_)
      refine zdecT (show I 2 72 = I 1 (Int32.ofNat pa + Int32.ofInt 2).toNatClampNeg from deq (by rw [hw 72 108 rfl, t2] <;> omega)) (fun _ => ?_)
      refine zdecF b3 (fun _ => ?_)
      refine zdecT (show I 2 73 = I 1 (Int32.ofNat pa + Int32.ofInt 3).toNatClampNeg from deq (by rw [hw 73 111 rfl, t3] <;> omega)) (fun _ => ?_)
      refine zdecF b4 (fun _ => ?_)
      refine zdecF (show ¬ I 2 74 = I 1 (Int32.ofNat pa + Int32.ofInt 4).toNatClampNeg from den (by rw [hw 74 119 rfl, t4] <;> omega)) (fun _ => ?_)
      refine zX_sub (fun x hx => ?_) (hN (by omega))
      simp only [List.mem_cons, List.not_mem_nil, or_false] at hx
      rcases hx with rfl | rfl | rfl | rfl | rfl
      all_goals first | exact List.Mem.head _ | exact List.Mem.tail _ (List.Mem.head _) | exact List.Mem.tail _ (List.Mem.tail _ (List.Mem.head _)) | exact List.Mem.tail _ (List.Mem.tail _ (List.Mem.tail _ (List.Mem.head _))) | exact List.Mem.tail _ (List.Mem.tail _ (List.Mem.tail _ (List.Mem.tail _ (List.Mem.head _)))) | exact List.Mem.tail _ (List.Mem.tail _ (List.Mem.tail _ (List.Mem.tail _ (List.Mem.tail _ (List.Mem.head _))))) | exact List.Mem.tail _ (List.Mem.tail _ (List.Mem.tail _ (List.Mem.tail _ (List.Mem.tail _ (List.Mem.tail _ (List.Mem.head _)))))) | exact List.Mem.tail _ (List.Mem.tail _ (List.Mem.tail _ (List.Mem.tail _ (List.Mem.tail _ (List.Mem.tail _ (List.Mem.tail _ (List.Mem.head _)))))))
    refine zpcF (M := (zh197, zc197)) 197 5 rfl zckm197 (fun _ _ _ _ h => h) ?_
    refine zdecF (show ¬ I 2 70 = Int32.ofInt 32 from den (by rw [hw 70 98 rfl, oI (by decide) (by decide)] <;> omega)) (fun _ => ?_)
    refine zdecF (show ¬ I 2 71 = Int32.ofInt 32 from den (by rw [hw 71 101 rfl, oI (by decide) (by decide)] <;> omega)) (fun _ => ?_)
    refine zdecF (show ¬ I 2 72 = Int32.ofInt 32 from den (by rw [hw 72 108 rfl, oI (by decide) (by decide)] <;> omega)) (fun _ => ?_)
    refine zdecF (show ¬ I 2 73 = Int32.ofInt 32 from den (by rw [hw 73 111 rfl, oI (by decide) (by decide)] <;> omega)) (fun _ => ?_)
    refine zdecF (show ¬ I 2 74 = Int32.ofInt 32 from den (by rw [hw 74 119 rfl, oI (by decide) (by decide)] <;> omega)) (fun _ => ?_)
    refine zdecT (show I 2 75 = Int32.ofInt 32 from deq (by rw [hw 75 32 rfl, oI (by decide) (by decide)] <;> omega)) (fun _ => ?_)
    refine zdecT (show Int32.ofInt 5 = (Int32.ofNat (pa + m)) - (Int32.ofNat pa) from deq (by rw [oI (by decide) (by decide), hba] <;> omega)) (fun _ => ?_)
    refine zdecF b0 (fun _ => ?_)
    refine zdecT (show I 2 70 = I 1 (Int32.ofNat pa + Int32.ofInt 0).toNatClampNeg from deq (by rw [hw 70 98 rfl, t0] <;> omega)) (fun _ => ?_)
    refine zdecF b1 (fun _ => ?_)
    refine zdecT (show I 2 71 = I 1 (Int32.ofNat pa + Int32.ofInt 1).toNatClampNeg from deq (by rw [hw 71 101 rfl, t1] <;> omega)) (fun _ => ?_)
    refine zdecF b2 (fun _ => ?_)
    refine zdecT (show I 2 72 = I 1 (Int32.ofNat pa + Int32.ofInt 2).toNatClampNeg from deq (by rw [hw 72 108 rfl, t2] <;> omega)) (fun _ => ?_)
    refine zdecF b3 (fun _ => ?_)
    refine zdecT (show I 2 73 = I 1 (Int32.ofNat pa + Int32.ofInt 3).toNatClampNeg from deq (by rw [hw 73 111 rfl, t3] <;> omega)) (fun _ => ?_)
    refine zdecF b4 (fun _ => ?_)
    refine zdecT (show I 2 74 = I 1 (Int32.ofNat pa + Int32.ofInt 4).toNatClampNeg from deq (by rw [hw 74 119 rfl, t4] <;> omega)) (fun _ => ?_)
    exact hY ⟨hm, c0, c1, c2, c3, c4⟩
  · refine zpcF (M := (zh197, zc197)) 197 5 rfl zckm197 (fun _ _ _ _ h => h) ?_
    refine zdecF (show ¬ I 2 70 = Int32.ofInt 32 from den (by rw [hw 70 98 rfl, oI (by decide) (by decide)] <;> omega)) (fun _ => ?_)
    refine zdecF (show ¬ I 2 71 = Int32.ofInt 32 from den (by rw [hw 71 101 rfl, oI (by decide) (by decide)] <;> omega)) (fun _ => ?_)
    refine zdecF (show ¬ I 2 72 = Int32.ofInt 32 from den (by rw [hw 72 108 rfl, oI (by decide) (by decide)] <;> omega)) (fun _ => ?_)
    refine zdecF (show ¬ I 2 73 = Int32.ofInt 32 from den (by rw [hw 73 111 rfl, oI (by decide) (by decide)] <;> omega)) (fun _ => ?_)
    refine zdecF (show ¬ I 2 74 = Int32.ofInt 32 from den (by rw [hw 74 119 rfl, oI (by decide) (by decide)] <;> omega)) (fun _ => ?_)
    refine zdecT (show I 2 75 = Int32.ofInt 32 from deq (by rw [hw 75 32 rfl, oI (by decide) (by decide)] <;> omega)) (fun _ => ?_)
    refine zdecF (show ¬ Int32.ofInt 5 = (Int32.ofNat (pa + m)) - (Int32.ofNat pa) from den (by rw [oI (by decide) (by decide), hba] <;> omega)) (fun _ => ?_)
    refine zX_sub (fun x hx => ?_) (hN (by omega))
    simp only [List.mem_cons, List.not_mem_nil, or_false] at hx
    rcases hx with rfl | rfl | rfl | rfl | rfl
    all_goals first | exact List.Mem.head _ | exact List.Mem.tail _ (List.Mem.head _) | exact List.Mem.tail _ (List.Mem.tail _ (List.Mem.head _)) | exact List.Mem.tail _ (List.Mem.tail _ (List.Mem.tail _ (List.Mem.head _))) | exact List.Mem.tail _ (List.Mem.tail _ (List.Mem.tail _ (List.Mem.tail _ (List.Mem.head _)))) | exact List.Mem.tail _ (List.Mem.tail _ (List.Mem.tail _ (List.Mem.tail _ (List.Mem.tail _ (List.Mem.head _))))) | exact List.Mem.tail _ (List.Mem.tail _ (List.Mem.tail _ (List.Mem.tail _ (List.Mem.tail _ (List.Mem.tail _ (List.Mem.head _)))))) | exact List.Mem.tail _ (List.Mem.tail _ (List.Mem.tail _ (List.Mem.tail _ (List.Mem.tail _ (List.Mem.tail _ (List.Mem.tail _ (List.Mem.head _)))))))
set_option maxRecDepth 100000 in
set_option maxHeartbeats 4000000 in
theorem zw16 {l : Launch} {Γ : zG} {d : Nat} {Kp : Option Value → zH → Prop} {I : zHI} {Lg : zHL} {P : zHP} {T : Nat → Int} {pa m : Nat} (hH : wH I P T pa m) (hY : mtW T pa m 16 → Kp (some (.int (Int32.ofInt 16))) (zshM, I, Lg, P))
    (hN : ¬ mtW T pa m 16 → zX l Γ false (d + 1) zh197 (zMQ' Γ false zh197 Kp) 0 0 5 [(4, .int (Int32.ofInt 81)), (3, .int (Int32.ofInt 17)), (0, .ref 0), (1, .int (Int32.ofNat pa)), (2, .int (Int32.ofNat (pa + m)))] [] (zshM, I, Lg, P)) : zX l Γ false (d + 1) zh197 (zMQ' Γ false zh197 Kp) 0 0 5 [(4, .int (Int32.ofInt 76)), (3, .int (Int32.ofInt 16)), (0, .ref 0), (1, .int (Int32.ofNat pa)), (2, .int (Int32.ofNat (pa + m)))] [] (zshM, I, Lg, P) := by
  obtain ⟨hP0, hP3, hw, hm1, hpm, hT⟩ := hH
  have hba : (Int32.ofNat (pa + m) - Int32.ofNat pa).toInt = (m : Int) := by
    rw [Int32.toInt_sub, oN (by omega), oN (by omega), s32r _ (by show (-2147483648 : Int) ≤ _; omega) (by show _ ≤ (2147483647 : Int); omega)]
    omega
  have eP := wPx hP0 hP3
  rw [eP] at hY hN ⊢
  have hN : ¬ (m = 4 ∧ T pa = 110 ∧ T (pa + 1) = 101 ∧ T (pa + 2) = 99 ∧ T (pa + 3) = 107) → _ := hN
  have hY : (m = 4 ∧ T pa = 110 ∧ T (pa + 1) = 101 ∧ T (pa + 2) = 99 ∧ T (pa + 3) = 107) → _ := hY
  by_cases hm : m = 4
  · have q0 : (I 1 (Int32.ofNat pa + Int32.ofInt 0).toNatClampNeg).toInt = T pa ∧ ¬ (Int32.ofNat pa + Int32.ofInt 0 < 0 ∨ 700 ≤ (Int32.ofNat pa + Int32.ofInt 0).toNatClampNeg) := wIdx 0 (by omega) hT
    have t0 := q0.1
    have b0 := q0.2
    have q1 : (I 1 (Int32.ofNat pa + Int32.ofInt 1).toNatClampNeg).toInt = T (pa + 1) ∧ ¬ (Int32.ofNat pa + Int32.ofInt 1 < 0 ∨ 700 ≤ (Int32.ofNat pa + Int32.ofInt 1).toNatClampNeg) := wIdx 1 (by omega) hT
    have t1 := q1.1
    have b1 := q1.2
    have q2 : (I 1 (Int32.ofNat pa + Int32.ofInt 2).toNatClampNeg).toInt = T (pa + 2) ∧ ¬ (Int32.ofNat pa + Int32.ofInt 2 < 0 ∨ 700 ≤ (Int32.ofNat pa + Int32.ofInt 2).toNatClampNeg) := wIdx 2 (by omega) hT
    have t2 := q2.1
    have b2 := q2.2
    have q3 : (I 1 (Int32.ofNat pa + Int32.ofInt 3).toNatClampNeg).toInt = T (pa + 3) ∧ ¬ (Int32.ofNat pa + Int32.ofInt 3 < 0 ∨ 700 ≤ (Int32.ofNat pa + Int32.ofInt 3).toNatClampNeg) := wIdx 3 (by omega) hT
    have t3 := q3.1
    have b3 := q3.2
    by_cases c0 : T pa = 110
    case neg =>
      refine zpcF (M := (zh197, zc197)) 197 5 rfl zckm197 (fun _ _ _ _ h => h) ?_
      refine zdecF (show ¬ I 2 76 = Int32.ofInt 32 from den (by rw [hw 76 110 rfl, oI (by decide) (by decide)] <;> omega)) (fun _ => ?_)
      refine zdecF (show ¬ I 2 77 = Int32.ofInt 32 from den (by rw [hw 77 101 rfl, oI (by decide) (by decide)] <;> omega)) (fun _ => ?_)
      refine zdecF (show ¬ I 2 78 = Int32.ofInt 32 from den (by rw [hw 78 99 rfl, oI (by decide) (by decide)] <;> omega)) (fun _ => ?_)
      refine zdecF (show ¬ I 2 79 = Int32.ofInt 32 from den (by rw [hw 79 107 rfl, oI (by decide) (by decide)] <;> omega)) (fun _ => ?_)
      refine zdecT (show I 2 80 = Int32.ofInt 32 from deq (by rw [hw 80 32 rfl, oI (by decide) (by decide)] <;> omega)) (fun _ => ?_)
      refine zdecT (show Int32.ofInt 4 = (Int32.ofNat (pa + m)) - (Int32.ofNat pa) from deq (by rw [oI (by decide) (by decide), hba] <;> omega)) (fun _ => ?_)
      refine zdecF b0 (fun _ => ?_)
      refine zdecF (show ¬ I 2 76 = I 1 (Int32.ofNat pa + Int32.ofInt 0).toNatClampNeg from den (by rw [hw 76 110 rfl, t0] <;> omega)) (fun _ => ?_)
      refine zX_sub (fun x hx => ?_) (hN (by omega))
      simp only [List.mem_cons, List.not_mem_nil, or_false] at hx
      rcases hx with rfl | rfl | rfl | rfl | rfl
      all_goals first | exact List.Mem.head _ | exact List.Mem.tail _ (List.Mem.head _) | exact List.Mem.tail _ (List.Mem.tail _ (List.Mem.head _)) | exact List.Mem.tail _ (List.Mem.tail _ (List.Mem.tail _ (List.Mem.head _))) | exact List.Mem.tail _ (List.Mem.tail _ (List.Mem.tail _ (List.Mem.tail _ (List.Mem.head _)))) | exact List.Mem.tail _ (List.Mem.tail _ (List.Mem.tail _ (List.Mem.tail _ (List.Mem.tail _ (List.Mem.head _))))) | exact List.Mem.tail _ (List.Mem.tail _ (List.Mem.tail _ (List.Mem.tail _ (List.Mem.tail _ (List.Mem.tail _ (List.Mem.head _)))))) | exact List.Mem.tail _ (List.Mem.tail _ (List.Mem.tail _ (List.Mem.tail _ (List.Mem.tail _ (List.Mem.tail _ (List.Mem.tail _ (List.Mem.head _)))))))
    by_cases c1 : T (pa + 1) = 101
    case neg =>
      refine zpcF (M := (zh197, zc197)) 197 5 rfl zckm197 (fun _ _ _ _ h => h) ?_
      refine zdecF (show ¬ I 2 76 = Int32.ofInt 32 from den (by rw [hw 76 110 rfl, oI (by decide) (by decide)] <;> omega)) (fun _ => ?_)
      refine zdecF (show ¬ I 2 77 = Int32.ofInt 32 from den (by rw [hw 77 101 rfl, oI (by decide) (by decide)] <;> omega)) (fun _ => ?_)
      refine zdecF (show ¬ I 2 78 = Int32.ofInt 32 from den (by rw [hw 78 99 rfl, oI (by decide) (by decide)] <;> omega)) (fun _ => ?_)
      refine zdecF (show ¬ I 2 79 = Int32.ofInt 32 from den (by rw [hw 79 107 rfl, oI (by decide) (by decide)] <;> omega)) (fun _ => ?_)
      refine zdecT (show I 2 80 = Int32.ofInt 32 from deq (by rw [hw 80 32 rfl, oI (by decide) (by decide)] <;> omega)) (fun _ => ?_)
      refine zdecT (show Int32.ofInt 4 = (Int32.ofNat (pa + m)) - (Int32.ofNat pa) from deq (by rw [oI (by decide) (by decide), hba] <;> omega)) (fun _ => ?_)
      refine zdecF b0 (fun _ => ?_)
      refine zdecT (show I 2 76 = I 1 (Int32.ofNat pa + Int32.ofInt 0).toNatClampNeg from deq (by rw [hw 76 110 rfl, t0] <;> omega)) (fun _ => ?_)
      refine zdecF b1 (fun _ => ?_)
      refine zdecF (show ¬ I 2 77 = I 1 (Int32.ofNat pa + Int32.ofInt 1).toNatClampNeg from den (by rw [hw 77 101 rfl, t1] <;> omega)) (fun _ => ?_)
      refine zX_sub (fun x hx => ?_) (hN (by omega))
      simp only [List.mem_cons, List.not_mem_nil, or_false] at hx
      rcases hx with rfl | rfl | rfl | rfl | rfl
      all_goals first | exact List.Mem.head _ | exact List.Mem.tail _ (List.Mem.head _) | exact List.Mem.tail _ (List.Mem.tail _ (List.Mem.head _)) | exact List.Mem.tail _ (List.Mem.tail _ (List.Mem.tail _ (List.Mem.head _))) | exact List.Mem.tail _ (List.Mem.tail _ (List.Mem.tail _ (List.Mem.tail _ (List.Mem.head _)))) | exact List.Mem.tail _ (List.Mem.tail _ (List.Mem.tail _ (List.Mem.tail _ (List.Mem.tail _ (List.Mem.head _))))) | exact List.Mem.tail _ (List.Mem.tail _ (List.Mem.tail _ (List.Mem.tail _ (List.Mem.tail _ (List.Mem.tail _ (List.Mem.head _)))))) | exact List.Mem.tail _ (List.Mem.tail _ (List.Mem.tail _ (List.Mem.tail _ (List.Mem.tail _ (List.Mem.tail _ (List.Mem.tail _ (List.Mem.head _)))))))
    by_cases c2 : T (pa + 2) = 99
    case neg =>
      refine zpcF (M := (zh197, zc197)) 197 5 rfl zckm197 (fun _ _ _ _ h => h) ?_
      refine zdecF (show ¬ I 2 76 = Int32.ofInt 32 from den (by rw [hw 76 110 rfl, oI (by decide) (by decide)] <;> omega)) (fun _ => ?_)
      refine zdecF (show ¬ I 2 77 = Int32.ofInt 32 from den (by rw [hw 77 101 rfl, oI (by decide) (by decide)] <;> omega)) (fun _ => ?_)
      refine zdecF (show ¬ I 2 78 = Int32.ofInt 32 from den (by rw [hw 78 99 rfl, oI (by decide) (by decide)] <;> omega)) (fun _ => ?_)
      refine zdecF (show ¬ I 2 79 = Int32.ofInt 32 from den (by rw [hw 79 107 rfl, oI (by decide) (by decide)] <;> omega)) (fun _ => ?_)
      refine zdecT (show I 2 80 = Int32.ofInt 32 from deq (by rw [hw 80 32 rfl, oI (by decide) (by decide)] <;> omega)) (fun _ => ?_)
      refine zdecT (show Int32.ofInt 4 = (Int32.ofNat (pa + m)) - (Int32.ofNat pa) from deq (by rw [oI (by decide) (by decide), hba] <;> omega)) (fun _ => ?_)
      refine zdecF b0 (fun _ => ?_)
      refine zdecT (show I 2 76 = I 1 (Int32.ofNat pa + Int32.ofInt 0).toNatClampNeg from deq (by rw [hw 76 110 rfl, t0] <;> omega)) (fun _ => ?_)
      refine zdecF b1 (fun _ => ?_)
      refine zdecT (show I 2 77 = I 1 (Int32.ofNat pa + Int32.ofInt 1).toNatClampNeg from deq (by rw [hw 77 101 rfl, t1] <;> omega)) (fun _ => ?_)
      refine zdecF b2 (fun _ => ?_)
      refine zdecF (show ¬ I 2 78 = I 1 (Int32.ofNat pa + Int32.ofInt 2).toNatClampNeg from den (by rw [hw 78 99 rfl, t2] <;> omega)) (fun _ => ?_)
      refine zX_sub (fun x hx => ?_) (hN (by omega))
      simp only [List.mem_cons, List.not_mem_nil, or_false] at hx
      rcases hx with rfl | rfl | rfl | rfl | rfl
      all_goals first | exact List.Mem.head _ | exact List.Mem.tail _ (List.Mem.head _) | exact List.Mem.tail _ (List.Mem.tail _ (List.Mem.head _)) | exact List.Mem.tail _ (List.Mem.tail _ (List.Mem.tail _ (List.Mem.head _))) | exact List.Mem.tail _ (List.Mem.tail _ (List.Mem.tail _ (List.Mem.tail _ (List.Mem.head _)))) | exact List.Mem.tail _ (List.Mem.tail _ (List.Mem.tail _ (List.Mem.tail _ (List.Mem.tail _ (List.Mem.head _))))) | exact List.Mem.tail _ (List.Mem.tail _ (List.Mem.tail _ (List.Mem.tail _ (List.Mem.tail _ (List.Mem.tail _ (List.Mem.head _)))))) | exact List.Mem.tail _ (List.Mem.tail _ (List.Mem.tail _ (List.Mem.tail _ (List.Mem.tail _ (List.Mem.tail _ (List.Mem.tail _ (List.Mem.head _)))))))
    by_cases c3 : T (pa + 3) = 107
    case neg =>
      refine zpcF (M := (zh197, zc197)) 197 5 rfl zckm197 (fun _ _ _ _ h => h) ?_
      refine zdecF (show ¬ I 2 76 = Int32.ofInt 32 from den (by rw [hw 76 110 rfl, oI (by decide) (by decide)] <;> omega)) (fun _ => ?_)
      refine zdecF (show ¬ I 2 77 = Int32.ofInt 32 from den (by rw [hw 77 101 rfl, oI (by decide) (by decide)] <;> omega)) (fun _ => ?_)
      refine zdecF (show ¬ I 2 78 = Int32.ofInt 32 from den (by rw [hw 78 99 rfl, oI (by decide) (by decide)] <;> omega)) (fun _ => ?_)
      refine zdecF (show ¬ I 2 79 = Int32.ofInt 32 from den (by rw [hw 79 107 rfl, oI (by decide) (by decide)] <;> omega)) (fun _ => ?_)
      refine zdecT (show I 2 80 = Int32.ofInt 32 from deq (by rw [hw 80 32 rfl, oI (by decide) (by decide)] <;> omega)) (fun _ => ?_)
      refine zdecT (show Int32.ofInt 4 = (Int32.ofNat (pa + m)) - (Int32.ofNat pa) from deq (by rw [oI (by decide) (by decide), hba] <;> omega)) (fun _ => ?_)
      refine zdecF b0 (fun _ => ?_)
      refine zdecT (show I 2 76 = I 1 (Int32.ofNat pa + Int32.ofInt 0).toNatClampNeg from deq (by rw [hw 76 110 rfl, t0] <;> omega)) (fun _ => ?_)
      refine zdecF b1 (fun _ => ?_)
      refine zdecT (show I 2 77 = I 1 (Int32.ofNat pa + Int32.ofInt 1).toNatClampNeg from deq (by rw [hw 77 101 rfl, t1] <;> omega)) (fun _ => ?_)
      refine zdecF b2 (fun _ => ?_)
      refine zdecT (show I 2 78 = I 1 (Int32.ofNat pa + Int32.ofInt 2).toNatClampNeg from deq (by rw [hw 78 99 rfl, t2] <;> omega)) (fun _ => ?_)
      refine zdecF b3 (fun _ => ?_)
      refine zdecF (show ¬ I 2 79 = I 1 (Int32.ofNat pa + Int32.ofInt 3).toNatClampNeg from den (by rw [hw 79 107 rfl, t3] <;> omega)) (fun _ => ?_)
      refine zX_sub (fun x hx => ?_) (hN (by omega))
      simp only [List.mem_cons, List.not_mem_nil, or_false] at hx
      rcases hx with rfl | rfl | rfl | rfl | rfl
      all_goals first | exact List.Mem.head _ | exact List.Mem.tail _ (List.Mem.head _) | exact List.Mem.tail _ (List.Mem.tail _ (List.Mem.head _)) | exact List.Mem.tail _ (List.Mem.tail _ (List.Mem.tail _ (List.Mem.head _))) | exact List.Mem.tail _ (List.Mem.tail _ (List.Mem.tail _ (List.Mem.tail _ (List.Mem.head _)))) | exact List.Mem.tail _ (List.Mem.tail _ (List.Mem.tail _ (List.Mem.tail _ (List.Mem.tail _ (List.Mem.head _))))) | exact List.Mem.tail _ (List.Mem.tail _ (List.Mem.tail _ (List.Mem.tail _ (List.Mem.tail _ (List.Mem.tail _ (List.Mem.head _)))))) | exact List.Mem.tail _ (List.Mem.tail _ (List.Mem.tail _ (List.Mem.tail _ (List.Mem.tail _ (List.Mem.tail _ (List.Mem.tail _ (List.Mem.head _)))))))
    refine zpcF (M := (zh197, zc197)) 197 5 rfl zckm197 (fun _ _ _ _ h => h) ?_
    refine zdecF (show ¬ I 2 76 = Int32.ofInt 32 from den (by rw [hw 76 110 rfl, oI (by decide) (by decide)] <;> omega)) (fun _ => ?_)
    refine zdecF (show ¬ I 2 77 = Int32.ofInt 32 from den (by rw [hw 77 101 rfl, oI (by decide) (by decide)] <;> omega)) (fun _ => ?_)
    refine zdecF (show ¬ I 2 78 = Int32.ofInt 32 from den (by rw [hw 78 99 rfl, oI (by decide) (by decide)] <;> omega)) (fun _ => ?_)
    refine zdecF (show ¬ I 2 79 = Int32.ofInt 32 from den (by rw [hw 79 107 rfl, oI (by decide) (by decide)] <;> omega)) (fun _ => ?_)
    refine zdecT (show I 2 80 = Int32.ofInt 32 from deq (by rw [hw 80 32 rfl, oI (by decide) (by decide)] <;> omega)) (fun _ => ?_)
    refine zdecT (show Int32.ofInt 4 = (Int32.ofNat (pa + m)) - (Int32.ofNat pa) from deq (by rw [oI (by decide) (by decide), hba] <;> omega)) (fun _ => ?_)
    refine zdecF b0 (fun _ => ?_)
    refine zdecT (show I 2 76 = I 1 (Int32.ofNat pa + Int32.ofInt 0).toNatClampNeg from deq (by rw [hw 76 110 rfl, t0] <;> omega)) (fun _ => ?_)
    refine zdecF b1 (fun _ => ?_)
    refine zdecT (show I 2 77 = I 1 (Int32.ofNat pa + Int32.ofInt 1).toNatClampNeg from deq (by rw [hw 77 101 rfl, t1] <;> omega)) (fun _ => ?_)
    refine zdecF b2 (fun _ => ?_)
    refine zdecT (show I 2 78 = I 1 (Int32.ofNat pa + Int32.ofInt 2).toNatClampNeg from deq (by rw [hw 78 99 rfl, t2] <;> omega)) (fun _ => ?_)
    refine zdecF b3 (fun _ => ?_)
    refine zdecT (show I 2 79 = I 1 (Int32.ofNat pa + Int32.ofInt 3).toNatClampNeg from deq (by rw [hw 79 107 rfl, t3] <;> omega)) (fun _ => ?_)
    exact hY ⟨hm, c0, c1, c2, c3⟩
  · refine zpcF (M := (zh197, zc197)) 197 5 rfl zckm197 (fun _ _ _ _ h => h) ?_
    refine zdecF (show ¬ I 2 76 = Int32.ofInt 32 from den (by rw [hw 76 110 rfl, oI (by decide) (by decide)] <;> omega)) (fun _ => ?_)
    refine zdecF (show ¬ I 2 77 = Int32.ofInt 32 from den (by rw [hw 77 101 rfl, oI (by decide) (by decide)] <;> omega)) (fun _ => ?_)
    refine zdecF (show ¬ I 2 78 = Int32.ofInt 32 from den (by rw [hw 78 99 rfl, oI (by decide) (by decide)] <;> omega)) (fun _ => ?_)
    refine zdecF (show ¬ I 2 79 = Int32.ofInt 32 from den (by rw [hw 79 107 rfl, oI (by decide) (by decide)] <;> omega)) (fun _ => ?_)
    refine zdecT (show I 2 80 = Int32.ofInt 32 from deq (by rw [hw 80 32 rfl, oI (by decide) (by decide)] <;> omega)) (fun _ => ?_)
    refine zdecF (show ¬ Int32.ofInt 4 = (Int32.ofNat (pa + m)) - (Int32.ofNat pa) from den (by rw [oI (by decide) (by decide), hba] <;> omega)) (fun _ => ?_)
    refine zX_sub (fun x hx => ?_) (hN (by omega))
    simp only [List.mem_cons, List.not_mem_nil, or_false] at hx
    rcases hx with rfl | rfl | rfl | rfl | rfl
    all_goals first | exact List.Mem.head _ | exact List.Mem.tail _ (List.Mem.head _) | exact List.Mem.tail _ (List.Mem.tail _ (List.Mem.head _)) | exact List.Mem.tail _ (List.Mem.tail _ (List.Mem.tail _ (List.Mem.head _))) | exact List.Mem.tail _ (List.Mem.tail _ (List.Mem.tail _ (List.Mem.tail _ (List.Mem.head _)))) | exact List.Mem.tail _ (List.Mem.tail _ (List.Mem.tail _ (List.Mem.tail _ (List.Mem.tail _ (List.Mem.head _))))) | exact List.Mem.tail _ (List.Mem.tail _ (List.Mem.tail _ (List.Mem.tail _ (List.Mem.tail _ (List.Mem.tail _ (List.Mem.head _)))))) | exact List.Mem.tail _ (List.Mem.tail _ (List.Mem.tail _ (List.Mem.tail _ (List.Mem.tail _ (List.Mem.tail _ (List.Mem.tail _ (List.Mem.head _)))))))
set_option maxRecDepth 100000 in
set_option maxHeartbeats 4000000 in
theorem zw17 {l : Launch} {Γ : zG} {d : Nat} {Kp : Option Value → zH → Prop} {I : zHI} {Lg : zHL} {P : zHP} {T : Nat → Int} {pa m : Nat} (hH : wH I P T pa m) (hY : mtW T pa m 17 → Kp (some (.int (Int32.ofInt 17))) (zshM, I, Lg, P))
    (hN : ¬ mtW T pa m 17 → zX l Γ false (d + 1) zh197 (zMQ' Γ false zh197 Kp) 0 0 5 [(4, .int (Int32.ofInt 88)), (3, .int (Int32.ofInt 18)), (0, .ref 0), (1, .int (Int32.ofNat pa)), (2, .int (Int32.ofNat (pa + m)))] [] (zshM, I, Lg, P)) : zX l Γ false (d + 1) zh197 (zMQ' Γ false zh197 Kp) 0 0 5 [(4, .int (Int32.ofInt 81)), (3, .int (Int32.ofInt 17)), (0, .ref 0), (1, .int (Int32.ofNat pa)), (2, .int (Int32.ofNat (pa + m)))] [] (zshM, I, Lg, P) := by
  obtain ⟨hP0, hP3, hw, hm1, hpm, hT⟩ := hH
  have hba : (Int32.ofNat (pa + m) - Int32.ofNat pa).toInt = (m : Int) := by
    rw [Int32.toInt_sub, oN (by omega), oN (by omega), s32r _ (by show (-2147483648 : Int) ≤ _; omega) (by show _ ≤ (2147483647 : Int); omega)]
    omega
  have eP := wPx hP0 hP3
  rw [eP] at hY hN ⊢
  have hN : ¬ (m = 6 ∧ T pa = 99 ∧ T (pa + 1) = 111 ∧ T (pa + 2) = 97 ∧ T (pa + 3) = 114 ∧ T (pa + 4) = 115 ∧ T (pa + 5) = 101) → _ := hN
  have hY : (m = 6 ∧ T pa = 99 ∧ T (pa + 1) = 111 ∧ T (pa + 2) = 97 ∧ T (pa + 3) = 114 ∧ T (pa + 4) = 115 ∧ T (pa + 5) = 101) → _ := hY
  by_cases hm : m = 6
  · have q0 : (I 1 (Int32.ofNat pa + Int32.ofInt 0).toNatClampNeg).toInt = T pa ∧ ¬ (Int32.ofNat pa + Int32.ofInt 0 < 0 ∨ 700 ≤ (Int32.ofNat pa + Int32.ofInt 0).toNatClampNeg) := wIdx 0 (by omega) hT
    have t0 := q0.1
    have b0 := q0.2
    have q1 : (I 1 (Int32.ofNat pa + Int32.ofInt 1).toNatClampNeg).toInt = T (pa + 1) ∧ ¬ (Int32.ofNat pa + Int32.ofInt 1 < 0 ∨ 700 ≤ (Int32.ofNat pa + Int32.ofInt 1).toNatClampNeg) := wIdx 1 (by omega) hT
    have t1 := q1.1
    have b1 := q1.2
    have q2 : (I 1 (Int32.ofNat pa + Int32.ofInt 2).toNatClampNeg).toInt = T (pa + 2) ∧ ¬ (Int32.ofNat pa + Int32.ofInt 2 < 0 ∨ 700 ≤ (Int32.ofNat pa + Int32.ofInt 2).toNatClampNeg) := wIdx 2 (by omega) hT
    have t2 := q2.1
    have b2 := q2.2
    have q3 : (I 1 (Int32.ofNat pa + Int32.ofInt 3).toNatClampNeg).toInt = T (pa + 3) ∧ ¬ (Int32.ofNat pa + Int32.ofInt 3 < 0 ∨ 700 ≤ (Int32.ofNat pa + Int32.ofInt 3).toNatClampNeg) := wIdx 3 (by omega) hT
    have t3 := q3.1
    have b3 := q3.2
    have q4 : (I 1 (Int32.ofNat pa + Int32.ofInt 4).toNatClampNeg).toInt = T (pa + 4) ∧ ¬ (Int32.ofNat pa + Int32.ofInt 4 < 0 ∨ 700 ≤ (Int32.ofNat pa + Int32.ofInt 4).toNatClampNeg) := wIdx 4 (by omega) hT
    have t4 := q4.1
    have b4 := q4.2
    have q5 : (I 1 (Int32.ofNat pa + Int32.ofInt 5).toNatClampNeg).toInt = T (pa + 5) ∧ ¬ (Int32.ofNat pa + Int32.ofInt 5 < 0 ∨ 700 ≤ (Int32.ofNat pa + Int32.ofInt 5).toNatClampNeg) := wIdx 5 (by omega) hT
    have t5 := q5.1
    have b5 := q5.2
    by_cases c0 : T pa = 99
    case neg =>
      refine zpcF (M := (zh197, zc197)) 197 5 rfl zckm197 (fun _ _ _ _ h => h) ?_
      refine zdecF (show ¬ I 2 81 = Int32.ofInt 32 from den (by rw [hw 81 99 rfl, oI (by decide) (by decide)] <;> omega)) (fun _ => ?_)
      refine zdecF (show ¬ I 2 82 = Int32.ofInt 32 from den (by rw [hw 82 111 rfl, oI (by decide) (by decide)] <;> omega)) (fun _ => ?_)
      refine zdecF (show ¬ I 2 83 = Int32.ofInt 32 from den (by rw [hw 83 97 rfl, oI (by decide) (by decide)] <;> omega)) (fun _ => ?_)
      refine zdecF (show ¬ I 2 84 = Int32.ofInt 32 from den (by rw [hw 84 114 rfl, oI (by decide) (by decide)] <;> omega)) (fun _ => ?_)
      refine zdecF (show ¬ I 2 85 = Int32.ofInt 32 from den (by rw [hw 85 115 rfl, oI (by decide) (by decide)] <;> omega)) (fun _ => ?_)
      refine zdecF (show ¬ I 2 86 = Int32.ofInt 32 from den (by rw [hw 86 101 rfl, oI (by decide) (by decide)] <;> omega)) (fun _ => ?_)
      refine zdecT (show I 2 87 = Int32.ofInt 32 from deq (by rw [hw 87 32 rfl, oI (by decide) (by decide)] <;> omega)) (fun _ => ?_)
      refine zdecT (show Int32.ofInt 6 = (Int32.ofNat (pa + m)) - (Int32.ofNat pa) from deq (by rw [oI (by decide) (by decide), hba] <;> omega)) (fun _ => ?_)
      refine zdecF b0 (fun _ => ?_)
      refine zdecF (show ¬ I 2 81 = I 1 (Int32.ofNat pa + Int32.ofInt 0).toNatClampNeg from den (by rw [hw 81 99 rfl, t0] <;> omega)) (fun _ => ?_)
      refine zX_sub (fun x hx => ?_) (hN (by omega))
      simp only [List.mem_cons, List.not_mem_nil, or_false] at hx
      rcases hx with rfl | rfl | rfl | rfl | rfl
      all_goals first | exact List.Mem.head _ | exact List.Mem.tail _ (List.Mem.head _) | exact List.Mem.tail _ (List.Mem.tail _ (List.Mem.head _)) | exact List.Mem.tail _ (List.Mem.tail _ (List.Mem.tail _ (List.Mem.head _))) | exact List.Mem.tail _ (List.Mem.tail _ (List.Mem.tail _ (List.Mem.tail _ (List.Mem.head _)))) | exact List.Mem.tail _ (List.Mem.tail _ (List.Mem.tail _ (List.Mem.tail _ (List.Mem.tail _ (List.Mem.head _))))) | exact List.Mem.tail _ (List.Mem.tail _ (List.Mem.tail _ (List.Mem.tail _ (List.Mem.tail _ (List.Mem.tail _ (List.Mem.head _)))))) | exact List.Mem.tail _ (List.Mem.tail _ (List.Mem.tail _ (List.Mem.tail _ (List.Mem.tail _ (List.Mem.tail _ (List.Mem.tail _ (List.Mem.head _)))))))
    by_cases c1 : T (pa + 1) = 111
    case neg =>
      refine zpcF (M := (zh197, zc197)) 197 5 rfl zckm197 (fun _ _ _ _ h => h) ?_
      refine zdecF (show ¬ I 2 81 = Int32.ofInt 32 from den (by rw [hw 81 99 rfl, oI (by decide) (by decide)] <;> omega)) (fun _ => ?_)
      refine zdecF (show ¬ I 2 82 = Int32.ofInt 32 from den (by rw [hw 82 111 rfl, oI (by decide) (by decide)] <;> omega)) (fun _ => ?_)
      refine zdecF (show ¬ I 2 83 = Int32.ofInt 32 from den (by rw [hw 83 97 rfl, oI (by decide) (by decide)] <;> omega)) (fun _ => ?_)
      refine zdecF (show ¬ I 2 84 = Int32.ofInt 32 from den (by rw [hw 84 114 rfl, oI (by decide) (by decide)] <;> omega)) (fun _ => ?_)
      refine zdecF (show ¬ I 2 85 = Int32.ofInt 32 from den (by rw [hw 85 115 rfl, oI (by decide) (by decide)] <;> omega)) (fun _ => ?_)
      refine zdecF (show ¬ I 2 86 = Int32.ofInt 32 from den (by rw [hw 86 101 rfl, oI (by decide) (by decide)] <;> omega)) (fun _ => ?_)
      refine zdecT (show I 2 87 = Int32.ofInt 32 from deq (by rw [hw 87 32 rfl, oI (by decide) (by decide)] <;> omega)) (fun _ => ?_)
      refine zdecT (show Int32.ofInt 6 = (Int32.ofNat (pa + m)) - (Int32.ofNat pa) from deq (by rw [oI (by decide) (by decide), hba] <;> omega)) (fun _ => ?_)
      refine zdecF b0 (fun _ => ?_)
      refine zdecT (show I 2 81 = I 1 (Int32.ofNat pa + Int32.ofInt 0).toNatClampNeg from deq (by rw [hw 81 99 rfl, t0] <;> omega)) (fun _ => ?_)
      refine zdecF b1 (fun _ => ?_)
      refine zdecF (show ¬ I 2 82 = I 1 (Int32.ofNat pa + Int32.ofInt 1).toNatClampNeg from den (by rw [hw 82 111 rfl, t1] <;> omega)) (fun _ => ?_)
      refine zX_sub (fun x hx => ?_) (hN (by omega))
      simp only [List.mem_cons, List.not_mem_nil, or_false] at hx
      rcases hx with rfl | rfl | rfl | rfl | rfl
      all_goals first | exact List.Mem.head _ | exact List.Mem.tail _ (List.Mem.head _) | exact List.Mem.tail _ (List.Mem.tail _ (List.Mem.head _)) | exact List.Mem.tail _ (List.Mem.tail _ (List.Mem.tail _ (List.Mem.head _))) | exact List.Mem.tail _ (List.Mem.tail _ (List.Mem.tail _ (List.Mem.tail _ (List.Mem.head _)))) | exact List.Mem.tail _ (List.Mem.tail _ (List.Mem.tail _ (List.Mem.tail _ (List.Mem.tail _ (List.Mem.head _))))) | exact List.Mem.tail _ (List.Mem.tail _ (List.Mem.tail _ (List.Mem.tail _ (List.Mem.tail _ (List.Mem.tail _ (List.Mem.head _)))))) | exact List.Mem.tail _ (List.Mem.tail _ (List.Mem.tail _ (List.Mem.tail _ (List.Mem.tail _ (List.Mem.tail _ (List.Mem.tail _ (List.Mem.head _)))))))
    by_cases c2 : T (pa + 2) = 97
    case neg =>
      refine zpcF (M := (zh197, zc197)) 197 5 rfl zckm197 (fun _ _ _ _ h => h) ?_
      refine zdecF (show ¬ I 2 81 = Int32.ofInt 32 from den (by rw [hw 81 99 rfl, oI (by decide) (by decide)] <;> omega)) (fun _ => ?_)
      refine zdecF (show ¬ I 2 82 = Int32.ofInt 32 from den (by rw [hw 82 111 rfl, oI (by decide) (by decide)] <;> omega)) (fun _ => ?_)
      refine zdecF (show ¬ I 2 83 = Int32.ofInt 32 from den (by rw [hw 83 97 rfl, oI (by decide) (by decide)] <;> omega)) (fun _ => ?_)
      refine zdecF (show ¬ I 2 84 = Int32.ofInt 32 from den (by rw [hw 84 114 rfl, oI (by decide) (by decide)] <;> omega)) (fun _ => ?_)
      refine zdecF (show ¬ I 2 85 = Int32.ofInt 32 from den (by rw [hw 85 115 rfl, oI (by decide) (by decide)] <;> omega)) (fun _ => ?_)
      refine zdecF (show ¬ I 2 86 = Int32.ofInt 32 from den (by rw [hw 86 101 rfl, oI (by decide) (by decide)] <;> omega)) (fun _ => ?_)
      refine zdecT (show I 2 87 = Int32.ofInt 32 from deq (by rw [hw 87 32 rfl, oI (by decide) (by decide)] <;> omega)) (fun _ => ?_)
      refine zdecT (show Int32.ofInt 6 = (Int32.ofNat (pa + m)) - (Int32.ofNat pa) from deq (by rw [oI (by decide) (by decide), hba] <;> omega)) (fun _ => ?_)
      refine zdecF b0 (fun _ => ?_)
      refine zdecT (show I 2 81 = I 1 (Int32.ofNat pa + Int32.ofInt 0).toNatClampNeg from deq (by rw [hw 81 99 rfl, t0] <;> omega)) (fun _ => ?_)
      refine zdecF b1 (fun _ => ?_)
      refine zdecT (show I 2 82 = I 1 (Int32.ofNat pa + Int32.ofInt 1).toNatClampNeg from deq (by rw [hw 82 111 rfl, t1] <;> omega)) (fun _ => ?_)
      refine zdecF b2 (fun _ => ?_)
      refine zdecF (show ¬ I 2 83 = I 1 (Int32.ofNat pa + Int32.ofInt 2).toNatClampNeg from den (by rw [hw 83 97 rfl, t2] <;> omega)) (fun _ => ?_)
      refine zX_sub (fun x hx => ?_) (hN (by omega))
      simp only [List.mem_cons, List.not_mem_nil, or_false] at hx
      rcases hx with rfl | rfl | rfl | rfl | rfl
      all_goals first | exact List.Mem.head _ | exact List.Mem.tail _ (List.Mem.head _) | exact List.Mem.tail _ (List.Mem.tail _ (List.Mem.head _)) | exact List.Mem.tail _ (List.Mem.tail _ (List.Mem.tail _ (List.Mem.head _))) | exact List.Mem.tail _ (List.Mem.tail _ (List.Mem.tail _ (List.Mem.tail _ (List.Mem.head _)))) | exact List.Mem.tail _ (List.Mem.tail _ (List.Mem.tail _ (List.Mem.tail _ (List.Mem.tail _ (List.Mem.head _))))) | exact List.Mem.tail _ (List.Mem.tail _ (List.Mem.tail _ (List.Mem.tail _ (List.Mem.tail _ (List.Mem.tail _ (List.Mem.head _)))))) | exact List.Mem.tail _ (List.Mem.tail _ (List.Mem.tail _ (List.Mem.tail _ (List.Mem.tail _ (List.Mem.tail _ (List.Mem.tail _ (List.Mem.head _)))))))
    by_cases c3 : T (pa + 3) = 114
    case neg =>
      refine zpcF (M := (zh197, zc197)) 197 5 rfl zckm197 (fun _ _ _ _ h => h) ?_
      refine zdecF (show ¬ I 2 81 = Int32.ofInt 32 from den (by rw [hw 81 99 rfl, oI (by decide) (by decide)] <;> omega)) (fun _ => ?_)
      refine zdecF (show ¬ I 2 82 = Int32.ofInt 32 from den (by rw [hw 82 111 rfl, oI (by decide) (by decide)] <;> omega)) (fun _ => ?_)
      refine zdecF (show ¬ I 2 83 = Int32.ofInt 32 from den (by rw [hw 83 97 rfl, oI (by decide) (by decide)] <;> omega)) (fun _ => ?_)
      refine zdecF (show ¬ I 2 84 = Int32.ofInt 32 from den (by rw [hw 84 114 rfl, oI (by decide) (by decide)] <;> omega)) (fun _ => ?_)
      refine zdecF (show ¬ I 2 85 = Int32.ofInt 32 from den (by rw [hw 85 115 rfl, oI (by decide) (by decide)] <;> omega)) (fun _ => ?_)
      refine zdecF (show ¬ I 2 86 = Int32.ofInt 32 from den (by rw [hw 86 101 rfl, oI (by decide) (by decide)] <;> omega)) (fun _ => ?_)
      refine zdecT (show I 2 87 = Int32.ofInt 32 from deq (by rw [hw 87 32 rfl, oI (by decide) (by decide)] <;> omega)) (fun _ => ?_)
      refine zdecT (show Int32.ofInt 6 = (Int32.ofNat (pa + m)) - (Int32.ofNat pa) from deq (by rw [oI (by decide) (by decide), hba] <;> omega)) (fun _ => ?_)
      refine zdecF b0 (fun _ => ?_)
      refine zdecT (show I 2 81 = I 1 (Int32.ofNat pa + Int32.ofInt 0).toNatClampNeg from deq (by rw [hw 81 99 rfl, t0] <;> omega)) (fun _ => ?_)
      refine zdecF b1 (fun _ => ?_)
      refine zdecT (show I 2 82 = I 1 (Int32.ofNat pa + Int32.ofInt 1).toNatClampNeg from deq (by rw [hw 82 111 rfl, t1] <;> omega)) (fun _ => ?_)
      refine zdecF b2 (fun _ => ?_)
      refine zdecT (show I 2 83 = I 1 (Int32.ofNat pa + Int32.ofInt 2).toNatClampNeg from deq (by rw [hw 83 97 rfl, t2] <;> omega)) (fun _ => ?_)
      refine zdecF b3 (fun _ => ?_)
      refine zdecF (show ¬ I 2 84 = I 1 (Int32.ofNat pa + Int32.ofInt 3).toNatClampNeg from den (by rw [hw 84 114 rfl, t3] <;> omega)) (fun _ => ?_)
      refine zX_sub (fun x hx => ?_) (hN (by omega))
      simp only [List.mem_cons, List.not_mem_nil, or_false] at hx
      rcases hx with rfl | rfl | rfl | rfl | rfl
      all_goals first | exact List.Mem.head _ | exact List.Mem.tail _ (List.Mem.head _) | exact List.Mem.tail _ (List.Mem.tail _ (List.Mem.head _)) | exact List.Mem.tail _ (List.Mem.tail _ (List.Mem.tail _ (List.Mem.head _))) | exact List.Mem.tail _ (List.Mem.tail _ (List.Mem.tail _ (List.Mem.tail _ (List.Mem.head _)))) | exact List.Mem.tail _ (List.Mem.tail _ (List.Mem.tail _ (List.Mem.tail _ (List.Mem.tail _ (List.Mem.head _))))) | exact List.Mem.tail _ (List.Mem.tail _ (List.Mem.tail _ (List.Mem.tail _ (List.Mem.tail _ (List.Mem.tail _ (List.Mem.head _)))))) | exact List.Mem.tail _ (List.Mem.tail _ (List.Mem.tail _ (List.Mem.tail _ (List.Mem.tail _ (List.Mem.tail _ (List.Mem.tail _ (List.Mem.head _)))))))
    by_cases c4 : T (pa + 4) = 115
    case neg =>
      refine zpcF (M := (zh197, zc197)) 197 5 rfl zckm197 (fun _ _ _ _ h => h) ?_
      refine zdecF (show ¬ I 2 81 = Int32.ofInt 32 from den (by rw [hw 81 99 rfl, oI (by decide) (by decide)] <;> omega)) (fun _ => ?_)
      refine zdecF (show ¬ I 2 82 = Int32.ofInt 32 from den (by rw [hw 82 111 rfl, oI (by decide) (by decide)] <;> omega)) (fun _ => ?_)
      refine zdecF (show ¬ I 2 83 = Int32.ofInt 32 from den (by rw [hw 83 97 rfl, oI (by decide) (by decide)] <;> omega)) (fun _ => ?_)
      refine zdecF (show ¬ I 2 84 = Int32.ofInt 32 from den (by rw [hw 84 114 rfl, oI (by decide) (by decide)] <;> omega)) (fun _ => ?_)
      refine zdecF (show ¬ I 2 85 = Int32.ofInt 32 from den (by rw [hw 85 115 rfl, oI (by decide) (by decide)] <;> omega)) (fun _ => ?_)
      refine zdecF (show ¬ I 2 86 = Int32.ofInt 32 from den (by rw [hw 86 101 rfl, oI (by decide) (by decide)] <;> omega)) (fun _ => ?_)
      refine zdecT (show I 2 87 = Int32.ofInt 32 from deq (by rw [hw 87 32 rfl, oI (by decide) (by decide)] <;> omega)) (fun _ => ?_)
      refine zdecT (show Int32.ofInt 6 = (Int32.ofNat (pa + m)) - (Int32.ofNat pa) from deq (by rw [oI (by decide) (by decide), hba] <;> omega)) (fun _ => ?_)
      refine zdecF b0 (fun _ => ?_)
      refine zdecT (show I 2 81 = I 1 (Int32.ofNat pa + Int32.ofInt 0).toNatClampNeg from deq (by rw [hw 81 99 rfl, t0] <;> omega)) (fun _ => ?_)
      refine zdecF b1 (fun _ => ?_)
      refine zdecT (show I 2 82 = I 1 (Int32.ofNat pa + Int32.ofInt 1).toNatClampNeg from deq (by rw [hw 82 111 rfl, t1] <;> omega)) (fun _ => ?_)
      refine zdecF b2 (fun _ => ?_)
      refine zdecT (show I 2 83 = I 1 (Int32.ofNat pa + Int32.ofInt 2).toNatClampNeg from deq (by rw [hw 83 97 rfl, t2] <;> omega)) (fun _ => ?_)
      refine zdecF b3 (fun _ => ?_)
      refine zdecT (show I 2 84 = I 1 (Int32.ofNat pa + Int32.ofInt 3).toNatClampNeg from deq (by rw [hw 84 114 rfl, t3] <;> omega)) (fun _ => ?_)
      refine zdecF b4 (fun _ => ?_)
      refine zdecF (show ¬ I 2 85 = I 1 (Int32.ofNat pa + Int32.ofInt 4).toNatClampNeg from den (by rw [hw 85 115 rfl, t4] <;> omega)) (fun _ => ?_)
      refine zX_sub (fun x hx => ?_) (hN (by omega))
      simp only [List.mem_cons, List.not_mem_nil, or_false] at hx
      rcases hx with rfl | rfl | rfl | rfl | rfl
      all_goals first | exact List.Mem.head _ | exact List.Mem.tail _ (List.Mem.head _) | exact List.Mem.tail _ (List.Mem.tail _ (List.Mem.head _)) | exact List.Mem.tail _ (List.Mem.tail _ (List.Mem.tail _ (List.Mem.head _))) | exact List.Mem.tail _ (List.Mem.tail _ (List.Mem.tail _ (List.Mem.tail _ (List.Mem.head _)))) | exact List.Mem.tail _ (List.Mem.tail _ (List.Mem.tail _ (List.Mem.tail _ (List.Mem.tail _ (List.Mem.head _))))) | exact List.Mem.tail _ (List.Mem.tail _ (List.Mem.tail _ (List.Mem.tail _ (List.Mem.tail _ (List.Mem.tail _ (List.Mem.head _)))))) | exact List.Mem.tail _ (List.Mem.tail _ (List.Mem.tail _ (List.Mem.tail _ (List.Mem.tail _ (List.Mem.tail _ (List.Mem.tail _ (List.Mem.head _)))))))
    by_cases c5 : T (pa + 5) = 101
    case neg =>
      refine zpcF (M := (zh197, zc197)) 197 5 rfl zckm197 (fun _ _ _ _ h => h) ?_
      refine zdecF (show ¬ I 2 81 = Int32.ofInt 32 from den (by rw [hw 81 99 rfl, oI (by decide) (by decide)] <;> omega)) (fun _ => ?_)
      refine zdecF (show ¬ I 2 82 = Int32.ofInt 32 from den (by rw [hw 82 111 rfl, oI (by decide) (by decide)] <;> omega)) (fun _ => ?_)
      refine zdecF (show ¬ I 2 83 = Int32.ofInt 32 from den (by rw [hw 83 97 rfl, oI (by decide) (by decide)] <;> omega)) (fun _ => ?_)
      refine zdecF (show ¬ I 2 84 = Int32.ofInt 32 from den (by rw [hw 84 114 rfl, oI (by decide) (by decide)] <;> omega)) (fun _ => ?_)
      refine zdecF (show ¬ I 2 85 = Int32.ofInt 32 from den (by rw [hw 85 115 rfl, oI (by decide) (by decide)] <;> omega)) (fun _ => ?_)
      refine zdecF (show ¬ I 2 86 = Int32.ofInt 32 from den (by rw [hw 86 101 rfl, oI (by decide) (by decide)] <;> omega)) (fun _ => ?_)
      refine zdecT (show I 2 87 = Int32.ofInt 32 from deq (by rw [hw 87 32 rfl, oI (by decide) (by decide)] <;> omega)) (fun _ => ?_)
      refine zdecT (show Int32.ofInt 6 = (Int32.ofNat (pa + m)) - (Int32.ofNat pa) from deq (by rw [oI (by decide) (by decide), hba] <;> omega)) (fun _ => ?_)
      refine zdecF b0 (fun _ => ?_)
      refine zdecT (show I 2 81 = I 1 (Int32.ofNat pa + Int32.ofInt 0).toNatClampNeg from deq (by rw [hw 81 99 rfl, t0] <;> omega)) (fun _ => ?_)
      refine zdecF b1 (fun _ => ?_)
      refine zdecT (show I 2 82 = I 1 (Int32.ofNat pa + Int32.ofInt 1).toNatClampNeg from deq (by rw [hw 82 111 rfl, t1] <;> omega)) (fun _ => ?_)
      refine zdecF b2 (fun _ => ?_)
      refine zdecT (show I 2 83 = I 1 (Int32.ofNat pa + Int32.ofInt 2).toNatClampNeg from deq (by rw [hw 83 97 rfl, t2] <;> omega)) (fun _ => ?_)
      refine zdecF b3 (fun _ => ?_)
      refine zdecT (show I 2 84 = I 1 (Int32.ofNat pa + Int32.ofInt 3).toNatClampNeg from deq (by rw [hw 84 114 rfl, t3] <;> omega)) (fun _ => ?_)
      refine zdecF b4 (fun _ => ?_)
      refine zdecT (show I 2 85 = I 1 (Int32.ofNat pa + Int32.ofInt 4).toNatClampNeg from deq (by rw [hw 85 115 rfl, t4] <;> omega)) (fun _ => ?_)
      refine zdecF b5 (fun _ => ?_)
      refine zdecF (show ¬ I 2 86 = I 1 (Int32.ofNat pa + Int32.ofInt 5).toNatClampNeg from den (by rw [hw 86 101 rfl, t5] <;> omega)) (fun _ => ?_)
      refine zX_sub (fun x hx => ?_) (hN (by omega))
      simp only [List.mem_cons, List.not_mem_nil, or_false] at hx
      rcases hx with rfl | rfl | rfl | rfl | rfl
      all_goals first | exact List.Mem.head _ | exact List.Mem.tail _ (List.Mem.head _) | exact List.Mem.tail _ (List.Mem.tail _ (List.Mem.head _)) | exact List.Mem.tail _ (List.Mem.tail _ (List.Mem.tail _ (List.Mem.head _))) | exact List.Mem.tail _ (List.Mem.tail _ (List.Mem.tail _ (List.Mem.tail _ (List.Mem.head _)))) | exact List.Mem.tail _ (List.Mem.tail _ (List.Mem.tail _ (List.Mem.tail _ (List.Mem.tail _ (List.Mem.head _))))) | exact List.Mem.tail _ (List.Mem.tail _ (List.Mem.tail _ (List.Mem.tail _ (List.Mem.tail _ (List.Mem.tail _ (List.Mem.head _)))))) | exact List.Mem.tail _ (List.Mem.tail _ (List.Mem.tail _ (List.Mem.tail _ (List.Mem.tail _ (List.Mem.tail _ (List.Mem.tail _ (List.Mem.head _)))))))
    refine zpcF (M := (zh197, zc197)) 197 5 rfl zckm197 (fun _ _ _ _ h => h) ?_
    refine zdecF (show ¬ I 2 81 = Int32.ofInt 32 from den (by rw [hw 81 99 rfl, oI (by decide) (by decide)] <;> omega)) (fun _ => ?_)
    refine zdecF (show ¬ I 2 82 = Int32.ofInt 32 from den (by rw [hw 82 111 rfl, oI (by decide) (by decide)] <;> omega)) (fun _ => ?_)
    refine zdecF (show ¬ I 2 83 = Int32.ofInt 32 from den (by rw [hw 83 97 rfl, oI (by decide) (by decide)] <;> omega)) (fun _ => ?_)
    refine zdecF (show ¬ I 2 84 = Int32.ofInt 32 from den (by rw [hw 84 114 rfl, oI (by decide) (by decide)] <;> omega)) (fun _ => ?_)
    refine zdecF (show ¬ I 2 85 = Int32.ofInt 32 from den (by rw [hw 85 115 rfl, oI (by decide) (by decide)] <;> omega)) (fun _ => ?_)
    refine zdecF (show ¬ I 2 86 = Int32.ofInt 32 from den (by rw [hw 86 101 rfl, oI (by decide) (by decide)] <;> omega)) (fun _ => ?_)
    refine zdecT (show I 2 87 = Int32.ofInt 32 from deq (by rw [hw 87 32 rfl, oI (by decide) (by decide)] <;> omega)) (fun _ => ?_)
    refine zdecT (show Int32.ofInt 6 = (Int32.ofNat (pa + m)) - (Int32.ofNat pa) from deq (by rw [oI (by decide) (by decide), hba] <;> omega)) (fun _ => ?_)
    refine zdecF b0 (fun _ => ?_)
    refine zdecT (show I 2 81 = I 1 (Int32.ofNat pa + Int32.ofInt 0).toNatClampNeg from deq (by rw [hw 81 99 rfl, t0] <;> omega)) (fun _ => ?_)
    refine zdecF b1 (fun _ => ?_)
    refine zdecT (show I 2 82 = I 1 (Int32.ofNat pa + Int32.ofInt 1).toNatClampNeg from deq (by rw [hw 82 111 rfl, t1] <;> omega)) (fun _ => ?_)
    refine zdecF b2 (fun _ => ?_)
    refine zdecT (show I 2 83 = I 1 (Int32.ofNat pa + Int32.ofInt 2).toNatClampNeg from deq (by rw [hw 83 97 rfl, t2] <;> omega)) (fun _ => ?_)
    refine zdecF b3 (fun _ => ?_)
    refine zdecT (show I 2 84 = I 1 (Int32.ofNat pa + Int32.ofInt 3).toNatClampNeg from deq (by rw [hw 84 114 rfl, t3] <;> omega)) (fun _ => ?_)
    refine zdecF b4 (fun _ => ?_)
    refine zdecT (show I 2 85 = I 1 (Int32.ofNat pa + Int32.ofInt 4).toNatClampNeg from deq (by rw [hw 85 115 rfl, t4] <;> omega)) (fun _ => ?_)
    refine zdecF b5 (fun _ => ?_)
    refine zdecT (show I 2 86 = I 1 (Int32.ofNat pa + Int32.ofInt 5).toNatClampNeg from deq (by rw [hw 86 101 rfl, t5] <;> omega)) (fun _ => ?_)
    exact hY ⟨hm, c0, c1, c2, c3, c4, c5⟩
  · refine zpcF (M := (zh197, zc197)) 197 5 rfl zckm197 (fun _ _ _ _ h => h) ?_
    refine zdecF (show ¬ I 2 81 = Int32.ofInt 32 from den (by rw [hw 81 99 rfl, oI (by decide) (by decide)] <;> omega)) (fun _ => ?_)
    refine zdecF (show ¬ I 2 82 = Int32.ofInt 32 from den (by rw [hw 82 111 rfl, oI (by decide) (by decide)] <;> omega)) (fun _ => ?_)
    refine zdecF (show ¬ I 2 83 = Int32.ofInt 32 from den (by rw [hw 83 97 rfl, oI (by decide) (by decide)] <;> omega)) (fun _ => ?_)
    refine zdecF (show ¬ I 2 84 = Int32.ofInt 32 from den (by rw [hw 84 114 rfl, oI (by decide) (by decide)] <;> omega)) (fun _ => ?_)
    refine zdecF (show ¬ I 2 85 = Int32.ofInt 32 from den (by rw [hw 85 115 rfl, oI (by decide) (by decide)] <;> omega)) (fun _ => ?_)
    refine zdecF (show ¬ I 2 86 = Int32.ofInt 32 from den (by rw [hw 86 101 rfl, oI (by decide) (by decide)] <;> omega)) (fun _ => ?_)
    refine zdecT (show I 2 87 = Int32.ofInt 32 from deq (by rw [hw 87 32 rfl, oI (by decide) (by decide)] <;> omega)) (fun _ => ?_)
    refine zdecF (show ¬ Int32.ofInt 6 = (Int32.ofNat (pa + m)) - (Int32.ofNat pa) from den (by rw [oI (by decide) (by decide), hba] <;> omega)) (fun _ => ?_)
    refine zX_sub (fun x hx => ?_) (hN (by omega))
    simp only [List.mem_cons, List.not_mem_nil, or_false] at hx
    rcases hx with rfl | rfl | rfl | rfl | rfl
    all_goals first | exact List.Mem.head _ | exact List.Mem.tail _ (List.Mem.head _) | exact List.Mem.tail _ (List.Mem.tail _ (List.Mem.head _)) | exact List.Mem.tail _ (List.Mem.tail _ (List.Mem.tail _ (List.Mem.head _))) | exact List.Mem.tail _ (List.Mem.tail _ (List.Mem.tail _ (List.Mem.tail _ (List.Mem.head _)))) | exact List.Mem.tail _ (List.Mem.tail _ (List.Mem.tail _ (List.Mem.tail _ (List.Mem.tail _ (List.Mem.head _))))) | exact List.Mem.tail _ (List.Mem.tail _ (List.Mem.tail _ (List.Mem.tail _ (List.Mem.tail _ (List.Mem.tail _ (List.Mem.head _)))))) | exact List.Mem.tail _ (List.Mem.tail _ (List.Mem.tail _ (List.Mem.tail _ (List.Mem.tail _ (List.Mem.tail _ (List.Mem.tail _ (List.Mem.head _)))))))
