set_option maxRecDepth 100000 in
set_option maxHeartbeats 4000000 in
theorem zw9 {l : Launch} {Γ : zG} {d : Nat} {Kp : Option Value → zH → Prop} {I : zHI} {Lg : zHL} {P : zHP} {T : Nat → Int} {pa m : Nat} (hH : wH I P T pa m) (hY : mtW T pa m 9 → Kp (some (.int (Int32.ofInt 9))) (zshM, I, Lg, P))
    (hN : ¬ mtW T pa m 9 → zX l Γ false (d + 1) zh197 (zMQ' Γ false zh197 Kp) 0 0 5 [(4, .int (Int32.ofInt 48)), (3, .int (Int32.ofInt 10)), (0, .ref 0), (1, .int (Int32.ofNat pa)), (2, .int (Int32.ofNat (pa + m)))] [] (zshM, I, Lg, P)) : zX l Γ false (d + 1) zh197 (zMQ' Γ false zh197 Kp) 0 0 5 [(4, .int (Int32.ofInt 44)), (3, .int (Int32.ofInt 9)), (0, .ref 0), (1, .int (Int32.ofNat pa)), (2, .int (Int32.ofNat (pa + m)))] [] (zshM, I, Lg, P) := by
  obtain ⟨hP0, hP3, hw, hm1, hpm, hT⟩ := hH
  have hba : (Int32.ofNat (pa + m) - Int32.ofNat pa).toInt = (m : Int) := by
    rw [Int32.toInt_sub, oN (by omega), oN (by omega), s32r _ (by show (-2147483648 : Int) ≤ _; omega) (by show _ ≤ (2147483647 : Int); omega)]
    omega
  have eP := wPx hP0 hP3
  rw [eP] at hY hN ⊢
  have hN : ¬ (m = 3 ∧ T pa = 116 ∧ T (pa + 1) = 97 ∧ T (pa + 2) = 120) → _ := hN
  have hY : (m = 3 ∧ T pa = 116 ∧ T (pa + 1) = 97 ∧ T (pa + 2) = 120) → _ := hY
  by_cases hm : m = 3
  · have q0 : (I 1 (Int32.ofNat pa + Int32.ofInt 0).toNatClampNeg).toInt = T pa ∧ ¬ (Int32.ofNat pa + Int32.ofInt 0 < 0 ∨ 700 ≤ (Int32.ofNat pa + Int32.ofInt 0).toNatClampNeg) := wIdx 0 (by omega) hT
    have t0 := q0.1
    have b0 := q0.2
    have q1 : (I 1 (Int32.ofNat pa + Int32.ofInt 1).toNatClampNeg).toInt = T (pa + 1) ∧ ¬ (Int32.ofNat pa + Int32.ofInt 1 < 0 ∨ 700 ≤ (Int32.ofNat pa + Int32.ofInt 1).toNatClampNeg) := wIdx 1 (by omega) hT
    have t1 := q1.1
    have b1 := q1.2
    have q2 : (I 1 (Int32.ofNat pa + Int32.ofInt 2).toNatClampNeg).toInt = T (pa + 2) ∧ ¬ (Int32.ofNat pa + Int32.ofInt 2 < 0 ∨ 700 ≤ (Int32.ofNat pa + Int32.ofInt 2).toNatClampNeg) := wIdx 2 (by omega) hT
    have t2 := q2.1
    have b2 := q2.2
    by_cases c0 : T pa = 116
    case neg =>
      refine zpcF (M := (zh197, zc197)) 197 5 rfl zckm197 (fun _ _ _ _ h => h) ?_
      refine zdecF (show ¬ I 2 44 = Int32.ofInt 32 from den (by rw [hw 44 116 rfl, oI (by decide) (by decide)] <;> omega)) (fun _ => ?_)
      refine zdecF (show ¬ I 2 45 = Int32.ofInt 32 from den (by rw [hw 45 97 rfl, oI (by decide) (by decide)] <;> omega)) (fun _ => ?_)
      refine zdecF (show ¬ I 2 46 = Int32.ofInt 32 from den (by rw [hw 46 120 rfl, oI (by decide) (by decide)] <;> omega)) (fun _ => ?_)
      refine zdecT (show I 2 47 = Int32.ofInt 32 from deq (by rw [hw 47 32 rfl, oI (by decide) (by decide)] <;> omega)) (fun _ => ?_)
      refine zdecT (show Int32.ofInt 3 = (Int32.ofNat (pa + m)) - (Int32.ofNat pa) from deq (by rw [oI (by decide) (by decide), hba] <;> omega)) (fun _ => ?_)
      refine zdecF b0 (fun _ => ?_)
      refine zdecF (show ¬ I 2 44 = I 1 (Int32.ofNat pa + Int32.ofInt 0).toNatClampNeg from den (by rw [hw 44 116 rfl, t0] <;> omega)) (fun _ => ?_)
      refine zX_sub (fun x hx => ?_) (hN (by omega))
      simp only [List.mem_cons, List.not_mem_nil, or_false] at hx
      rcases hx with rfl | rfl | rfl | rfl | rfl
      all_goals first | exact List.Mem.head _ | exact List.Mem.tail _ (List.Mem.head _) | exact List.Mem.tail _ (List.Mem.tail _ (List.Mem.head _)) | exact List.Mem.tail _ (List.Mem.tail _ (List.Mem.tail _ (List.Mem.head _))) | exact List.Mem.tail _ (List.Mem.tail _ (List.Mem.tail _ (List.Mem.tail _ (List.Mem.head _)))) | exact List.Mem.tail _ (List.Mem.tail _ (List.Mem.tail _ (List.Mem.tail _ (List.Mem.tail _ (List.Mem.head _))))) | exact List.Mem.tail _ (List.Mem.tail _ (List.Mem.tail _ (List.Mem.tail _ (List.Mem.tail _ (List.Mem.tail _ (List.Mem.head _)))))) | exact List.Mem.tail _ (List.Mem.tail _ (List.Mem.tail _ (List.Mem.tail _ (List.Mem.tail _ (List.Mem.tail _ (List.Mem.tail _ (List.Mem.head _)))))))
    by_cases c1 : T (pa + 1) = 97
    case neg =>
      refine zpcF (M := (zh197, zc197)) 197 5 rfl zckm197 (fun _ _ _ _ h => h) ?_
      refine zdecF (show ¬ I 2 44 = Int32.ofInt 32 from den (by rw [hw 44 116 rfl, oI (by decide) (by decide)] <;> omega)) (fun _ => ?_)
      refine zdecF (show ¬ I 2 45 = Int32.ofInt 32 from den (by rw [hw 45 97 rfl, oI (by decide) (by decide)] <;> omega)) (fun _ => ?_)
      refine zdecF (show ¬ I 2 46 = Int32.ofInt 32 from den (by rw [hw 46 120 rfl, oI (by decide) (by decide)] <;> omega)) (fun _ => ?_)
      refine zdecT (show I 2 47 = Int32.ofInt 32 from deq (by rw [hw 47 32 rfl, oI (by decide) (by decide)] <;> omega)) (fun _ => ?_)
      refine zdecT (show Int32.ofInt 3 = (Int32.ofNat (pa + m)) - (Int32.ofNat pa) from deq (by rw [oI (by decide) (by decide), hba] <;> omega)) (fun _ => ?_)
      refine zdecF b0 (fun _ => ?_)
      refine zdecT (show I 2 44 = I 1 (Int32.ofNat pa + Int32.ofInt 0).toNatClampNeg from deq (by rw [hw 44 116 rfl, t0] <;> omega)) (fun _ => ?_)
      refine zdecF b1 (fun _ => ?_)
      refine zdecF (show ¬ I 2 45 = I 1 (Int32.ofNat pa + Int32.ofInt 1).toNatClampNeg from den (by rw [hw 45 97 rfl, t1] <;> omega)) (fun _ => ?_)
      refine zX_sub (fun x hx => ?_) (hN (by omega))
      simp only [List.mem_cons, List.not_mem_nil, or_false] at hx
      rcases hx with rfl | rfl | rfl | rfl | rfl
      all_goals first | exact List.Mem.head _ | exact List.Mem.tail _ (List.Mem.head _) | exact List.Mem.tail _ (List.Mem.tail _ (List.Mem.head _)) | exact List.Mem.tail _ (List.Mem.tail _ (List.Mem.tail _ (List.Mem.head _))) | exact List.Mem.tail _ (List.Mem.tail _ (List.Mem.tail _ (List.Mem.tail _ (List.Mem.head _)))) | exact List.Mem.tail _ (List.Mem.tail _ (List.Mem.tail _ (List.Mem.tail _ (List.Mem.tail _ (List.Mem.head _))))) | exact List.Mem.tail _ (List.Mem.tail _ (List.Mem.tail _ (List.Mem.tail _ (List.Mem.tail _ (List.Mem.tail _ (List.Mem.head _)))))) | exact List.Mem.tail _ (List.Mem.tail _ (List.Mem.tail _ (List.Mem.tail _ (List.Mem.tail _ (List.Mem.tail _ (List.Mem.tail _ (List.Mem.head _)))))))
    by_cases c2 : T (pa + 2) = 120
    case neg =>
      refine zpcF (M := (zh197, zc197)) 197 5 rfl zckm197 (fun _ _ _ _ h => h) ?_
      refine zdecF (show ¬ I 2 44 = Int32.ofInt 32 from den (by rw [hw 44 116 rfl, oI (by decide) (by decide)] <;> omega)) (fun _ => ?_)
      refine zdecF (show ¬ I 2 45 = Int32.ofInt 32 from den (by rw [hw 45 97 rfl, oI (by decide) (by decide)] <;> omega)) (fun _ => ?_)
      refine zdecF (show ¬ I 2 46 = Int32.ofInt 32 from den (by rw [hw 46 120 rfl, oI (by decide) (by decide)] <;> omega)) (fun _ => ?_)
      refine zdecT (show I 2 47 = Int32.ofInt 32 from deq (by rw [hw 47 32 rfl, oI (by decide) (by decide)] <;> omega)) (fun _ => ?_)
      refine zdecT (show Int32.ofInt 3 = (Int32.ofNat (pa + m)) - (Int32.ofNat pa) from deq (by rw [oI (by decide) (by decide), hba] <;> omega)) (fun _ => ?_)
      refine zdecF b0 (fun _ => ?_)
      refine zdecT (show I 2 44 = I 1 (Int32.ofNat pa + Int32.ofInt 0).toNatClampNeg from deq (by rw [hw 44 116 rfl, t0] <;> omega)) (fun _ => ?_)
      refine zdecF b1 (fun _ => ?_)
      refine zdecT (show I 2 45 = I 1 (Int32.ofNat pa + Int32.ofInt 1).toNatClampNeg from deq (by rw [hw 45 97 rfl, t1] <;> omega)) (fun _ => ?_)
      refine zdecF b2 (fun _ => ?_)
      refine zdecF (show ¬ I 2 46 = I 1 (Int32.ofNat pa + Int32.ofInt 2).toNatClampNeg from den (by rw [hw 46 120 rfl, t2] <;> omega)) (fun _ => ?_)
      refine zX_sub (fun x hx => ?_) (hN (by omega))
      simp only [List.mem_cons, List.not_mem_nil, or_false] at hx
      rcases hx with rfl | rfl | rfl | rfl | rfl
      all_goals first | exact List.Mem.head _ | exact List.Mem.tail _ (List.Mem.head _) | exact List.Mem.tail _ (List.Mem.tail _ (List.Mem.head _)) | exact List.Mem.tail _ (List.Mem.tail _ (List.Mem.tail _ (List.Mem.head _))) | exact List.Mem.tail _ (List.Mem.tail _ (List.Mem.tail _ (List.Mem.tail _ (List.Mem.head _)))) | exact List.Mem.tail _ (List.Mem.tail _ (List.Mem.tail _ (List.Mem.tail _ (List.Mem.tail _ (List.Mem.head _))))) | exact List.Mem.tail _ (List.Mem.tail _ (List.Mem.tail _ (List.Mem.tail _ (List.Mem.tail _ (List.Mem.tail _ (List.Mem.head _)))))) | exact List.Mem.tail _ (List.Mem.tail _ (List.Mem.tail _ (List.Mem.tail _ (List.Mem.tail _ (List.Mem.tail _ (List.Mem.tail _ (List.Mem.head _)))))))
    refine zpcF (M := (zh197, zc197)) 197 5 rfl zckm197 (fun _ _ _ _ h => h) ?_
    refine zdecF (show ¬ I 2 44 = Int32.ofInt 32 from den (by rw [hw 44 116 rfl, oI (by decide) (by decide)] <;> omega)) (fun _ => ?_)
    refine zdecF (show ¬ I 2 45 = Int32.ofInt 32 from den (by rw [hw 45 97 rfl, oI (by decide) (by decide)] <;> omega)) (fun _ => ?_)
    refine zdecF (show ¬ I 2 46 = Int32.ofInt 32 from den (by rw [hw 46 120 rfl, oI (by decide) (by decide)] <;> omega)) (fun _ => ?_)
    refine zdecT (show I 2 47 = Int32.ofInt 32 from deq (by rw [hw 47 32 rfl, oI (by decide) (by decide)] <;> omega)) (fun _ => ?_)
    refine zdecT (show Int32.ofInt 3 = (Int32.ofNat (pa + m)) - (Int32.ofNat pa) from deq (by rw [oI (by decide) (by decide), hba] <;> omega)) (fun _ => ?_)
    refine zdecF b0 (fun _ => ?_)
    refine zdecT (show I 2 44 = I 1 (Int32.ofNat pa + Int32.ofInt 0).toNatClampNeg from deq (by rw [hw 44 116 rfl, t0] <;> omega)) (fun _ => ?_)
    refine zdecF b1 (fun _ => ?_)
    refine zdecT (show I 2 45 = I 1 (Int32.ofNat pa + Int32.ofInt 1).toNatClampNeg from deq (by rw [hw 45 97 rfl, t1] <;> omega)) (fun _ => ?_)
    refine zdecF b2 (fun _ => ?_)
    refine zdecT (show I 2 46 = I 1 (Int32.ofNat pa + Int32.ofInt 2).toNatClampNeg from deq (by rw [hw 46 120 rfl, t2] <;> omega)) (fun _ => ?_)
    exact hY ⟨hm, c0, c1, c2⟩
  · refine zpcF (M := (zh197, zc197)) 197 5 rfl zckm197 (fun _ _ _ _ h => h) ?_
    refine zdecF (show ¬ I 2 44 = Int32.ofInt 32 from den (by rw [hw 44 116 rfl, oI (by decide) (by decide)] <;> omega)) (fun _ => ?_)
    refine zdecF (show ¬ I 2 45 = Int32.ofInt 32 from den (by rw [hw 45 97 rfl, oI (by decide) (by decide)] <;> omega)) (fun _ => ?_)
    refine zdecF (show ¬ I 2 46 = Int32.ofInt 32 from den (by rw [hw 46 120 rfl, oI (by decide) (by decide)] <;> omega)) (fun _ => ?_)
    refine zdecT (show I 2 47 = Int32.ofInt 32 from deq (by rw [hw 47 32 rfl, oI (by decide) (by decide)] <;> omega)) (fun _ => ?_)
    refine zdecF (show ¬ Int32.ofInt 3 = (Int32.ofNat (pa + m)) - (Int32.ofNat pa) from den (by rw [oI (by decide) (by decide), hba] <;> omega)) (fun _ => ?_)
    refine zX_sub (fun x hx => ?_) (hN (by omega))
    simp only [List.mem_cons, List.not_mem_nil, or_false] at hx
    rcases hx with rfl | rfl | rfl | rfl | rfl
    all_goals first | exact List.Mem.head _ | exact List.Mem.tail _ (List.Mem.head _) | exact List.Mem.tail _ (List.Mem.tail _ (List.Mem.head _)) | exact List.Mem.tail _ (List.Mem.tail _ (List.Mem.tail _ (List.Mem.head _))) | exact List.Mem.tail _ (List.Mem.tail _ (List.Mem.tail _ (List.Mem.tail _ (List.Mem.head _)))) | exact List.Mem.tail _ (List.Mem.tail _ (List.Mem.tail _ (List.Mem.tail _ (List.Mem.tail _ (List.Mem.head _))))) | exact List.Mem.tail _ (List.Mem.tail _ (List.Mem.tail _ (List.Mem.tail _ (List.Mem.tail _ (List.Mem.tail _ (List.Mem.head _)))))) | exact List.Mem.tail _ (List.Mem.tail _ (List.Mem.tail _ (List.Mem.tail _ (List.Mem.tail _ (List.Mem.tail _ (List.Mem.tail _ (List.Mem.head _)))))))
set_option maxRecDepth 100000 in
set_option maxHeartbeats 4000000 in
theorem zw10 {l : Launch} {Γ : zG} {d : Nat} {Kp : Option Value → zH → Prop} {I : zHI} {Lg : zHL} {P : zHP} {T : Nat → Int} {pa m : Nat} (hH : wH I P T pa m) (hY : mtW T pa m 10 → Kp (some (.int (Int32.ofInt 10))) (zshM, I, Lg, P))
    (hN : ¬ mtW T pa m 10 → zX l Γ false (d + 1) zh197 (zMQ' Γ false zh197 Kp) 0 0 5 [(4, .int (Int32.ofInt 53)), (3, .int (Int32.ofInt 11)), (0, .ref 0), (1, .int (Int32.ofNat pa)), (2, .int (Int32.ofNat (pa + m)))] [] (zshM, I, Lg, P)) : zX l Γ false (d + 1) zh197 (zMQ' Γ false zh197 Kp) 0 0 5 [(4, .int (Int32.ofInt 48)), (3, .int (Int32.ofInt 10)), (0, .ref 0), (1, .int (Int32.ofNat pa)), (2, .int (Int32.ofNat (pa + m)))] [] (zshM, I, Lg, P) := by
  obtain ⟨hP0, hP3, hw, hm1, hpm, hT⟩ := hH
  have hba : (Int32.ofNat (pa + m) - Int32.ofNat pa).toInt = (m : Int) := by
    rw [Int32.toInt_sub, oN (by omega), oN (by omega), s32r _ (by show (-2147483648 : Int) ≤ _; omega) (by show _ ≤ (2147483647 : Int); omega)]
    omega
  have eP := wPx hP0 hP3
  rw [eP] at hY hN ⊢
  have hN : ¬ (m = 4 ∧ T pa = 119 ∧ T (pa + 1) = 105 ∧ T (pa + 2) = 110 ∧ T (pa + 3) = 100) → _ := hN
  have hY : (m = 4 ∧ T pa = 119 ∧ T (pa + 1) = 105 ∧ T (pa + 2) = 110 ∧ T (pa + 3) = 100) → _ := hY
  by_cases hm : m = 4
  · have q0 : (I 1 (Int32.ofNat pa + Int32.ofInt 0).toNatClampNeg).toInt = T pa ∧ ¬ (Int32.ofNat pa + Int32.ofInt 0 < 0 ∨ 700 ≤ (Int32.ofNat pa + Int32.ofInt 0).toNatClampNeg) := wIdx 0 (by omega) hT
    have t0 := q0.1
    have b0 := q0.2
    have q1 : (I 1 (Int32.ofNat pa + Int32.ofInt 1).toNatClampNeg).toInt = T (pa + 1) ∧ ¬ (Int32.ofNat pa + Int32.ofInt 1 < 0 ∨ 700 ≤ (Int32.ofNat pa + Int32.ofInt 1).toNatClampNeg) := wIdx 1 (by omega) hT
    have t1 := q1.1
    have b1 := q1.2
    have q2 : (I 1 (Int32.ofNat pa + Int32.ofInt 2).toNatClampNeg).toInt = T (pa + 2) ∧ ¬ (Int32.ofNat pa + Int32.ofInt 2 < 0 ∨ 700 ≤ (Int32.ofNat pa + Int32.ofInt 2).toNatClampNeg) := wIdx 2 (by omega) hT
    have t2 := q2.1
    have b2 := q2.2
    have q3 : (I 1 (Int32.ofNat pa + Int32.ofInt 3).toNatClampNeg).toInt = T (pa + 3) ∧ ¬ (Int32.ofNat pa + Int32.ofInt 3 < 0 ∨ 700 ≤ (Int32.ofNat pa + Int32.ofInt 3).toNatClampNeg) := wIdx 3 (by omega) hT
    have t3 := q3.1
    have b3 := q3.2
    by_cases c0 : T pa = 119
    case neg =>
      refine zpcF (M := (zh197, zc197)) 197 5 rfl zckm197 (fun _ _ _ _ h => h) ?_
      refine zdecF (show ¬ I 2 48 = Int32.ofInt 32 from den (by rw [hw 48 119 rfl, oI (by decide) (by decide)] <;> omega)) (fun _ => ?_)
      refine zdecF (show ¬ I 2 49 = Int32.ofInt 32 from den (by rw [hw 49 105 rfl, oI (by decide) (by decide)] <;> omega)) (fun _ => ?_)
      refine zdecF (show ¬ I 2 50 = Int32.ofInt 32 from den (by rw [hw 50 110 rfl, oI (by decide) (by decide)] <;> omega)) (fun _ => ?_)
      refine zdecF (show ¬ I 2 51 = Int32.ofInt 32 from den (by rw [hw 51 100 rfl, oI (by decide) (by decide)] <;> omega)) (fun _ => ?_)
      refine zdecT (show I 2 52 = Int32.ofInt 32 from deq (by rw [hw 52 32 rfl, oI (by decide) (by decide)] <;> omega)) (fun _ => ?_)
      refine zdecT (show Int32.ofInt 4 = (Int32.ofNat (pa + m)) - (Int32.ofNat pa) from deq (by rw [oI (by decide) (by decide), hba] <;> omega)) (fun _ => ?_)
      refine zdecF b0 (fun _ => ?_)
      refine zdecF (show ¬ I 2 48 = I 1 (Int32.ofNat pa + Int32.ofInt 0).toNatClampNeg from den (by rw [hw 48 119 rfl, t0] <;> omega)) (fun _ => ?_)
      refine zX_sub (fun x hx => ?_) (hN (by omega))
      simp only [List.mem_cons, List.not_mem_nil, or_false] at hx
      rcases hx with rfl | rfl | rfl | rfl | rfl
      all_goals first | exact List.Mem.head _ | exact List.Mem.tail _ (List.Mem.head _) | exact List.Mem.tail _ (List.Mem.tail _ (List.Mem.head _)) | exact List.Mem.tail _ (List.Mem.tail _ (List.Mem.tail _ (List.Mem.head _))) | exact List.Mem.tail _ (List.Mem.tail _ (List.Mem.tail _ (List.Mem.tail _ (List.Mem.head _)))) | exact List.Mem.tail _ (List.Mem.tail _ (List.Mem.tail _ (List.Mem.tail _ (List.Mem.tail _ (List.Mem.head _))))) | exact List.Mem.tail _ (List.Mem.tail _ (List.Mem.tail _ (List.Mem.tail _ (List.Mem.tail _ (List.Mem.tail _ (List.Mem.head _)))))) | exact List.Mem.tail _ (List.Mem.tail _ (List.Mem.tail _ (List.Mem.tail _ (List.Mem.tail _ (List.Mem.tail _ (List.Mem.tail _ (List.Mem.head _)))))))
    by_cases c1 : T (pa + 1) = 105
    case neg =>
      refine zpcF (M := (zh197, zc197)) 197 5 rfl zckm197 (fun _ _ _ _ h => h) ?_
      refine zdecF (show ¬ I 2 48 = Int32.ofInt 32 from den (by rw [hw 48 119 rfl, oI (by decide) (by decide)] <;> omega)) (fun _ => ?_)
      refine zdecF (show ¬ I 2 49 = Int32.ofInt 32 from den (by rw [hw 49 105 rfl, oI (by decide) (by decide)] <;> omega)) (fun _ => ?_)
      refine zdecF (show ¬ I 2 50 = Int32.ofInt 32 from den (by rw [hw 50 110 rfl, oI (by decide) (by decide)] <;> omega)) (fun _ => ?_)
      refine zdecF (show ¬ I 2 51 = Int32.ofInt 32 from den (by rw [hw 51 100 rfl, oI (by decide) (by decide)] <;> omega)) (fun _ => ?_)
      refine zdecT (show I 2 52 = Int32.ofInt 32 from deq (by rw [hw 52 32 rfl, oI (by decide) (by decide)] <;> omega)) (fun _ => ?_)
      refine zdecT (show Int32.ofInt 4 = (Int32.ofNat (pa + m)) - (Int32.ofNat pa) from deq (by rw [oI (by decide) (by decide), hba] <;> omega)) (fun _ => ?_)
      refine zdecF b0 (fun _ => ?_)
      refine zdecT (show I 2 48 = I 1 (Int32.ofNat pa + Int32.ofInt 0).toNatClampNeg from deq (by rw [hw 48 119 rfl, t0] <;> omega)) (fun _ => ?_)
      refine zdecF b1 (fun _ => ?_)
      refine zdecF (show ¬ I 2 49 = I 1 (Int32.ofNat pa + Int32.ofInt 1).toNatClampNeg from den (by rw [hw 49 105 rfl, t1] <;> omega)) (fun _ => ?_)
      refine zX_sub (fun x hx => ?_) (hN (by omega))
      simp only [List.mem_cons, List.not_mem_nil, or_false] at hx
      rcases hx with rfl | rfl | rfl | rfl | rfl
      all_goals first | exact List.Mem.head _ | exact List.Mem.tail _ (List.Mem.head _) | exact List.Mem.tail _ (List.Mem.tail _ (List.Mem.head _)) | exact List.Mem.tail _ (List.Mem.tail _ (List.Mem.tail _ (List.Mem.head _))) | exact List.Mem.tail _ (List.Mem.tail _ (List.Mem.tail _ (List.Mem.tail _ (List.Mem.head _)))) | exact List.Mem.tail _ (List.Mem.tail _ (List.Mem.tail _ (List.Mem.tail _ (List.Mem.tail _ (List.Mem.head _))))) | exact List.Mem.tail _ (List.Mem.tail _ (List.Mem.tail _ (List.Mem.tail _ (List.Mem.tail _ (List.Mem.tail _ (List.Mem.head _)))))) | exact List.Mem.tail _ (List.Mem.tail _ (List.Mem.tail _ (List.Mem.tail _ (List.Mem.tail _ (List.Mem.tail _ (List.Mem.tail _ (List.Mem.head _)))))))
    by_cases c2 : T (pa + 2) = 110
    case neg =>
      refine zpcF (M := (zh197, zc197)) 197 5 rfl zckm197 (fun _ _ _ _ h => h) ?_
      refine zdecF (show ¬ I 2 48 = Int32.ofInt 32 from den (by rw [hw 48 119 rfl, oI (by decide) (by decide)] <;> omega)) (fun _ => ?_)
      refine zdecF (show ¬ I 2 49 = Int32.ofInt 32 from den (by rw [hw 49 105 rfl, oI (by decide) (by decide)] <;> omega)) (fun _ => ?_)
      refine zdecF (show ¬ I 2 50 = Int32.ofInt 32 from den (by rw [hw 50 110 rfl, oI (by decide) (by decide)] <;> omega)) (fun _ => ?_)
      refine zdecF (show ¬ I 2 51 = Int32.ofInt 32 from den (by rw [hw 51 100 rfl, oI (by decide) (by decide)] <;> omega)) (fun _ => ?_)
      refine zdecT (show I 2 52 = Int32.ofInt 32 from deq (by rw [hw 52 32 rfl, oI (by decide) (by decide)] <;> omega)) (fun _ => ?_)
      refine zdecT (show Int32.ofInt 4 = (Int32.ofNat (pa + m)) - (Int32.ofNat pa) from deq (by rw [oI (by decide) (by decide), hba] <;> omega)) (fun _ => ?_)
      refine zdecF b0 (fun _ => ?_)
      refine zdecT (show I 2 48 = I 1 (Int32.ofNat pa + Int32.ofInt 0).toNatClampNeg from deq (by rw [hw 48 119 rfl, t0] <;> omega)) (fun _ => ?_)
      refine zdecF b1 (fun _ => ?_)
      refine zdecT (show I 2 49 = I 1 (Int32.ofNat pa + Int32.ofInt 1).toNatClampNeg from deq (by rw [hw 49 105 rfl, t1] <;> omega)) (fun _ => ?_)
      refine zdecF b2 (fun _ => ?_)
      refine zdecF (show ¬ I 2 50 = I 1 (Int32.ofNat pa + Int32.ofInt 2).toNatClampNeg from den (by rw [hw 50 110 rfl, t2] <;> omega)) (fun _ => ?_)
      refine zX_sub (fun x hx => ?_) (hN (by omega))
      simp only [List.mem_cons, List.not_mem_nil, or_false] at hx
      rcases hx with rfl | rfl | rfl | rfl | rfl
      all_goals first | exact List.Mem.head _ | exact List.Mem.tail _ (List.Mem.head _) | exact List.Mem.tail _ (List.Mem.tail _ (List.Mem.head _)) | exact List.Mem.tail _ (List.Mem.tail _ (List.Mem.tail _ (List.Mem.head _))) | exact List.Mem.tail _ (List.Mem.tail _ (List.Mem.tail _ (List.Mem.tail _ (List.Mem.head _)))) | exact List.Mem.tail _ (List.Mem.tail _ (List.Mem.tail _ (List.Mem.tail _ (List.Mem.tail _ (List.Mem.head _))))) | exact List.Mem.tail _ (List.Mem.tail _ (List.Mem.tail _ (List.Mem.tail _ (List.Mem.tail _ (List.Mem.tail _ (List.Mem.head _)))))) | exact List.Mem.tail _ (List.Mem.tail _ (List.Mem.tail _ (List.Mem.tail _ (List.Mem.tail _ (List.Mem.tail _ (List.Mem.tail _ (List.Mem.head _)))))))
    by_cases c3 : T (pa + 3) = 100
    case neg =>
      refine zpcF (M := (zh197, zc197)) 197 5 rfl zckm197 (fun _ _ _ _ h => h) ?_
      refine zdecF (show ¬ I 2 48 = Int32.ofInt 32 from den (by rw [hw 48 119 rfl, oI (by decide) (by decide)] <;> omega)) (fun _ => ?_)
      refine zdecF (show ¬ I 2 49 = Int32.ofInt 32 from den (by rw [hw 49 105 rfl, oI (by decide) (by decide)] <;> omega)) (fun _ => ?_)
      refine zdecF (show ¬ I 2 50 = Int32.ofInt 32 from den (by rw [hw 50 110 rfl, oI (by decide) (by decide)] <;> omega)) (fun _ => ?_)
      refine zdecF (show ¬ I 2 51 = Int32.ofInt 32 from den (by rw [hw 51 100 rfl, oI (by decide) (by decide)] <;> omega)) (fun _ => ?_)
      refine zdecT (show I 2 52 = Int32.ofInt 32 from deq (by rw [hw 52 32 rfl, oI (by decide) (by decide)] <;> omega)) (fun _ => ?_)
      refine zdecT (show Int32.ofInt 4 = (Int32.ofNat (pa + m)) - (Int32.ofNat pa) from deq (by rw [oI (by decide) (by decide), hba] <;> omega)) (fun _ => ?_)
      refine zdecF b0 (fun _ => ?_)
      refine zdecT (show I 2 48 = I 1 (Int32.ofNat pa + Int32.ofInt 0).toNatClampNeg from deq (by rw [hw 48 119 rfl, t0] <;> omega)) (fun _ => ?_)
      refine zdecF b1 (fun _ => ?_)
      refine zdecT (show I 2 49 = I 1 (Int32.ofNat pa + Int32.ofInt 1).toNatClampNeg from deq (by rw [hw 49 105 rfl, t1] <;> omega)) (fun _ => ?_)
      refine zdecF b2 (fun _ => ?_)
      refine zdecT (show I 2 50 = I 1 (Int32.ofNat pa + Int32.ofInt 2).toNatClampNeg from deq (by rw [hw 50 110 rfl, t2] <;> omega)) (fun _ => ?_)
      refine zdecF b3 (fun _ => ?_)
      refine zdecF (show ¬ I 2 51 = I 1 (Int32.ofNat pa + Int32.ofInt 3).toNatClampNeg from den (by rw [hw 51 100 rfl, t3] <;> omega)) (fun _ => ?_)
      refine zX_sub (fun x hx => ?_) (hN (by omega))
      simp only [List.mem_cons, List.not_mem_nil, or_false] at hx
      rcases hx with rfl | rfl | rfl | rfl | rfl
      all_goals first | exact List.Mem.head _ | exact List.Mem.tail _ (List.Mem.head _) | exact List.Mem.tail _ (List.Mem.tail _ (List.Mem.head _)) | exact List.Mem.tail _ (List.Mem.tail _ (List.Mem.tail _ (List.Mem.head _))) | exact List.Mem.tail _ (List.Mem.tail _ (List.Mem.tail _ (List.Mem.tail _ (List.Mem.head _)))) | exact List.Mem.tail _ (List.Mem.tail _ (List.Mem.tail _ (List.Mem.tail _ (List.Mem.tail _ (List.Mem.head _))))) | exact List.Mem.tail _ (List.Mem.tail _ (List.Mem.tail _ (List.Mem.tail _ (List.Mem.tail _ (List.Mem.tail _ (List.Mem.head _)))))) | exact List.Mem.tail _ (List.Mem.tail _ (List.Mem.tail _ (List.Mem.tail _ (List.Mem.tail _ (List.Mem.tail _ (List.Mem.tail _ (List.Mem.head _)))))))
    refine zpcF (M := (zh197, zc197)) 197 5 rfl zckm197 (fun _ _ _ _ h => h) ?_
    refine zdecF (show ¬ I 2 48 = Int32.ofInt 32 from den (by rw [hw 48 119 rfl, oI (by decide) (by decide)] <;> omega)) (fun _ => ?_)
    refine zdecF (show ¬ I 2 49 = Int32.ofInt 32 from den (by rw [hw 49 105 rfl, oI (by decide) (by decide)] <;> omega)) (fun _ => ?_)
    refine zdecF (show ¬ I 2 50 = Int32.ofInt 32 from den (by rw [hw 50 110 rfl, oI (by decide) (by decide)] <;> omega)) (fun _ => ?_)
    refine zdecF (show ¬ I 2 51 = Int32.ofInt 32 from den (by rw [hw 51 100 rfl, oI (by decide) (by decide)] <;> omega)) (fun _ => ?_)
    refine zdecT (show I 2 52 = Int32.ofInt 32 from deq (by rw [hw 52 32 rfl, oI (by decide) (by decide)] <;> omega)) (fun _ => ?_)
    refine zdecT (show Int32.ofInt 4 = (Int32.ofNat (pa + m)) - (Int32.ofNat pa) from deq (by rw [oI (by decide) (by decide), hba] <;> omega)) (fun _ => ?_)
    refine zdecF b0 (fun _ => ?_)
    refine zdecT (show I 2 48 = I 1 (Int32.ofNat pa + Int32.ofInt 0).toNatClampNeg from deq (by rw [hw 48 119 rfl, t0] <;> omega)) (fun _ => ?_)
    refine zdecF b1 (fun _ => ?_)
    refine zdecT (show I 2 49 = I 1 (Int32.ofNat pa + Int32.ofInt 1).toNatClampNeg from deq (by rw [hw 49 105 rfl, t1] <;> omega)) (fun _ => ?_)
    refine zdecF b2 (fun _ => ?_)
    refine zdecT (show I 2 50 = I 1 (Int32.ofNat pa + Int32.ofInt 2).toNatClampNeg from deq (by rw [hw 50 110 rfl, t2] <;> omega)) (fun _ => ?_)
    refine zdecF b3 (fun _ => ?_)
    refine zdecT (show I 2 51 = I 1 (Int32.ofNat pa + Int32.ofInt 3).toNatClampNeg from deq (by rw [hw 51 100 rfl, t3] <;> omega)) (fun _ => ?_)
    exact hY ⟨hm, c0, c1, c2, c3⟩
  · refine zpcF (M := (zh197, zc197)) 197 5 rfl zckm197 (fun _ _ _ _ h => h) ?_
    refine zdecF (show ¬ I 2 48 = Int32.ofInt 32 from den (by rw [hw 48 119 rfl, oI (by decide) (by decide)] <;> omega)) (fun _ => ?_)
    refine zdecF (show ¬ I 2 49 = Int32.ofInt 32 from den (by rw [hw 49 105 rfl, oI (by decide) (by decide)] <;> omega)) (fun _ => ?_)
    refine zdecF (show ¬ I 2 50 = Int32.ofInt 32 from den (by rw [hw 50 110 rfl, oI (by decide) (by decide)] <;> omega)) (fun _ => ?_)
    refine zdecF (show ¬ I 2 51 = Int32.ofInt 32 from den (by rw [hw 51 100 rfl, oI (by decide) (by decide)] <;> omega)) (fun _ => ?_)
    refine zdecT (show I 2 52 = Int32.ofInt 32 from deq (by rw [hw 52 32 rfl, oI (by decide) (by decide)] <;> omega)) (fun _ => ?_)
    refine zdecF (show ¬ Int32.ofInt 4 = (Int32.ofNat (pa + m)) - (Int32.ofNat pa) from den (by rw [oI (by decide) (by decide), hba] <;> omega)) (fun _ => ?_)
    refine zX_sub (fun x hx => ?_) (hN (by omega))
    simp only [List.mem_cons, List.not_mem_nil, or_false] at hx
    rcases hx with rfl | rfl | rfl | rfl | rfl
    all_goals first | exact List.Mem.head _ | exact List.Mem.tail _ (List.Mem.head _) | exact List.Mem.tail _ (List.Mem.tail _ (List.Mem.head _)) | exact List.Mem.tail _ (List.Mem.tail _ (List.Mem.tail _ (List.Mem.head _))) | exact List.Mem.tail _ (List.Mem.tail _ (List.Mem.tail _ (List.Mem.tail _ (List.Mem.head _)))) | exact List.Mem.tail _ (List.Mem.tail _ (List.Mem.tail _ (List.Mem.tail _ (List.Mem.tail _ (List.Mem.head _))))) | exact List.Mem.tail _ (List.Mem.tail _ (List.Mem.tail _ (List.Mem.tail _ (List.Mem.tail _ (List.Mem.tail _ (List.Mem.head _)))))) | exact List.Mem.tail _ (List.Mem.tail _ (List.Mem.tail _ (List.Mem.tail _ (List.Mem.tail _ (List.Mem.tail _ (List.Mem.tail _ (List.Mem.head _)))))))
set_option maxRecDepth 100000 in
set_option maxHeartbeats 4000000 in
theorem zw11 {l : Launch} {Γ : zG} {d : Nat} {Kp : Option Value → zH → Prop} {I : zHI} {Lg : zHL} {P : zHP} {T : Nat → Int} {pa m : Nat} (hH : wH I P T pa m) (hY : mtW T pa m 11 → Kp (some (.int (Int32.ofInt 11))) (zshM, I, Lg, P))
    (hN : ¬ mtW T pa m 11 → zX l Γ false (d + 1) zh197 (zMQ' Γ false zh197 Kp) 0 0 5 [(4, .int (Int32.ofInt 57)), (3, .int (Int32.ofInt 12)), (0, .ref 0), (1, .int (Int32.ofNat pa)), (2, .int (Int32.ofNat (pa + m)))] [] (zshM, I, Lg, P)) : zX l Γ false (d + 1) zh197 (zMQ' Γ false zh197 Kp) 0 0 5 [(4, .int (Int32.ofInt 53)), (3, .int (Int32.ofInt 11)), (0, .ref 0), (1, .int (Int32.ofNat pa)), (2, .int (Int32.ofNat (pa + m)))] [] (zshM, I, Lg, P) := by
  obtain ⟨hP0, hP3, hw, hm1, hpm, hT⟩ := hH
  have hba : (Int32.ofNat (pa + m) - Int32.ofNat pa).toInt = (m : Int) := by
    rw [Int32.toInt_sub, oN (by omega), oN (by omega), s32r _ (by show (-2147483648 : Int) ≤ _; omega) (by show _ ≤ (2147483647 : Int); omega)]
    omega
  have eP := wPx hP0 hP3
  rw [eP] at hY hN ⊢
  have hN : ¬ (m = 3 ∧ T pa = 97 ∧ T (pa + 1) = 110 ∧ T (pa + 2) = 100) → _ := hN
  have hY : (m = 3 ∧ T pa = 97 ∧ T (pa + 1) = 110 ∧ T (pa + 2) = 100) → _ := hY
  by_cases hm : m = 3
  · have q0 : (I 1 (Int32.ofNat pa + Int32.ofInt 0).toNatClampNeg).toInt = T pa ∧ ¬ (Int32.ofNat pa + Int32.ofInt 0 < 0 ∨ 700 ≤ (Int32.ofNat pa + Int32.ofInt 0).toNatClampNeg) := wIdx 0 (by omega) hT
    have t0 := q0.1
    have b0 := q0.2
    have q1 : (I 1 (Int32.ofNat pa + Int32.ofInt 1).toNatClampNeg).toInt = T (pa + 1) ∧ ¬ (Int32.ofNat pa + Int32.ofInt 1 < 0 ∨ 700 ≤ (Int32.ofNat pa + Int32.ofInt 1).toNatClampNeg) := wIdx 1 (by omega) hT
    have t1 := q1.1
    have b1 := q1.2
    have q2 : (I 1 (Int32.ofNat pa + Int32.ofInt 2).toNatClampNeg).toInt = T (pa + 2) ∧ ¬ (Int32.ofNat pa + Int32.ofInt 2 < 0 ∨ 700 ≤ (Int32.ofNat pa + Int32.ofInt 2).toNatClampNeg) := wIdx 2 (by omega) hT
    have t2 := q2.1
    have b2 := q2.2
    by_cases c0 : T pa = 97
    case neg =>
      refine zpcF (M := (zh197, zc197)) 197 5 rfl zckm197 (fun _ _ _ _ h => h) ?_
      refine zdecF (show ¬ I 2 53 = Int32.ofInt 32 from den (by rw [hw 53 97 rfl, oI (by decide) (by decide)] <;> omega)) (fun _ => ?_)
      refine zdecF (show ¬ I 2 54 = Int32.ofInt 32 from den (by rw [hw 54 110 rfl, oI (by decide) (by decide)] <;> omega)) (fun _ => ?_)
      refine zdecF (show ¬ I 2 55 = Int32.ofInt 32 from den (by rw [hw 55 100 rfl, oI (by decide) (by decide)] <;> omega)) (fun _ => ?_)
      refine zdecT (show I 2 56 = Int32.ofInt 32 from deq (by rw [hw 56 32 rfl, oI (by decide) (by decide)] <;> omega)) (fun _ => ?_)
      refine zdecT (show Int32.ofInt 3 = (Int32.ofNat (pa + m)) - (Int32.ofNat pa) from deq (by rw [oI (by decide) (by decide), hba] <;> omega)) (fun _ => ?_)
      refine zdecF b0 (fun _ => ?_)
      refine zdecF (show ¬ I 2 53 = I 1 (Int32.ofNat pa + Int32.ofInt 0).toNatClampNeg from den (by rw [hw 53 97 rfl, t0] <;> omega)) (fun _ => ?_)
      refine zX_sub (fun x hx => ?_) (hN (by omega))
      simp only [List.mem_cons, List.not_mem_nil, or_false] at hx
      rcases hx with rfl | rfl | rfl | rfl | rfl
      all_goals first | exact List.Mem.head _ | exact List.Mem.tail _ (List.Mem.head _) | exact List.Mem.tail _ (List.Mem.tail _ (List.Mem.head _)) | exact List.Mem.tail _ (List.Mem.tail _ (List.Mem.tail _ (List.Mem.head _))) | exact List.Mem.tail _ (List.Mem.tail _ (List.Mem.tail _ (List.Mem.tail _ (List.Mem.head _)))) | exact List.Mem.tail _ (List.Mem.tail _ (List.Mem.tail _ (List.Mem.tail _ (List.Mem.tail _ (List.Mem.head _))))) | exact List.Mem.tail _ (List.Mem.tail _ (List.Mem.tail _ (List.Mem.tail _ (List.Mem.tail _ (List.Mem.tail _ (List.Mem.head _)))))) | exact List.Mem.tail _ (List.Mem.tail _ (List.Mem.tail _ (List.Mem.tail _ (List.Mem.tail _ (List.Mem.tail _ (List.Mem.tail _ (List.Mem.head _)))))))
    by_cases c1 : T (pa + 1) = 110
    case neg =>
      refine zpcF (M := (zh197, zc197)) 197 5 rfl zckm197 (fun _ _ _ _ h => h) ?_
      refine zdecF (show ¬ I 2 53 = Int32.ofInt 32 from den (by rw [hw 53 97 rfl, oI (by decide) (by decide)] <;> omega)) (fun _ => ?_)
      refine zdecF (show ¬ I 2 54 = Int32.ofInt 32 from den (by rw [hw 54 110 rfl, oI (by decide) (by decide)] <;> omega)) (fun _ => ?_)
      refine zdecF (show ¬ I 2 55 = Int32.ofInt 32 from den (by rw [hw 55 100 rfl, oI (by decide) (by decide)] <;> omega)) (fun _ => ?_)
      refine zdecT (show I 2 56 = Int32.ofInt 32 from deq (by rw [hw 56 32 rfl, oI (by decide) (by decide)] <;> omega)) (fun _ => ?_)
      refine zdecT (show Int32.ofInt 3 = (Int32.ofNat (pa + m)) - (Int32.ofNat pa) from deq (by rw [oI (by decide) (by decide), hba] <;> omega)) (fun _ => ?_)
      refine zdecF b0 (fun _ => ?_)
      refine zdecT (show I 2 53 = I 1 (Int32.ofNat pa + Int32.ofInt 0).toNatClampNeg from deq (by rw [hw 53 97 rfl, t0] <;> omega)) (fun _ => ?_)
      refine zdecF b1 (fun _ => ?_)
      refine zdecF (show ¬ I 2 54 = I 1 (Int32.ofNat pa + Int32.ofInt 1).toNatClampNeg from den (by rw [hw 54 110 rfl, t1] <;> omega)) (fun _ => ?_)
      refine zX_sub (fun x hx => ?_) (hN (by omega))
      simp only [List.mem_cons, List.not_mem_nil, or_false] at hx
      rcases hx with rfl | rfl | rfl | rfl | rfl
      all_goals first | exact List.Mem.head _ | exact List.Mem.tail _ (List.Mem.head _) | exact List.Mem.tail _ (List.Mem.tail _ (List.Mem.head _)) | exact List.Mem.tail _ (List.Mem.tail _ (List.Mem.tail _ (List.Mem.head _))) | exact List.Mem.tail _ (List.Mem.tail _ (List.Mem.tail _ (List.Mem.tail _ (List.Mem.head _)))) | exact List.Mem.tail _ (List.Mem.tail _ (List.Mem.tail _ (List.Mem.tail _ (List.Mem.tail _ (List.Mem.head _))))) | exact List.Mem.tail _ (List.Mem.tail _ (List.Mem.tail _ (List.Mem.tail _ (List.Mem.tail _ (List.Mem.tail _ (List.Mem.head _)))))) | exact List.Mem.tail _ (List.Mem.tail _ (List.Mem.tail _ (List.Mem.tail _ (List.Mem.tail _ (List.Mem.tail _ (List.Mem.tail _ (List.Mem.head _)))))))
    by_cases c2 : T (pa + 2) = 100
    case neg =>
      refine zpcF (M := (zh197, zc197)) 197 5 rfl zckm197 (fun _ _ _ _ h => h) ?_
      refine zdecF (show ¬ I 2 53 = Int32.ofInt 32 from den (by rw [hw 53 97 rfl, oI (by decide) (by decide)] <;> omega)) (fun _ => ?_)
      refine zdecF (show ¬ I 2 54 = Int32.ofInt 32 from den (by rw [hw 54 110 rfl, oI (by decide) (by decide)] <;> omega)) (fun _ => ?_)
      refine zdecF (show ¬ I 2 55 = Int32.ofInt 32 from den (by rw [hw 55 100 rfl, oI (by decide) (by decide)] <;> omega)) (fun _ => ?_)
      refine zdecT (show I 2 56 = Int32.ofInt 32 from deq (by rw [hw 56 32 rfl, oI (by decide) (by decide)] <;> omega)) (fun _ => ?_)
      refine zdecT (show Int32.ofInt 3 = (Int32.ofNat (pa + m)) - (Int32.ofNat pa) from deq (by rw [oI (by decide) (by decide), hba] <;> omega)) (fun _ => ?_)
      refine zdecF b0 (fun _ => ?_)
      refine zdecT (show I 2 53 = I 1 (Int32.ofNat pa + Int32.ofInt 0).toNatClampNeg from deq (by rw [hw 53 97 rfl, t0] <;> omega)) (fun _ => ?_)
      refine zdecF b1 (fun _ => ?_)
      refine zdecT (show I 2 54 = I 1 (Int32.ofNat pa + Int32.ofInt 1).toNatClampNeg from deq (by rw [hw 54 110 rfl, t1] <;> omega)) (fun _ => ?_)
      refine zdecF b2 (fun _ => ?_)
      refine zdecF (show ¬ I 2 55 = I 1 (Int32.ofNat pa + Int32.ofInt 2).toNatClampNeg from den (by rw [hw 55 100 rfl, t2] <;> omega)) (fun _ => ?_)
      refine zX_sub (fun x hx => ?_) (hN (by omega))
      simp only [List.mem_cons, List.not_mem_nil, or_false] at hx
      rcases hx with rfl | rfl | rfl | rfl | rfl
      all_goals first | exact List.Mem.head _ | exact List.Mem.tail _ (List.Mem.head _) | exact List.Mem.tail _ (List.Mem.tail _ (List.Mem.head _)) | exact List.Mem.tail _ (List.Mem.tail _ (List.Mem.tail _ (List.Mem.head _))) | exact List.Mem.tail _ (List.Mem.tail _ (List.Mem.tail _ (List.Mem.tail _ (List.Mem.head _)))) | exact List.Mem.tail _ (List.Mem.tail _ (List.Mem.tail _ (List.Mem.tail _ (List.Mem.tail _ (List.Mem.head _))))) | exact List.Mem.tail _ (List.Mem.tail _ (List.Mem.tail _ (List.Mem.tail _ (List.Mem.tail _ (List.Mem.tail _ (List.Mem.head _)))))) | exact List.Mem.tail _ (List.Mem.tail _ (List.Mem.tail _ (List.Mem.tail _ (List.Mem.tail _ (List.Mem.tail _ (List.Mem.tail _ (List.Mem.head _)))))))
    refine zpcF (M := (zh197, zc197)) 197 5 rfl zckm197 (fun _ _ _ _ h => h) ?_
    refine zdecF (show ¬ I 2 53 = Int32.ofInt 32 from den (by rw [hw 53 97 rfl, oI (by decide) (by decide)] <;> omega)) (fun _ => ?_)
    refine zdecF (show ¬ I 2 54 = Int32.ofInt 32 from den (by rw [hw 54 110 rfl, oI (by decide) (by decide)] <;> omega)) (fun _ => ?_)
    refine zdecF (show ¬ I 2 55 = Int32.ofInt 32 from den (by rw [hw 55 100 rfl, oI (by decide) (by decide)] <;> omega)) (fun _ => ?_)
    refine zdecT (show I 2 56 = Int32.ofInt 32 from deq (by rw [hw 56 32 rfl, oI (by decide) (by decide)] <;> omega)) (fun _ => ?_)
    refine zdecT (show Int32.ofInt 3 = (Int32.ofNat (pa + m)) - (Int32.ofNat pa) from deq (by rw [oI (by decide) (by decide), hba] <;> omega)) (fun _ => ?_)
    refine zdecF b0 (fun _ => ?_)
    refine zdecT (show I 2 53 = I 1 (Int32.ofNat pa + Int32.ofInt 0).toNatClampNeg from deq (by rw [hw 53 97 rfl, t0] <;> omega)) (fun _ => ?_)
    refine zdecF b1 (fun _ => ?_)
    refine zdecT (show I 2 54 = I 1 (Int32.ofNat pa + Int32.ofInt 1).toNatClampNeg from deq (by rw [hw 54 110 rfl, t1] <;> omega)) (fun _ => ?_)
    refine zdecF b2 (fun _ => ?_)
    refine zdecT (show I 2 55 = I 1 (Int32.ofNat pa + Int32.ofInt 2).toNatClampNeg from deq (by rw [hw 55 100 rfl, t2] <;> omega)) (fun _ => ?_)
    exact hY ⟨hm, c0, c1, c2⟩
  · refine zpcF (M := (zh197, zc197)) 197 5 rfl zckm197 (fun _ _ _ _ h => h) ?_
    refine zdecF (show ¬ I 2 53 = Int32.ofInt 32 from den (by rw [hw 53 97 rfl, oI (by decide) (by decide)] <;> omega)) (fun _ => ?_)
    refine zdecF (show ¬ I 2 54 = Int32.ofInt 32 from den (by rw [hw 54 110 rfl, oI (by decide) (by decide)] <;> omega)) (fun _ => ?_)
    refine zdecF (show ¬ I 2 55 = Int32.ofInt 32 from den (by rw [hw 55 100 rfl, oI (by decide) (by decide)] <;> omega)) (fun _ => ?_)
    refine zdecT (show I 2 56 = Int32.ofInt 32 from deq (by rw [hw 56 32 rfl, oI (by decide) (by decide)] <;> omega)) (fun _ => ?_)
    refine zdecF (show ¬ Int32.ofInt 3 = (Int32.ofNat (pa + m)) - (Int32.ofNat pa) from den (by rw [oI (by decide) (by decide), hba] <;> omega)) (fun _ => ?_)
    refine zX_sub (fun x hx => ?_) (hN (by omega))
    simp only [List.mem_cons, List.not_mem_nil, or_false] at hx
    rcases hx with rfl | rfl | rfl | rfl | rfl
    all_goals first | exact List.Mem.head _ | exact List.Mem.tail _ (List.Mem.head _) | exact List.Mem.tail _ (List.Mem.tail _ (List.Mem.head _)) | exact List.Mem.tail _ (List.Mem.tail _ (List.Mem.tail _ (List.Mem.head _))) | exact List.Mem.tail _ (List.Mem.tail _ (List.Mem.tail _ (List.Mem.tail _ (List.Mem.head _)))) | exact List.Mem.tail _ (List.Mem.tail _ (List.Mem.tail _ (List.Mem.tail _ (List.Mem.tail _ (List.Mem.head _))))) | exact List.Mem.tail _ (List.Mem.tail _ (List.Mem.tail _ (List.Mem.tail _ (List.Mem.tail _ (List.Mem.tail _ (List.Mem.head _)))))) | exact List.Mem.tail _ (List.Mem.tail _ (List.Mem.tail _ (List.Mem.tail _ (List.Mem.tail _ (List.Mem.tail _ (List.Mem.tail _ (List.Mem.head _)))))))
