set_option maxRecDepth 100000 in
set_option maxHeartbeats 4000000 in
theorem zw18 {l : Launch} {Γ : zG} {d : Nat} {Kp : Option Value → zH → Prop} {I : zHI} {Lg : zHL} {P : zHP} {T : Nat → Int} {pa m : Nat} (hH : wH I P T pa m) (hY : mtW T pa m 18 → Kp (some (.int (Int32.ofInt 18))) (zshM, I, Lg, P))
    (hN : ¬ mtW T pa m 18 → zX l Γ false (d + 1) zh197 (zMQ' Γ false zh197 Kp) 0 0 5 [(4, .int (Int32.ofInt 92)), (3, .int (Int32.ofInt 19)), (0, .ref 0), (1, .int (Int32.ofNat pa)), (2, .int (Int32.ofNat (pa + m)))] [] (zshM, I, Lg, P)) : zX l Γ false (d + 1) zh197 (zMQ' Γ false zh197 Kp) 0 0 5 [(4, .int (Int32.ofInt 88)), (3, .int (Int32.ofInt 18)), (0, .ref 0), (1, .int (Int32.ofNat pa)), (2, .int (Int32.ofNat (pa + m)))] [] (zshM, I, Lg, P) := by
  obtain ⟨hP0, hP3, hw, hm1, hpm, hT⟩ := hH
  have hba : (Int32.ofNat (pa + m) - Int32.ofNat pa).toInt = (m : Int) := by
    rw [Int32.toInt_sub, oN (by omega), oN (by omega), s32r _ (by show (-2147483648 : Int) ≤ _; omega) (by show _ ≤ (2147483647 : Int); omega)]
    omega
  have eP := wPx hP0 hP3
  rw [eP] at hY hN ⊢
  have hN : ¬ (m = 3 ∧ T pa = 119 ∧ T (pa + 1) = 101 ∧ T (pa + 2) = 116) → _ := hN
  have hY : (m = 3 ∧ T pa = 119 ∧ T (pa + 1) = 101 ∧ T (pa + 2) = 116) → _ := hY
  by_cases hm : m = 3
  · have q0 : (I 1 (Int32.ofNat pa + Int32.ofInt 0).toNatClampNeg).toInt = T pa ∧ ¬ (Int32.ofNat pa + Int32.ofInt 0 < 0 ∨ 700 ≤ (Int32.ofNat pa + Int32.ofInt 0).toNatClampNeg) := wIdx 0 (by omega) hT
    have t0 := q0.1
    have b0 := q0.2
    have q1 : (I 1 (Int32.ofNat pa + Int32.ofInt 1).toNatClampNeg).toInt = T (pa + 1) ∧ ¬ (Int32.ofNat pa + Int32.ofInt 1 < 0 ∨ 700 ≤ (Int32.ofNat pa + Int32.ofInt 1).toNatClampNeg) := wIdx 1 (by omega) hT
    have t1 := q1.1
    have b1 := q1.2
    have q2 : (I 1 (Int32.ofNat pa + Int32.ofInt 2).toNatClampNeg).toInt = T (pa + 2) ∧ ¬ (Int32.ofNat pa + Int32.ofInt 2 < 0 ∨ 700 ≤ (Int32.ofNat pa + Int32.ofInt 2).toNatClampNeg) := wIdx 2 (by omega) hT
    have t2 := q2.1
    have b2 := q2.2
    by_cases c0 : T pa = 119
    case neg =>
      refine zpcF (M := (zh197, zc197)) 197 5 rfl zckm197 (fun _ _ _ _ h => h) ?_
      refine zdecF (show ¬ I 2 88 = Int32.ofInt 32 from den (by rw [hw 88 119 rfl, oI (by decide) (by decide)] <;> omega)) (fun _ => ?_)
      refine zdecF (show ¬ I 2 89 = Int32.ofInt 32 from den (by rw [hw 89 101 rfl, oI (by decide) (by decide)] <;> omega)) (fun _ => ?_)
      refine zdecF (show ¬ I 2 90 = Int32.ofInt 32 from den (by rw [hw 90 116 rfl, oI (by decide) (by decide)] <;> omega)) (fun _ => ?_)
      refine zdecT (show I 2 91 = Int32.ofInt 32 from deq (by rw [hw 91 32 rfl, oI (by decide) (by decide)] <;> omega)) (fun _ => ?_)
      refine zdecT (show Int32.ofInt 3 = (Int32.ofNat (pa + m)) - (Int32.ofNat pa) from deq (by rw [oI (by decide) (by decide), hba] <;> omega)) (fun _ => ?_)
      refine zdecF b0 (fun _ => ?_)
      refine zdecF (show ¬ I 2 88 = I 1 (Int32.ofNat pa + Int32.ofInt 0).toNatClampNeg from den (by rw [hw 88 119 rfl, t0] <;> omega)) (fun _ => ?_)
      refine zX_sub (fun x hx => ?_) (hN (by omega))
      simp only [List.mem_cons, List.not_mem_nil, or_false] at hx
      rcases hx with rfl | rfl | rfl | rfl | rfl
      all_goals first | exact List.Mem.head _ | exact List.Mem.tail _ (List.Mem.head _) | exact List.Mem.tail _ (List.Mem.tail _ (List.Mem.head _)) | exact List.Mem.tail _ (List.Mem.tail _ (List.Mem.tail _ (List.Mem.head _))) | exact List.Mem.tail _ (List.Mem.tail _ (List.Mem.tail _ (List.Mem.tail _ (List.Mem.head _)))) | exact List.Mem.tail _ (List.Mem.tail _ (List.Mem.tail _ (List.Mem.tail _ (List.Mem.tail _ (List.Mem.head _))))) | exact List.Mem.tail _ (List.Mem.tail _ (List.Mem.tail _ (List.Mem.tail _ (List.Mem.tail _ (List.Mem.tail _ (List.Mem.head _)))))) | exact List.Mem.tail _ (List.Mem.tail _ (List.Mem.tail _ (List.Mem.tail _ (List.Mem.tail _ (List.Mem.tail _ (List.Mem.tail _ (List.Mem.head _)))))))
    by_cases c1 : T (pa + 1) = 101
    case neg =>
      refine zpcF (M := (zh197, zc197)) 197 5 rfl zckm197 (fun _ _ _ _ h => h) ?_
      refine zdecF (show ¬ I 2 88 = Int32.ofInt 32 from den (by rw [hw 88 119 rfl, oI (by decide) (by decide)] <;> omega)) (fun _ => ?_)
      refine zdecF (show ¬ I 2 89 = Int32.ofInt 32 from den (by rw [hw 89 101 rfl, oI (by decide) (by decide)] <;> omega)) (fun _ => ?_)
      refine zdecF (show ¬ I 2 90 = Int32.ofInt 32 from den (by rw [hw 90 116 rfl, oI (by decide) (by decide)] <;> omega)) (fun _ => ?_)
      refine zdecT (show I 2 91 = Int32.ofInt 32 from deq (by rw [hw 91 32 rfl, oI (by decide) (by decide)] <;> omega)) (fun _ => ?_)
      refine zdecT (show Int32.ofInt 3 = (Int32.ofNat (pa + m)) - (Int32.ofNat pa) from deq (by rw [oI (by decide) (by decide), hba] <;> omega)) (fun _ => ?_)
      refine zdecF b0 (fun _ => ?_)
      refine zdecT (show I 2 88 = I 1 (Int32.ofNat pa + Int32.ofInt 0).toNatClampNeg from deq (by rw [hw 88 119 rfl, t0] <;> omega)) (fun _ => ?_)
      refine zdecF b1 (fun _ => ?_)
      refine zdecF (show ¬ I 2 89 = I 1 (Int32.ofNat pa + Int32.ofInt 1).toNatClampNeg from den (by rw [hw 89 101 rfl, t1] <;> omega)) (fun _ => ?_)
      refine zX_sub (fun x hx => ?_) (hN (by omega))
      simp only [List.mem_cons, List.not_mem_nil, or_false] at hx
      rcases hx with rfl | rfl | rfl | rfl | rfl
      all_goals first | exact List.Mem.head _ | exact List.Mem.tail _ (List.Mem.head _) | exact List.Mem.tail _ (List.Mem.tail _ (List.Mem.head _)) | exact List.Mem.tail _ (List.Mem.tail _ (List.Mem.tail _ (List.Mem.head _))) | exact List.Mem.tail _ (List.Mem.tail _ (List.Mem.tail _ (List.Mem.tail _ (List.Mem.head _)))) | exact List.Mem.tail _ (List.Mem.tail _ (List.Mem.tail _ (List.Mem.tail _ (List.Mem.tail _ (List.Mem.head _))))) | exact List.Mem.tail _ (List.Mem.tail _ (List.Mem.tail _ (List.Mem.tail _ (List.Mem.tail _ (List.Mem.tail _ (List.Mem.head _)))))) | exact List.Mem.tail _ (List.Mem.tail _ (List.Mem.tail _ (List.Mem.tail _ (List.Mem.tail _ (List.Mem.tail _ (List.Mem.tail _ (List.Mem.head _)))))))
    by_cases c2 : T (pa + 2) = 116
    case neg =>
      refine zpcF (M := (zh197, zc197)) 197 5 rfl zckm197 (fun _ _ _ _ h => h) ?_
      refine zdecF (show ¬ I 2 88 = Int32.ofInt 32 from den (by rw [hw 88 119 rfl, oI (by decide) (by decide)] <;> omega)) (fun _ => ?_)
      refine zdecF (show ¬ I 2 89 = Int32.ofInt 32 from den (by rw [hw 89 101 rfl, oI (by decide) (by decide)] <;> omega)) (fun _ => ?_)
      refine zdecF (show ¬ I 2 90 = Int32.ofInt 32 from den (by rw [hw 90 116 rfl, oI (by decide) (by decide)] <;> omega)) (fun _ => ?_)
      refine zdecT (show I 2 91 = Int32.ofInt 32 from deq (by rw [hw 91 32 rfl, oI (by decide) (by decide)] <;> omega)) (fun _ => ?_)
      refine zdecT (show Int32.ofInt 3 = (Int32.ofNat (pa + m)) - (Int32.ofNat pa) from deq (by rw [oI (by decide) (by decide), hba] <;> omega)) (fun _ => ?_)
      refine zdecF b0 (fun _ => ?_)
      refine zdecT (show I 2 88 = I 1 (Int32.ofNat pa + Int32.ofInt 0).toNatClampNeg from deq (by rw [hw 88 119 rfl, t0] <;> omega)) (fun _ => ?_)
      refine zdecF b1 (fun _ => ?_)
      refine zdecT (show I 2 89 = I 1 (Int32.ofNat pa + Int32.ofInt 1).toNatClampNeg from deq (by rw [hw 89 101 rfl, t1] <;> omega)) (fun _ => ?_)
      refine zdecF b2 (fun _ => ?_)
      refine zdecF (show ¬ I 2 90 = I 1 (Int32.ofNat pa + Int32.ofInt 2).toNatClampNeg from den (by rw [hw 90 116 rfl, t2] <;> omega)) (fun _ => ?_)
      refine zX_sub (fun x hx => ?_) (hN (by omega))
      simp only [List.mem_cons, List.not_mem_nil, or_false] at hx
      rcases hx with rfl | rfl | rfl | rfl | rfl
      all_goals first | exact List.Mem.head _ | exact List.Mem.tail _ (List.Mem.head _) | exact List.Mem.tail _ (List.Mem.tail _ (List.Mem.head _)) | exact List.Mem.tail _ (List.Mem.tail _ (List.Mem.tail _ (List.Mem.head _))) | exact List.Mem.tail _ (List.Mem.tail _ (List.Mem.tail _ (List.Mem.tail _ (List.Mem.head _)))) | exact List.Mem.tail _ (List.Mem.tail _ (List.Mem.tail _ (List.Mem.tail _ (List.Mem.tail _ (List.Mem.head _))))) | exact List.Mem.tail _ (List.Mem.tail _ (List.Mem.tail _ (List.Mem.tail _ (List.Mem.tail _ (List.Mem.tail _ (List.Mem.head _)))))) | exact List.Mem.tail _ (List.Mem.tail _ (List.Mem.tail _ (List.Mem.tail _ (List.Mem.tail _ (List.Mem.tail _ (List.Mem.tail _ (List.Mem.head _)))))))
    refine zpcF (M := (zh197, zc197)) 197 5 rfl zckm197 (fun _ _ _ _ h => h) ?_
    refine zdecF (show ¬ I 2 88 = Int32.ofInt 32 from den (by rw [hw 88 119 rfl, oI (by decide) (by decide)] <;> omega)) (fun _ => ?_)
    refine zdecF (show ¬ I 2 89 = Int32.ofInt 32 from den (by rw [hw 89 101 rfl, oI (by decide) (by decide)] <;> omega)) (fun _ => ?_)
    refine zdecF (show ¬ I 2 90 = Int32.ofInt 32 from den (by rw [hw 90 116 rfl, oI (by decide) (by decide)] <;> omega)) (fun _ => ?_)
    refine zdecT (show I 2 91 = Int32.ofInt 32 from deq (by rw [hw 91 32 rfl, oI (by decide) (by decide)] <;> omega)) (fun _ => ?_)
    refine zdecT (show Int32.ofInt 3 = (Int32.ofNat (pa + m)) - (Int32.ofNat pa) from deq (by rw [oI (by decide) (by decide), hba] <;> omega)) (fun _ => ?_)
    refine zdecF b0 (fun _ => ?_)
    refine zdecT (show I 2 88 = I 1 (Int32.ofNat pa + Int32.ofInt 0).toNatClampNeg from deq (by rw [hw 88 119 rfl, t0] <;> omega)) (fun _ => ?_)
    refine zdecF b1 (fun _ => ?_)
    refine zdecT (show I 2 89 = I 1 (Int32.ofNat pa + Int32.ofInt 1).toNatClampNeg from deq (by rw [hw 89 101 rfl, t1] <;> omega)) (fun _ => ?_)
    refine zdecF b2 (fun _ => ?_)
    refine zdecT (show I 2 90 = I 1 (Int32.ofNat pa + Int32.ofInt 2).toNatClampNeg from deq (by rw [hw 90 116 rfl, t2] <;> omega)) (fun _ => ?_)
    exact hY ⟨hm, c0, c1, c2⟩
  · refine zpcF (M := (zh197, zc197)) 197 5 rfl zckm197 (fun _ _ _ _ h => h) ?_
    refine zdecF (show ¬ I 2 88 = Int32.ofInt 32 from den (by rw [hw 88 119 rfl, oI (by decide) (by decide)] <;> omega)) (fun _ => ?_)
    refine zdecF (show ¬ I 2 89 = Int32.ofInt 32 from den (by rw [hw 89 101 rfl, oI (by decide) (by decide)] <;> omega)) (fun _ => ?_)
    refine zdecF (show ¬ I 2 90 = Int32.ofInt 32 from den (by rw [hw 90 116 rfl, oI (by decide) (by decide)] <;> omega)) (fun _ => ?_)
    refine zdecT (show I 2 91 = Int32.ofInt 32 from deq (by rw [hw 91 32 rfl, oI (by decide) (by decide)] <;> omega)) (fun _ => ?_)
    refine zdecF (show ¬ Int32.ofInt 3 = (Int32.ofNat (pa + m)) - (Int32.ofNat pa) from den (by rw [oI (by decide) (by decide), hba] <;> omega)) (fun _ => ?_)
    refine zX_sub (fun x hx => ?_) (hN (by omega))
    simp only [List.mem_cons, List.not_mem_nil, or_false] at hx
    rcases hx with rfl | rfl | rfl | rfl | rfl
    all_goals first | exact List.Mem.head _ | exact List.Mem.tail _ (List.Mem.head _) | exact List.Mem.tail _ (List.Mem.tail _ (List.Mem.head _)) | exact List.Mem.tail _ (List.Mem.tail _ (List.Mem.tail _ (List.Mem.head _))) | exact List.Mem.tail _ (List.Mem.tail _ (List.Mem.tail _ (List.Mem.tail _ (List.Mem.head _)))) | exact List.Mem.tail _ (List.Mem.tail _ (List.Mem.tail _ (List.Mem.tail _ (List.Mem.tail _ (List.Mem.head _))))) | exact List.Mem.tail _ (List.Mem.tail _ (List.Mem.tail _ (List.Mem.tail _ (List.Mem.tail _ (List.Mem.tail _ (List.Mem.head _)))))) | exact List.Mem.tail _ (List.Mem.tail _ (List.Mem.tail _ (List.Mem.tail _ (List.Mem.tail _ (List.Mem.tail _ (List.Mem.tail _ (List.Mem.head _)))))))
set_option maxRecDepth 100000 in
set_option maxHeartbeats 4000000 in
theorem zw19 {l : Launch} {Γ : zG} {d : Nat} {Kp : Option Value → zH → Prop} {I : zHI} {Lg : zHL} {P : zHP} {T : Nat → Int} {pa m : Nat} (hH : wH I P T pa m) (hY : mtW T pa m 19 → Kp (some (.int (Int32.ofInt 19))) (zshM, I, Lg, P))
    (hN : ¬ mtW T pa m 19 → zX l Γ false (d + 1) zh197 (zMQ' Γ false zh197 Kp) 0 0 5 [(4, .int (Int32.ofInt 97)), (3, .int (Int32.ofInt 20)), (0, .ref 0), (1, .int (Int32.ofNat pa)), (2, .int (Int32.ofNat (pa + m)))] [] (zshM, I, Lg, P)) : zX l Γ false (d + 1) zh197 (zMQ' Γ false zh197 Kp) 0 0 5 [(4, .int (Int32.ofInt 92)), (3, .int (Int32.ofInt 19)), (0, .ref 0), (1, .int (Int32.ofNat pa)), (2, .int (Int32.ofNat (pa + m)))] [] (zshM, I, Lg, P) := by
  obtain ⟨hP0, hP3, hw, hm1, hpm, hT⟩ := hH
  have hba : (Int32.ofNat (pa + m) - Int32.ofNat pa).toInt = (m : Int) := by
    rw [Int32.toInt_sub, oN (by omega), oN (by omega), s32r _ (by show (-2147483648 : Int) ≤ _; omega) (by show _ ≤ (2147483647 : Int); omega)]
    omega
  have eP := wPx hP0 hP3
  rw [eP] at hY hN ⊢
  have hN : ¬ (m = 4 ∧ T pa = 112 ∧ T (pa + 1) = 97 ∧ T (pa + 2) = 105 ∧ T (pa + 3) = 100) → _ := hN
  have hY : (m = 4 ∧ T pa = 112 ∧ T (pa + 1) = 97 ∧ T (pa + 2) = 105 ∧ T (pa + 3) = 100) → _ := hY
  by_cases hm : m = 4
  · have q0 : (I 1 (Int32.ofNat pa + Int32.ofInt 0).toNatClampNeg).toInt = T pa ∧ ¬ (Int32.ofNat pa + Int32.ofInt 0 < 0 ∨ 700 ≤ (Int32.ofNat pa + Int32.ofInt 0).toNatClampNeg) := wIdx 0 (by omega) hT
    have t0 := q0.1
    have b0 := q0.2
    have q1 : (I 1 (Int32.ofNat pa + Int32.ofInt 1).toNatClampNeg).toInt = T (pa + 1) ∧ ¬ (Int32.ofNat pa + Int32.ofInt 1 < 0 ∨ 700 ≤ (Int32.ofNat pa + Int32.ofInt 1).toNatClampNeg) := wIdx 1 (by omega) hT
    have t1 := q1.1
    have b1 := q1.2
    have q2 : (I 1 (Int32.ofNat pa + Int32.ofInt 2).toNatClampNeg).toInt = T (pa + 2) ∧ ¬ (Int32.ofNat pa + Int32.ofInt 2 < 0 ∨ 700 ≤ (Int32.ofNat pa + Int32.ofInt 2).toNatClampNeg) := wIdx 2 (by omega) hT
    have t2 := q2.1
    have b2 := q2.2
    have q3 : (I 1 (Int32.ofNat pa + Int32.ofInt 3).toNatClampNeg).toInt = T (pa + 3) ∧ ¬ (Int32.ofNat pa + Int32.ofInt 3 < 0 ∨ 700 ≤ (Int32.ofNat pa + Int32.ofInt 3).toNatClampNeg) := wIdx 3 (by omega) hT
    have t3 := q3.1
    have b3 := q3.2
    by_cases c0 : T pa = 112
    case neg =>
      refine zpcF (M := (zh197, zc197)) 197 5 rfl zckm197 (fun _ _ _ _ h => h) ?_
      refine zdecF (show ¬ I 2 92 = Int32.ofInt 32 from den (by rw [hw 92 112 rfl, oI (by decide) (by decide)] <;> omega)) (fun _ => ?_)
      refine zdecF (show ¬ I 2 93 = Int32.ofInt 32 from den (by rw [hw 93 97 rfl, oI (by decide) (by decide)] <;> omega)) (fun _ => ?_)
      refine zdecF (show ¬ I 2 94 = Int32.ofInt 32 from den (by rw [hw 94 105 rfl, oI (by decide) (by decide)] <;> omega)) (fun _ => ?_)
      refine zdecF (show ¬ I 2 95 = Int32.ofInt 32 from den (by rw [hw 95 100 rfl, oI (by decide) (by decide)] <;> omega)) (fun _ => ?_)
      refine zdecT (show I 2 96 = Int32.ofInt 32 from deq (by rw [hw 96 32 rfl, oI (by decide) (by decide)] <;> omega)) (fun _ => ?_)
      refine zdecT (show Int32.ofInt 4 = (Int32.ofNat (pa + m)) - (Int32.ofNat pa) from deq (by rw [oI (by decide) (by decide), hba] <;> omega)) (fun _ => ?_)
      refine zdecF b0 (fun _ => ?_)
      refine zdecF (show ¬ I 2 92 = I 1 (Int32.ofNat pa + Int32.ofInt 0).toNatClampNeg from den (by rw [hw 92 112 rfl, t0] <;> omega)) (fun _ => ?_)
      refine zX_sub (fun x hx => ?_) (hN (by omega))
      simp only [List.mem_cons, List.not_mem_nil, or_false] at hx
      rcases hx with rfl | rfl | rfl | rfl | rfl
      all_goals first | exact List.Mem.head _ | exact List.Mem.tail _ (List.Mem.head _) | exact List.Mem.tail _ (List.Mem.tail _ (List.Mem.head _)) | exact List.Mem.tail _ (List.Mem.tail _ (List.Mem.tail _ (List.Mem.head _))) | exact List.Mem.tail _ (List.Mem.tail _ (List.Mem.tail _ (List.Mem.tail _ (List.Mem.head _)))) | exact List.Mem.tail _ (List.Mem.tail _ (List.Mem.tail _ (List.Mem.tail _ (List.Mem.tail _ (List.Mem.head _))))) | exact List.Mem.tail _ (List.Mem.tail _ (List.Mem.tail _ (List.Mem.tail _ (List.Mem.tail _ (List.Mem.tail _ (List.Mem.head _)))))) | exact List.Mem.tail _ (List.Mem.tail _ (List.Mem.tail _ (List.Mem.tail _ (List.Mem.tail _ (List.Mem.tail _ (List.Mem.tail _ (List.Mem.head _)))))))
    by_cases c1 : T (pa + 1) = 97
    case neg =>
      refine zpcF (M := (zh197, zc197)) 197 5 rfl zckm197 (fun _ _ _ _ h => h) ?_
      refine zdecF (show ¬ I 2 92 = Int32.ofInt 32 from den (by rw [hw 92 112 rfl, oI (by decide) (by decide)] <;> omega)) (fun _ => ?_)
      refine zdecF (show ¬ I 2 93 = Int32.ofInt 32 from den (by rw [hw 93 97 rfl, oI (by decide) (by decide)] <;> omega)) (fun _ => ?_)
      refine zdecF (show ¬ I 2 94 = Int32.ofInt 32 from den (by rw [hw 94 105 rfl, oI (by decide) (by decide)] <;> omega)) (fun _ => ?_)
      refine zdecF (show ¬ I 2 95 = Int32.ofInt 32 from den (by rw [hw 95 100 rfl, oI (by decide) (by decide)] <;> omega)) (fun _ => ?_)
      refine zdecT (show I 2 96 = Int32.ofInt 32 from deq (by rw [hw 96 32 rfl, oI (by decide) (by decide)] <;> omega)) (fun _ => ?_)
      refine zdecT (show Int32.ofInt 4 = (Int32.ofNat (pa + m)) - (Int32.ofNat pa) from deq (by rw [oI (by decide) (by decide), hba] <;> omega)) (fun _ => ?_)
      refine zdecF b0 (fun _ => ?_)
      refine zdecT (show I 2 92 = I 1 (Int32.ofNat pa + Int32.ofInt 0).toNatClampNeg from deq (by rw [hw 92 112 rfl, t0] <;> omega)) (fun _ => ?_)
      refine zdecF b1 (fun _ => ?_)
      refine zdecF (show ¬ I 2 93 = I 1 (Int32.ofNat pa + Int32.ofInt 1).toNatClampNeg from den (by rw [hw 93 97 rfl, t1] <;> omega)) (fun _ => ?_)
      refine zX_sub (fun x hx => ?_) (hN (by omega))
      simp only [List.mem_cons, List.not_mem_nil, or_false] at hx
      rcases hx with rfl | rfl | rfl | rfl | rfl
      all_goals first | exact List.Mem.head _ | exact List.Mem.tail _ (List.Mem.head _) | exact List.Mem.tail _ (List.Mem.tail _ (List.Mem.head _)) | exact List.Mem.tail _ (List.Mem.tail _ (List.Mem.tail _ (List.Mem.head _))) | exact List.Mem.tail _ (List.Mem.tail _ (List.Mem.tail _ (List.Mem.tail _ (List.Mem.head _)))) | exact List.Mem.tail _ (List.Mem.tail _ (List.Mem.tail _ (List.Mem.tail _ (List.Mem.tail _ (List.Mem.head _))))) | exact List.Mem.tail _ (List.Mem.tail _ (List.Mem.tail _ (List.Mem.tail _ (List.Mem.tail _ (List.Mem.tail _ (List.Mem.head _)))))) | exact List.Mem.tail _ (List.Mem.tail _ (List.Mem.tail _ (List.Mem.tail _ (List.Mem.tail _ (List.Mem.tail _ (List.Mem.tail _ (List.Mem.head _)))))))
    by_cases c2 : T (pa + 2) = 105
    case neg =>
      refine zpcF (M := (zh197, zc197)) 197 5 rfl zckm197 (fun _ _ _ _ h => h) ?_
      refine zdecF (show ¬ I 2 92 = Int32.ofInt 32 from den (by rw [hw 92 112 rfl, oI (by decide) (by decide)] <;> omega)) (fun _ => ?_)
      refine zdecF (show ¬ I 2 93 = Int32.ofInt 32 from den (by rw [hw 93 97 rfl, oI (by decide) (by decide)] <;> omega)) (fun _ => ?_)
      refine zdecF (show ¬ I 2 94 = Int32.ofInt 32 from den (by rw [hw 94 105 rfl, oI (by decide) (by decide)] <;> omega)) (fun _ => ?_)
      refine zdecF (show ¬ I 2 95 = Int32.ofInt 32 from den (by rw [hw 95 100 rfl, oI (by decide) (by decide)] <;> omega)) (fun _ => ?_)
      refine zdecT (show I 2 96 = Int32.ofInt 32 from deq (by rw [hw 96 32 rfl, oI (by decide) (by decide)] <;> omega)) (fun _ => ?_)
      refine zdecT (show Int32.ofInt 4 = (Int32.ofNat (pa + m)) - (Int32.ofNat pa) from deq (by rw [oI (by decide) (by decide), hba] <;> omega)) (fun _ => ?_)
      refine zdecF b0 (fun _ => ?_)
      refine zdecT (show I 2 92 = I 1 (Int32.ofNat pa + Int32.ofInt 0).toNatClampNeg from deq (by rw [hw 92 112 rfl, t0] <;> omega)) (fun _ => ?_)
      refine zdecF b1 (fun _ => ?_)
      refine zdecT (show I 2 93 = I 1 (Int32.ofNat pa + Int32.ofInt 1).toNatClampNeg from deq (by rw [hw 93 97 rfl, t1] <;> omega)) (fun _ => ?_)
      refine zdecF b2 (fun _ => ?_)
      refine zdecF (show ¬ I 2 94 = I 1 (Int32.ofNat pa + Int32.ofInt 2).toNatClampNeg from den (by rw [hw 94 105 rfl, t2] <;> omega)) (fun _ => ?_)
      refine zX_sub (fun x hx => ?_) (hN (by omega))
      simp only [List.mem_cons, List.not_mem_nil, or_false] at hx
      rcases hx with rfl | rfl | rfl | rfl | rfl
      all_goals first | exact List.Mem.head _ | exact List.Mem.tail _ (List.Mem.head _) | exact List.Mem.tail _ (List.Mem.tail _ (List.Mem.head _)) | exact List.Mem.tail _ (List.Mem.tail _ (List.Mem.tail _ (List.Mem.head _))) | exact List.Mem.tail _ (List.Mem.tail _ (List.Mem.tail _ (List.Mem.tail _ (List.Mem.head _)))) | exact List.Mem.tail _ (List.Mem.tail _ (List.Mem.tail _ (List.Mem.tail _ (List.Mem.tail _ (List.Mem.head _))))) | exact List.Mem.tail _ (List.Mem.tail _ (List.Mem.tail _ (List.Mem.tail _ (List.Mem.tail _ (List.Mem.tail _ (List.Mem.head _)))))) | exact List.Mem.tail _ (List.Mem.tail _ (List.Mem.tail _ (List.Mem.tail _ (List.Mem.tail _ (List.Mem.tail _ (List.Mem.tail _ (List.Mem.head _)))))))
    by_cases c3 : T (pa + 3) = 100
    case neg =>
      refine zpcF (M := (zh197, zc197)) 197 5 rfl zckm197 (fun _ _ _ _ h => h) ?_
      refine zdecF (show ¬ I 2 92 = Int32.ofInt 32 from den (by rw [hw 92 112 rfl, oI (by decide) (by decide)] <;> omega)) (fun _ => ?_)
      refine zdecF (show ¬ I 2 93 = Int32.ofInt 32 from den (by rw [hw 93 97 rfl, oI (by decide) (by decide)] <;> omega)) (fun _ => ?_)
      refine zdecF (show ¬ I 2 94 = Int32.ofInt 32 from den (by rw [hw 94 105 rfl, oI (by decide) (by decide)] <;> omega)) (fun _ => ?_)
      refine zdecF (show ¬ I 2 95 = Int32.ofInt 32 from den (by rw [hw 95 100 rfl, oI (by decide) (by decide)] <;> omega)) (fun _ => ?_)
      refine zdecT (show I 2 96 = Int32.ofInt 32 from deq (by rw [hw 96 32 rfl, oI (by decide) (by decide)] <;> omega)) (fun _ => ?_)
      refine zdecT (show Int32.ofInt 4 = (Int32.ofNat (pa + m)) - (Int32.ofNat pa) from deq (by rw [oI (by decide) (by decide), hba] <;> omega)) (fun _ => ?_)
      refine zdecF b0 (fun _ => ?_)
      refine zdecT (show I 2 92 = I 1 (Int32.ofNat pa + Int32.ofInt 0).toNatClampNeg from deq (by rw [hw 92 112 rfl, t0] <;> omega)) (fun _ => ?_)
      refine zdecF b1 (fun _ => ?_)
      refine zdecT (show I 2 93 = I 1 (Int32.ofNat pa + Int32.ofInt 1).toNatClampNeg from deq (by rw [hw 93 97 rfl, t1] <;> omega)) (fun _ => ?_)
      refine zdecF b2 (fun _ => ?_)
      refine zdecT (show I 2 94 = I 1 (Int32.ofNat pa + Int32.ofInt 2).toNatClampNeg from deq (by rw [hw 94 105 rfl, t2] <;> omega)) (fun _ => ?_)
      refine zdecF b3 (fun _ => ?_)
      refine zdecF (show ¬ I 2 95 = I 1 (Int32.ofNat pa + Int32.ofInt 3).toNatClampNeg from den (by rw [hw 95 100 rfl, t3] <;> omega)) (fun _ => ?_)
      refine zX_sub (fun x hx => ?_) (hN (by omega))
      simp only [List.mem_cons, List.not_mem_nil, or_false] at hx
      rcases hx with rfl | rfl | rfl | rfl | rfl
      all_goals first | exact List.Mem.head _ | exact List.Mem.tail _ (List.Mem.head _) | exact List.Mem.tail _ (List.Mem.tail _ (List.Mem.head _)) | exact List.Mem.tail _ (List.Mem.tail _ (List.Mem.tail _ (List.Mem.head _))) | exact List.Mem.tail _ (List.Mem.tail _ (List.Mem.tail _ (List.Mem.tail _ (List.Mem.head _)))) | exact List.Mem.tail _ (List.Mem.tail _ (List.Mem.tail _ (List.Mem.tail _ (List.Mem.tail _ (List.Mem.head _))))) | exact List.Mem.tail _ (List.Mem.tail _ (List.Mem.tail _ (List.Mem.tail _ (List.Mem.tail _ (List.Mem.tail _ (List.Mem.head _)))))) | exact List.Mem.tail _ (List.Mem.tail _ (List.Mem.tail _ (List.Mem.tail _ (List.Mem.tail _ (List.Mem.tail _ (List.Mem.tail _ (List.Mem.head _)))))))
    refine zpcF (M := (zh197, zc197)) 197 5 rfl zckm197 (fun _ _ _ _ h => h) ?_
    refine zdecF (show ¬ I 2 92 = Int32.ofInt 32 from den (by rw [hw 92 112 rfl, oI (by decide) (by decide)] <;> omega)) (fun _ => ?_)
    refine zdecF (show ¬ I 2 93 = Int32.ofInt 32 from den (by rw [hw 93 97 rfl, oI (by decide) (by decide)] <;> omega)) (fun _ => ?_)
    refine zdecF (show ¬ I 2 94 = Int32.ofInt 32 from den (by rw [hw 94 105 rfl, oI (by decide) (by decide)] <;> omega)) (fun _ => ?_)
    refine zdecF (show ¬ I 2 95 = Int32.ofInt 32 from den (by rw [hw 95 100 rfl, oI (by decide) (by decide)] <;> omega)) (fun _ => ?_)
    refine zdecT (show I 2 96 = Int32.ofInt 32 from deq (by rw [hw 96 32 rfl, oI (by decide) (by decide)] <;> omega)) (fun _ => ?_)
    refine zdecT (show Int32.ofInt 4 = (Int32.ofNat (pa + m)) - (Int32.ofNat pa) from deq (by rw [oI (by decide) (by decide), hba] <;> omega)) (fun _ => ?_)
    refine zdecF b0 (fun _ => ?_)
    refine zdecT (show I 2 92 = I 1 (Int32.ofNat pa + Int32.ofInt 0).toNatClampNeg from deq (by rw [hw 92 112 rfl, t0] <;> omega)) (fun _ => ?_)
    refine zdecF b1 (fun _ => ?_)
    refine zdecT (show I 2 93 = I 1 (Int32.ofNat pa + Int32.ofInt 1).toNatClampNeg from deq (by rw [hw 93 97 rfl, t1] <;> omega)) (fun _ => ?_)
    refine zdecF b2 (fun _ => ?_)
    refine zdecT (show I 2 94 = I 1 (Int32.ofNat pa + Int32.ofInt 2).toNatClampNeg from deq (by rw [hw 94 105 rfl, t2] <;> omega)) (fun _ => ?_)
    refine zdecF b3 (fun _ => ?_)
    refine zdecT (show I 2 95 = I 1 (Int32.ofNat pa + Int32.ofInt 3).toNatClampNeg from deq (by rw [hw 95 100 rfl, t3] <;> omega)) (fun _ => ?_)
    exact hY ⟨hm, c0, c1, c2, c3⟩
  · refine zpcF (M := (zh197, zc197)) 197 5 rfl zckm197 (fun _ _ _ _ h => h) ?_
    refine zdecF (show ¬ I 2 92 = Int32.ofInt 32 from den (by rw [hw 92 112 rfl, oI (by decide) (by decide)] <;> omega)) (fun _ => ?_)
    refine zdecF (show ¬ I 2 93 = Int32.ofInt 32 from den (by rw [hw 93 97 rfl, oI (by decide) (by decide)] <;> omega)) (fun _ => ?_)
    refine zdecF (show ¬ I 2 94 = Int32.ofInt 32 from den (by rw [hw 94 105 rfl, oI (by decide) (by decide)] <;> omega)) (fun _ => ?_)
    refine zdecF (show ¬ I 2 95 = Int32.ofInt 32 from den (by rw [hw 95 100 rfl, oI (by decide) (by decide)] <;> omega)) (fun _ => ?_)
    refine zdecT (show I 2 96 = Int32.ofInt 32 from deq (by rw [hw 96 32 rfl, oI (by decide) (by decide)] <;> omega)) (fun _ => ?_)
    refine zdecF (show ¬ Int32.ofInt 4 = (Int32.ofNat (pa + m)) - (Int32.ofNat pa) from den (by rw [oI (by decide) (by decide), hba] <;> omega)) (fun _ => ?_)
    refine zX_sub (fun x hx => ?_) (hN (by omega))
    simp only [List.mem_cons, List.not_mem_nil, or_false] at hx
    rcases hx with rfl | rfl | rfl | rfl | rfl
    all_goals first | exact List.Mem.head _ | exact List.Mem.tail _ (List.Mem.head _) | exact List.Mem.tail _ (List.Mem.tail _ (List.Mem.head _)) | exact List.Mem.tail _ (List.Mem.tail _ (List.Mem.tail _ (List.Mem.head _))) | exact List.Mem.tail _ (List.Mem.tail _ (List.Mem.tail _ (List.Mem.tail _ (List.Mem.head _)))) | exact List.Mem.tail _ (List.Mem.tail _ (List.Mem.tail _ (List.Mem.tail _ (List.Mem.tail _ (List.Mem.head _))))) | exact List.Mem.tail _ (List.Mem.tail _ (List.Mem.tail _ (List.Mem.tail _ (List.Mem.tail _ (List.Mem.tail _ (List.Mem.head _)))))) | exact List.Mem.tail _ (List.Mem.tail _ (List.Mem.tail _ (List.Mem.tail _ (List.Mem.tail _ (List.Mem.tail _ (List.Mem.tail _ (List.Mem.head _)))))))
set_option maxRecDepth 100000 in
set_option maxHeartbeats 4000000 in
theorem zw20 {l : Launch} {Γ : zG} {d : Nat} {Kp : Option Value → zH → Prop} {I : zHI} {Lg : zHL} {P : zHP} {T : Nat → Int} {pa m : Nat} (hH : wH I P T pa m) (hY : mtW T pa m 20 → Kp (some (.int (Int32.ofInt 20))) (zshM, I, Lg, P))
    (hN : ¬ mtW T pa m 20 → zX l Γ false (d + 1) zh197 (zMQ' Γ false zh197 Kp) 0 0 5 [(4, .int (Int32.ofInt 104)), (3, .int (Int32.ofInt 21)), (0, .ref 0), (1, .int (Int32.ofNat pa)), (2, .int (Int32.ofNat (pa + m)))] [] (zshM, I, Lg, P)) : zX l Γ false (d + 1) zh197 (zMQ' Γ false zh197 Kp) 0 0 5 [(4, .int (Int32.ofInt 97)), (3, .int (Int32.ofInt 20)), (0, .ref 0), (1, .int (Int32.ofNat pa)), (2, .int (Int32.ofNat (pa + m)))] [] (zshM, I, Lg, P) := by
  obtain ⟨hP0, hP3, hw, hm1, hpm, hT⟩ := hH
  have hba : (Int32.ofNat (pa + m) - Int32.ofNat pa).toInt = (m : Int) := by
    rw [Int32.toInt_sub, oN (by omega), oN (by omega), s32r _ (by show (-2147483648 : Int) ≤ _; omega) (by show _ ≤ (2147483647 : Int); omega)]
    omega
  have eP := wPx hP0 hP3
  rw [eP] at hY hN ⊢
  have hN : ¬ (m = 6 ∧ T pa = 109 ∧ T (pa + 1) = 105 ∧ T (pa + 2) = 110 ∧ T (pa + 3) = 117 ∧ T (pa + 4) = 116 ∧ T (pa + 5) = 101) → _ := hN
  have hY : (m = 6 ∧ T pa = 109 ∧ T (pa + 1) = 105 ∧ T (pa + 2) = 110 ∧ T (pa + 3) = 117 ∧ T (pa + 4) = 116 ∧ T (pa + 5) = 101) → _ := hY
  by_cases hm : m = 6
  · have q0 : (I 1 (Int32.ofNat pa + Int32.ofInt 0).toNatClampNeg).toInt = T pa ∧ ¬ (Int32.ofNat pa + Int32.ofInt 0 < 0 ∨ 700 ≤ (Int32.ofNat pa + Int32.ofInt 0).toNatClampNeg) := wIdx 0 (by omega) hT
    have t0 := q0.1
    have b0 := q0.2
    have q1 : (I 1 (Int32.ofNat pa + Int32.ofInt 1).toNatClampNeg).toInt = T (pa + 1) ∧ ¬ (Int32.ofNat pa + Int32.ofInt 1 < 0 ∨ 700 ≤ (Int32.ofNat pa + Int32.ofInt 1).toNatClampNeg) := wIdx 1 (by omega) hT
    have t1 := q1.1
    have b1 := q1.2
    have q2 : (I 1 (Int32.ofNat pa + Int32.ofInt 2).toNatClampNeg).toInt = T (pa + 2) ∧ ¬ (Int32.ofNat pa + Int32.ofInt 2 < 0 ∨ 700 ≤ (Int32.ofNat pa + Int32.ofInt 2).toNatClampNeg) := wIdx 2 (by omega) hT
    have t2 := q2.1
    have b2 := q2.2
    have q3 : (I 1 (Int32.ofNat pa + Int32.ofInt 3).toNatClampNeg).toInt = T (pa + 3) ∧ ¬ (Int32.ofNat pa + Int32.ofInt 3 < 0 ∨ 700 ≤ (Int32.ofNat pa + Int32.ofInt 3).toNatClampNeg) := wIdx 3 (by omega) hT
    have t3 := q3.1
    have b3 := q3.2
    have q4 : (I 1 (Int32.ofNat pa + Int32.ofInt 4).toNatClampNeg).toInt = T (pa + 4) ∧ ¬ (Int32.ofNat pa + Int32.ofInt 4 < 0 ∨ 700 ≤ (Int32.ofNat pa + Int32.ofInt 4).toNatClampNeg) := wIdx 4 (by omega) hT
    have t4 := q4.1
    have b4 := q4.2
    have q5 : (I 1 (Int32.ofNat pa + Int32.ofInt 5).toNatClampNeg).toInt = T (pa + 5) ∧ ¬ (Int32.ofNat pa + Int32.ofInt 5 < 0 ∨ 700 ≤ (Int32.ofNat pa + Int32.ofInt 5).toNatClampNeg) := wIdx 5 (by omega) hT
    have t5 := q5.1
    have b5 := q5.2
    by_cases c0 : T pa = 109
    case neg =>
      refine zpcF (M := (zh197, zc197)) 197 5 rfl zckm197 (fun _ _ _ _ h => h) ?_
      refine zdecF (show ¬ I 2 97 = Int32.ofInt 32 from den (by rw [hw 97 109 rfl, oI (by decide) (by decide)] <;> omega)) (fun _ => ?_)
      refine zdecF (show ¬ I 2 98 = Int32.ofInt 32 from den (by rw [hw 98 105 rfl, oI (by decide) (by decide)] <;> omega)) (fun _ => ?_)
      refine zdecF (show ¬ I 2 99 = Int32.ofInt 32 from den (by rw [hw 99 110 rfl, oI (by decide) (by decide)] <;> omega)) (fun _ => ?_)
      refine zdecF (show ¬ I 2 100 = Int32.ofInt 32 from den (by rw [hw 100 117 rfl, oI (by decide) (by decide)] <;> omega)) (fun _ => ?_)
      refine zdecF (show ¬ I 2 101 = Int32.ofInt 32 from den (by rw [hw 101 116 rfl, oI (by decide) (by decide)] <;> omega)) (fun _ => ?_)
      refine zdecF (show ¬ I 2 102 = Int32.ofInt 32 from den (by rw [hw 102 101 rfl, oI (by decide) (by decide)] <;> omega)) (fun _ => ?_)
      refine zdecT (show I 2 103 = Int32.ofInt 32 from deq (by rw [hw 103 32 rfl, oI (by decide) (by decide)] <;> omega)) (fun _ => ?_)
      refine zdecT (show Int32.ofInt 6 = (Int32.ofNat (pa + m)) - (Int32.ofNat pa) from deq (by rw [oI (by decide) (by decide), hba] <;> omega)) (fun _ => ?_)
      refine zdecF b0 (fun _ => ?_)
      refine zdecF (show ¬ I 2 97 = I 1 (Int32.ofNat pa + Int32.ofInt 0).toNatClampNeg from den (by rw [hw 97 109 rfl, t0] <;> omega)) (fun _ => ?_)
      refine zX_sub (fun x hx => ?_) (hN (by omega))
      simp only [List.mem_cons, List.not_mem_nil, or_false] at hx
      rcases hx with rfl | rfl | rfl | rfl | rfl
      all_goals first | exact List.Mem.head _ | exact List.Mem.tail _ (List.Mem.head _) | exact List.Mem.tail _ (List.Mem.tail _ (List.Mem.head _)) | exact List.Mem.tail _ (List.Mem.tail _ (List.Mem.tail _ (List.Mem.head _))) | exact List.Mem.tail _ (List.Mem.tail _ (List.Mem.tail _ (List.Mem.tail _ (List.Mem.head _)))) | exact List.Mem.tail _ (List.Mem.tail _ (List.Mem.tail _ (List.Mem.tail _ (List.Mem.tail _ (List.Mem.head _))))) | exact List.Mem.tail _ (List.Mem.tail _ (List.Mem.tail _ (List.Mem.tail _ (List.Mem.tail _ (List.Mem.tail _ (List.Mem.head _)))))) | exact List.Mem.tail _ (List.Mem.tail _ (List.Mem.tail _ (List.Mem.tail _ (List.Mem.tail _ (List.Mem.tail _ (List.Mem.tail _ (List.Mem.head _)))))))
    by_cases c1 : T (pa + 1) = 105
    case neg =>
      refine zpcF (M := (zh197, zc197)) 197 5 rfl zckm197 (fun _ _ _ _ h => h) ?_
      refine zdecF (show ¬ I 2 97 = Int32.ofInt 32 from den (by rw [hw 97 109 rfl, oI (by decide) (by decide)] <;> omega)) (fun _ => ?_)
      refine zdecF (show ¬ I 2 98 = Int32.ofInt 32 from den (by rw [hw 98 105 rfl, oI (by decide) (by decide)] <;> omega)) (fun _ => ?_)
      refine zdecF (show ¬ I 2 99 = Int32.ofInt 32 from den (by rw [hw 99 110 rfl, oI (by decide) (by decide)] <;> omega)) (fun _ => ?_)
      refine zdecF (show ¬ I 2 100 = Int32.ofInt 32 from den (by rw [hw 100 117 rfl, oI (by decide) (by decide)] <;> omega)) (fun _ => ?_)
      refine zdecF (show ¬ I 2 101 = Int32.ofInt 32 from den (by rw [hw 101 116 rfl, oI (by decide) (by decide)] <;> omega)) (fun _ => ?_)
      refine zdecF (show ¬ I 2 102 = Int32.ofInt 32 from den (by rw [hw 102 101 rfl, oI (by decide) (by decide)] <;> omega)) (fun _ => ?_)
      refine zdecT (show I 2 103 = Int32.ofInt 32 from deq (by rw [hw 103 32 rfl, oI (by decide) (by decide)] <;> omega)) (fun _ => ?_)
      refine zdecT (show Int32.ofInt 6 = (Int32.ofNat (pa + m)) - (Int32.ofNat pa) from deq (by rw [oI (by decide) (by decide), hba] <;> omega)) (fun _ => ?_)
      refine zdecF b0 (fun _ => ?_)
      refine zdecT (show I 2 97 = I 1 (Int32.ofNat pa + Int32.ofInt 0).toNatClampNeg from deq (by rw [hw 97 109 rfl, t0] <;> omega)) (fun _ => ?_)
      refine zdecF b1 (fun _ => ?_)
      refine zdecF (show ¬ I 2 98 = I 1 (Int32.ofNat pa + Int32.ofInt 1).toNatClampNeg from den (by rw [hw 98 105 rfl, t1] <;> omega)) (fun _ => ?_)
      refine zX_sub (fun x hx => ?_) (hN (by omega))
      simp only [List.mem_cons, List.not_mem_nil, or_false] at hx
      rcases hx with rfl | rfl | rfl | rfl | rfl
      all_goals first | exact List.Mem.head _ | exact List.Mem.tail _ (List.Mem.head _) | exact List.Mem.tail _ (List.Mem.tail _ (List.Mem.head _)) | exact List.Mem.tail _ (List.Mem.tail _ (List.Mem.tail _ (List.Mem.head _))) | exact List.Mem.tail _ (List.Mem.tail _ (List.Mem.tail _ (List.Mem.tail _ (List.Mem.head _)))) | exact List.Mem.tail _ (List.Mem.tail _ (List.Mem.tail _ (List.Mem.tail _ (List.Mem.tail _ (List.Mem.head _))))) | exact List.Mem.tail _ (List.Mem.tail _ (List.Mem.tail _ (List.Mem.tail _ (List.Mem.tail _ (List.Mem.tail _ (List.Mem.head _)))))) | exact List.Mem.tail _ (List.Mem.tail _ (List.Mem.tail _ (List.Mem.tail _ (List.Mem.tail _ (List.Mem.tail _ (List.Mem.tail _ (List.Mem.head _)))))))
    by_cases c2 : T (pa + 2) = 110
    case neg =>
      refine zpcF (M := (zh197, zc197)) 197 5 rfl zckm197 (fun _ _ _ _ h => h) ?_
      refine zdecF (show ¬ I 2 97 = Int32.ofInt 32 from den (by rw [hw 97 109 rfl, oI (by decide) (by decide)] <;> omega)) (fun _ => ?_)
      refine zdecF (show ¬ I 2 98 = Int32.ofInt 32 from den (by rw [hw 98 105 rfl, oI (by decide) (by decide)] <;> omega)) (fun _ => ?_)
      refine zdecF (show ¬ I 2 99 = Int32.ofInt 32 from den (by rw [hw 99 110 rfl, oI (by decide) (by decide)] <;> omega)) (fun _ => ?_)
      refine zdecF (show ¬ I 2 100 = Int32.ofInt 32 from den (by rw [hw 100 117 rfl, oI (by decide) (by decide)] <;> omega)) (fun _ => ?_)
      refine zdecF (show ¬ I 2 101 = Int32.ofInt 32 from den (by rw [hw 101 116 rfl, oI (by decide) (by decide)] <;> omega)) (fun _ => ?_)
      refine zdecF (show ¬ I 2 102 = Int32.ofInt 32 from den (by rw [hw 102 101 rfl, oI (by decide) (by decide)] <;> omega)) (fun _ => ?_)
      refine zdecT (show I 2 103 = Int32.ofInt 32 from deq (by rw [hw 103 32 rfl, oI (by decide) (by decide)] <;> omega)) (fun _ => ?_)
      refine zdecT (show Int32.ofInt 6 = (Int32.ofNat (pa + m)) - (Int32.ofNat pa) from deq (by rw [oI (by decide) (by decide), hba] <;> omega)) (fun _ => ?_)
      refine zdecF b0 (fun _ => ?_)
      refine zdecT (show I 2 97 = I 1 (Int32.ofNat pa + Int32.ofInt 0).toNatClampNeg from deq (by rw [hw 97 109 rfl, t0] <;> omega)) (fun _ => ?_)
      refine zdecF b1 (fun _ => ?_)
      refine zdecT (show I 2 98 = I 1 (Int32.ofNat pa + Int32.ofInt 1).toNatClampNeg from deq (by rw [hw 98 105 rfl, t1] <;> omega)) (fun _ => ?_)
      refine zdecF b2 (fun _ => ?_)
      refine zdecF (show ¬ I 2 99 = I 1 (Int32.ofNat pa + Int32.ofInt 2).toNatClampNeg from den (by rw [hw 99 110 rfl, t2] <;> omega)) (fun _ => ?_)
      refine zX_sub (fun x hx => ?_) (hN (by omega))
      simp only [List.mem_cons, List.not_mem_nil, or_false] at hx
      rcases hx with rfl | rfl | rfl | rfl | rfl
      all_goals first | exact List.Mem.head _ | exact List.Mem.tail _ (List.Mem.head _) | exact List.Mem.tail _ (List.Mem.tail _ (List.Mem.head _)) | exact List.Mem.tail _ (List.Mem.tail _ (List.Mem.tail _ (List.Mem.head _))) | exact List.Mem.tail _ (List.Mem.tail _ (List.Mem.tail _ (List.Mem.tail _ (List.Mem.head _)))) | exact List.Mem.tail _ (List.Mem.tail _ (List.Mem.tail _ (List.Mem.tail _ (List.Mem.tail _ (List.Mem.head _))))) | exact List.Mem.tail _ (List.Mem.tail _ (List.Mem.tail _ (List.Mem.tail _ (List.Mem.tail _ (List.Mem.tail _ (List.Mem.head _)))))) | exact List.Mem.tail _ (List.Mem.tail _ (List.Mem.tail _ (List.Mem.tail _ (List.Mem.tail _ (List.Mem.tail _ (List.Mem.tail _ (List.Mem.head _)))))))
    by_cases c3 : T (pa + 3) = 117
    case neg =>
      refine zpcF (M := (zh197, zc197)) 197 5 rfl zckm197 (fun _ _ _ _ h => h) ?_
      refine zdecF (show ¬ I 2 97 = Int32.ofInt 32 from den (by rw [hw 97 109 rfl, oI (by decide) (by decide)] <;> omega)) (fun _ => ?_)
      refine zdecF (show ¬ I 2 98 = Int32.ofInt 32 from den (by rw [hw 98 105 rfl, oI (by decide) (by decide)] <;> omega)) (fun _ => ?_)
      refine zdecF (show ¬ I 2 99 = Int32.ofInt 32 from den (by rw [hw 99 110 rfl, oI (by decide) (by decide)] <;> omega)) (fun _ => ?_)
      refine zdecF (show ¬ I 2 100 = Int32.ofInt 32 from den (by rw [hw 100 117 rfl, oI (by decide) (by decide)] <;> omega)) (fun _ => ?_)
      refine zdecF (show ¬ I 2 101 = Int32.ofInt 32 from den (by rw [hw 101 116 rfl, oI (by decide) (by decide)] <;> omega)) (fun _ => ?_)
      refine zdecF (show ¬ I 2 102 = Int32.ofInt 32 from den (by rw [hw 102 101 rfl, oI (by decide) (by decide)] <;> omega)) (fun _ => ?_)
      refine zdecT (show I 2 103 = Int32.ofInt 32 from deq (by rw [hw 103 32 rfl, oI (by decide) (by decide)] <;> omega)) (fun _ => ?_)
      refine zdecT (show Int32.ofInt 6 = (Int32.ofNat (pa + m)) - (Int32.ofNat pa) from deq (by rw [oI (by decide) (by decide), hba] <;> omega)) (fun _ => ?_)
      refine zdecF b0 (fun _ => ?_)
      refine zdecT (show I 2 97 = I 1 (Int32.ofNat pa + Int32.ofInt 0).toNatClampNeg from deq (by rw [hw 97 109 rfl, t0] <;> omega)) (fun _ => ?_)
      refine zdecF b1 (fun _ => ?_)
      refine zdecT (show I 2 98 = I 1 (Int32.ofNat pa + Int32.ofInt 1).toNatClampNeg from deq (by rw [hw 98 105 rfl, t1] <;> omega)) (fun _ => ?_)
      refine zdecF b2 (fun _ => ?_)
      refine zdecT (show I 2 99 = I 1 (Int32.ofNat pa + Int32.ofInt 2).toNatClampNeg from deq (by rw [hw 99 110 rfl, t2] <;> omega)) (fun _ => ?_)
      refine zdecF b3 (fun _ => ?_)
      refine zdecF (show ¬ I 2 100 = I 1 (Int32.ofNat pa + Int32.ofInt 3).toNatClampNeg from den (by rw [hw 100 117 rfl, t3] <;> omega)) (fun _ => ?_)
      refine zX_sub (fun x hx => ?_) (hN (by omega))
      simp only [List.mem_cons, List.not_mem_nil, or_false] at hx
      rcases hx with rfl | rfl | rfl | rfl | rfl
      all_goals first | exact List.Mem.head _ | exact List.Mem.tail _ (List.Mem.head _) | exact List.Mem.tail _ (List.Mem.tail _ (List.Mem.head _)) | exact List.Mem.tail _ (List.Mem.tail _ (List.Mem.tail _ (List.Mem.head _))) | exact List.Mem.tail _ (List.Mem.tail _ (List.Mem.tail _ (List.Mem.tail _ (List.Mem.head _)))) | exact List.Mem.tail _ (List.Mem.tail _ (List.Mem.tail _ (List.Mem.tail _ (List.Mem.tail _ (List.Mem.head _))))) | exact List.Mem.tail _ (List.Mem.tail _ (List.Mem.tail _ (List.Mem.tail _ (List.Mem.tail _ (List.Mem.tail _ (List.Mem.head _)))))) | exact List.Mem.tail _ (List.Mem.tail _ (List.Mem.tail _ (List.Mem.tail _ (List.Mem.tail _ (List.Mem.tail _ (List.Mem.tail _ (List.Mem.head _)))))))
    by_cases c4 : T (pa + 4) = 116
    case neg =>
      refine zpcF (M := (zh197, zc197)) 197 5 rfl zckm197 (fun _ _ _ _ h => h) ?_
      refine zdecF (show ¬ I 2 97 = Int32.ofInt 32 from den (by rw [hw 97 109 rfl, oI (by decide) (by decide)] <;> omega)) (fun _ => ?_)
      refine zdecF (show ¬ I 2 98 = Int32.ofInt 32 from den (by rw [hw 98 105 rfl, oI (by decide) (by decide)] <;> omega)) (fun _ => ?_)
      refine zdecF (show ¬ I 2 99 = Int32.ofInt 32 from den (by rw [hw 99 110 rfl, oI (by decide) (by decide)] <;> omega)) (fun _ => ?_)
      refine zdecF (show ¬ I 2 100 = Int32.ofInt 32 from den (by rw [hw 100 117 rfl, oI (by decide) (by decide)] <;> omega)) (fun _ => ?_)
      refine zdecF (show ¬ I 2 101 = Int32.ofInt 32 from den (by rw [hw 101 116 rfl, oI (by decide) (by decide)] <;> omega)) (fun _ => ?_)
      refine zdecF (show ¬ I 2 102 = Int32.ofInt 32 from den (by rw [hw 102 101 rfl, oI (by decide) (by decide)] <;> omega)) (fun _ => ?_)
      refine zdecT (show I 2 103 = Int32.ofInt 32 from deq (by rw [hw 103 32 rfl, oI (by decide) (by decide)] <;> omega)) (fun _ => ?_)
      refine zdecT (show Int32.ofInt 6 = (Int32.ofNat (pa + m)) - (Int32.ofNat pa) from deq (by rw [oI (by decide) (by decide), hba] <;> omega)) (fun _ => ?_)
      refine zdecF b0 (fun _ => ?_)
      refine zdecT (show I 2 97 = I 1 (Int32.ofNat pa + Int32.ofInt 0).toNatClampNeg from deq (by rw [hw 97 109 rfl, t0] <;> omega)) (fun _ => ?_)
      refine zdecF b1 (fun _ => ?_)
      refine zdecT (show I 2 98 = I 1 (Int32.ofNat pa + Int32.ofInt 1).toNatClampNeg from deq (by rw [hw 98 105 rfl, t1] <;> omega)) (fun _ => ?_)
      refine zdecF b2 (fun _ => ?_)
      refine zdecT (show I 2 99 = I 1 (Int32.ofNat pa + Int32.ofInt 2).toNatClampNeg from deq (by rw [hw 99 110 rfl, t2] <;> omega)) (fun _ => ?_)
      refine zdecF b3 (fun _ => ?_)
      refine zdecT (show I 2 100 = I 1 (Int32.ofNat pa + Int32.ofInt 3).toNatClampNeg from deq (by rw [hw 100 117 rfl, t3] <;> omega)) (fun _ => ?_)
      refine zdecF b4 (fun _ => ?_)
      refine zdecF (show ¬ I 2 101 = I 1 (Int32.ofNat pa + Int32.ofInt 4).toNatClampNeg from den (by rw [hw 101 116 rfl, t4] <;> omega)) (fun _ => ?_)
      refine zX_sub (fun x hx => ?_) (hN (by omega))
      simp only [List.mem_cons, List.not_mem_nil, or_false] at hx
      rcases hx with rfl | rfl | rfl | rfl | rfl
      all_goals first | exact List.Mem.head _ | exact List.Mem.tail _ (List.Mem.head _) | exact List.Mem.tail _ (List.Mem.tail _ (List.Mem.head _)) | exact List.Mem.tail _ (List.Mem.tail _ (List.Mem.tail _ (List.Mem.head _))) | exact List.Mem.tail _ (List.Mem.tail _ (List.Mem.tail _ (List.Mem.tail _ (List.Mem.head _)))) | exact List.Mem.tail _ (List.Mem.tail _ (List.Mem.tail _ (List.Mem.tail _ (List.Mem.tail _ (List.Mem.head _))))) | exact List.Mem.tail _ (List.Mem.tail _ (List.Mem.tail _ (List.Mem.tail _ (List.Mem.tail _ (List.Mem.tail _ (List.Mem.head _)))))) | exact List.Mem.tail _ (List.Mem.tail _ (List.Mem.tail _ (List.Mem.tail _ (List.Mem.tail _ (List.Mem.tail _ (List.Mem.tail _ (List.Mem.head _)))))))
    by_cases c5 : T (pa + 5) = 101
    case neg =>
      refine zpcF (M := (zh197, zc197)) 197 5 rfl zckm197 (fun _ _ _ _ h => h) ?_
      refine zdecF (show ¬ I 2 97 = Int32.ofInt 32 from den (by rw [hw 97 109 rfl, oI (by decide) (by decide)] <;> omega)) (fun _ => ?_)
      refine zdecF (show ¬ I 2 98 = Int32.ofInt 32 from den (by rw [hw 98 105 rfl, oI (by decide) (by decide)] <;> omega)) (fun _ => ?_)
      refine zdecF (show ¬ I 2 99 = Int32.ofInt 32 from den (by rw [hw 99 110 rfl, oI (by decide) (by decide)] <;> omega)) (fun _ => ?_)
      refine zdecF (show ¬ I 2 100 = Int32.ofInt 32 from den (by rw [hw 100 117 rfl, oI (by decide) (by decide)] <;> omega)) (fun _ => ?_)
      refine zdecF (show ¬ I 2 101 = Int32.ofInt 32 from den (by rw [hw 101 116 rfl, oI (by decide) (by decide)] <;> omega)) (fun _ => ?_)
      refine zdecF (show ¬ I 2 102 = Int32.ofInt 32 from den (by rw [hw 102 101 rfl, oI (by decide) (by decide)] <;> omega)) (fun _ => ?_)
      refine zdecT (show I 2 103 = Int32.ofInt 32 from deq (by rw [hw 103 32 rfl, oI (by decide) (by decide)] <;> omega)) (fun _ => ?_)
      refine zdecT (show Int32.ofInt 6 = (Int32.ofNat (pa + m)) - (Int32.ofNat pa) from deq (by rw [oI (by decide) (by decide), hba] <;> omega)) (fun _ => ?_)
      refine zdecF b0 (fun _ => ?_)
      refine zdecT (show I 2 97 = I 1 (Int32.ofNat pa + Int32.ofInt 0).toNatClampNeg from deq (by rw [hw 97 109 rfl, t0] <;> omega)) (fun _ => ?_)
      refine zdecF b1 (fun _ => ?_)
      refine zdecT (show I 2 98 = I 1 (Int32.ofNat pa + Int32.ofInt 1).toNatClampNeg from deq (by rw [hw 98 105 rfl, t1] <;> omega)) (fun _ => ?_)
      refine zdecF b2 (fun _ => ?_)
      refine zdecT (show I 2 99 = I 1 (Int32.ofNat pa + Int32.ofInt 2).toNatClampNeg from deq (by rw [hw 99 110 rfl, t2] <;> omega)) (fun _ => ?_)
      refine zdecF b3 (fun _ => ?_)
      refine zdecT (show I 2 100 = I 1 (Int32.ofNat pa + Int32.ofInt 3).toNatClampNeg from deq (by rw [hw 100 117 rfl, t3] <;> omega)) (fun _ => ?_)
      refine zdecF b4 (fun _ => ?_)
      refine zdecT (show I 2 101 = I 1 (Int32.ofNat pa + Int32.ofInt 4).toNatClampNeg from deq (by rw [hw 101 116 rfl, t4] <;> omega)) (fun _ => ?_)
      refine zdecF b5 (fun _ => ?_)
      refine zdecF (show ¬ I 2 102 = I 1 (Int32.ofNat pa + Int32.ofInt 5).toNatClampNeg from den (by rw [hw 102 101 rfl, t5] <;> omega)) (fun _ => ?_)
      refine zX_sub (fun x hx => ?_) (hN (by omega))
      simp only [List.mem_cons, List.not_mem_nil, or_false] at hx
      rcases hx with rfl | rfl | rfl | rfl | rfl
      all_goals first | exact List.Mem.head _ | exact List.Mem.tail _ (List.Mem.head _) | exact List.Mem.tail _ (List.Mem.tail _ (List.Mem.head _)) | exact List.Mem.tail _ (List.Mem.tail _ (List.Mem.tail _ (List.Mem.head _))) | exact List.Mem.tail _ (List.Mem.tail _ (List.Mem.tail _ (List.Mem.tail _ (List.Mem.head _)))) | exact List.Mem.tail _ (List.Mem.tail _ (List.Mem.tail _ (List.Mem.tail _ (List.Mem.tail _ (List.Mem.head _))))) | exact List.Mem.tail _ (List.Mem.tail _ (List.Mem.tail _ (List.Mem.tail _ (List.Mem.tail _ (List.Mem.tail _ (List.Mem.head _)))))) | exact List.Mem.tail _ (List.Mem.tail _ (List.Mem.tail _ (List.Mem.tail _ (List.Mem.tail _ (List.Mem.tail _ (List.Mem.tail _ (List.Mem.head _)))))))
    refine zpcF (M := (zh197, zc197)) 197 5 rfl zckm197 (fun _ _ _ _ h => h) ?_
    refine zdecF (show ¬ I 2 97 = Int32.ofInt 32 from den (by rw [hw 97 109 rfl, oI (by decide) (by decide)] <;> omega)) (fun _ => ?_)
    refine zdecF (show ¬ I 2 98 = Int32.ofInt 32 from den (by rw [hw 98 105 rfl, oI (by decide) (by decide)] <;> omega)) (fun _ => ?_)
    refine zdecF (show ¬ I 2 99 = Int32.ofInt 32 from den (by rw [hw 99 110 rfl, oI (by decide) (by decide)] <;> omega)) (fun _ => ?_)
    refine zdecF (show ¬ I 2 100 = Int32.ofInt 32 from den (by rw [hw 100 117 rfl, oI (by decide) (by decide)] <;> omega)) (fun _ => ?_)
    refine zdecF (show ¬ I 2 101 = Int32.ofInt 32 from den (by rw [hw 101 116 rfl, oI (by decide) (by decide)] <;> omega)) (fun _ => ?_)
    refine zdecF (show ¬ I 2 102 = Int32.ofInt 32 from den (by rw [hw 102 101 rfl, oI (by decide) (by decide)] <;> omega)) (fun _ => ?_)
    refine zdecT (show I 2 103 = Int32.ofInt 32 from deq (by rw [hw 103 32 rfl, oI (by decide) (by decide)] <;> omega)) (fun _ => ?_)
    refine zdecT (show Int32.ofInt 6 = (Int32.ofNat (pa + m)) - (Int32.ofNat pa) from deq (by rw [oI (by decide) (by decide), hba] <;> omega)) (fun _ => ?_)
    refine zdecF b0 (fun _ => ?_)
    refine zdecT (show I 2 97 = I 1 (Int32.ofNat pa + Int32.ofInt 0).toNatClampNeg from deq (by rw [hw 97 109 rfl, t0] <;> omega)) (fun _ => ?_)
    refine zdecF b1 (fun _ => ?_)
    refine zdecT (show I 2 98 = I 1 (Int32.ofNat pa + Int32.ofInt 1).toNatClampNeg from deq (by rw [hw 98 105 rfl, t1] <;> omega)) (fun _ => ?_)
    refine zdecF b2 (fun _ => ?_)
    refine zdecT (show I 2 99 = I 1 (Int32.ofNat pa + Int32.ofInt 2).toNatClampNeg from deq (by rw [hw 99 110 rfl, t2] <;> omega)) (fun _ => ?_)
    refine zdecF b3 (fun _ => ?_)
    refine zdecT (show I 2 100 = I 1 (Int32.ofNat pa + Int32.ofInt 3).toNatClampNeg from deq (by rw [hw 100 117 rfl, t3] <;> omega)) (fun _ => ?_)
    refine zdecF b4 (fun _ => ?_)
    refine zdecT (show I 2 101 = I 1 (Int32.ofNat pa + Int32.ofInt 4).toNatClampNeg from deq (by rw [hw 101 116 rfl, t4] <;> omega)) (fun _ => ?_)
    refine zdecF b5 (fun _ => ?_)
    refine zdecT (show I 2 102 = I 1 (Int32.ofNat pa + Int32.ofInt 5).toNatClampNeg from deq (by rw [hw 102 101 rfl, t5] <;> omega)) (fun _ => ?_)
    exact hY ⟨hm, c0, c1, c2, c3, c4, c5⟩
  · refine zpcF (M := (zh197, zc197)) 197 5 rfl zckm197 (fun _ _ _ _ h => h) ?_
    refine zdecF (show ¬ I 2 97 = Int32.ofInt 32 from den (by rw [hw 97 109 rfl, oI (by decide) (by decide)] <;> omega)) (fun _ => ?_)
    refine zdecF (show ¬ I 2 98 = Int32.ofInt 32 from den (by rw [hw 98 105 rfl, oI (by decide) (by decide)] <;> omega)) (fun _ => ?_)
    refine zdecF (show ¬ I 2 99 = Int32.ofInt 32 from den (by rw [hw 99 110 rfl, oI (by decide) (by decide)] <;> omega)) (fun _ => ?_)
    refine zdecF (show ¬ I 2 100 = Int32.ofInt 32 from den (by rw [hw 100 117 rfl, oI (by decide) (by decide)] <;> omega)) (fun _ => ?_)
    refine zdecF (show ¬ I 2 101 = Int32.ofInt 32 from den (by rw [hw 101 116 rfl, oI (by decide) (by decide)] <;> omega)) (fun _ => ?_)
    refine zdecF (show ¬ I 2 102 = Int32.ofInt 32 from den (by rw [hw 102 101 rfl, oI (by decide) (by decide)] <;> omega)) (fun _ => ?_)
    refine zdecT (show I 2 103 = Int32.ofInt 32 from deq (by rw [hw 103 32 rfl, oI (by decide) (by decide)] <;> omega)) (fun _ => ?_)
    refine zdecF (show ¬ Int32.ofInt 6 = (Int32.ofNat (pa + m)) - (Int32.ofNat pa) from den (by rw [oI (by decide) (by decide), hba] <;> omega)) (fun _ => ?_)
    refine zX_sub (fun x hx => ?_) (hN (by omega))
    simp only [List.mem_cons, List.not_mem_nil, or_false] at hx
    rcases hx with rfl | rfl | rfl | rfl | rfl
    all_goals first | exact List.Mem.head _ | exact List.Mem.tail _ (List.Mem.head _) | exact List.Mem.tail _ (List.Mem.tail _ (List.Mem.head _)) | exact List.Mem.tail _ (List.Mem.tail _ (List.Mem.tail _ (List.Mem.head _))) | exact List.Mem.tail _ (List.Mem.tail _ (List.Mem.tail _ (List.Mem.tail _ (List.Mem.head _)))) | exact List.Mem.tail _ (List.Mem.tail _ (List.Mem.tail _ (List.Mem.tail _ (List.Mem.tail _ (List.Mem.head _))))) | exact List.Mem.tail _ (List.Mem.tail _ (List.Mem.tail _ (List.Mem.tail _ (List.Mem.tail _ (List.Mem.tail _ (List.Mem.head _)))))) | exact List.Mem.tail _ (List.Mem.tail _ (List.Mem.tail _ (List.Mem.tail _ (List.Mem.tail _ (List.Mem.tail _ (List.Mem.tail _ (List.Mem.head _)))))))
