set_option maxRecDepth 100000 in
set_option maxHeartbeats 4000000 in
theorem zw12 {l : Launch} {Γ : zG} {d : Nat} {Kp : Option Value → zH → Prop} {I : zHI} {Lg : zHL} {P : zHP} {T : Nat → Int} {pa m : Nat} (hH : wH I P T pa m) (hY : mtW T pa m 12 → Kp (some (.int (Int32.ofInt 12))) (zshM, I, Lg, P))
    (hN : ¬ mtW T pa m 12 → zX l Γ false (d + 1) zh197 (zMQ' Γ false zh197 Kp) 0 0 5 [(4, .int (Int32.ofInt 60)), (3, .int (Int32.ofInt 13)), (0, .ref 0), (1, .int (Int32.ofNat pa)), (2, .int (Int32.ofNat (pa + m)))] [] (zshM, I, Lg, P)) : zX l Γ false (d + 1) zh197 (zMQ' Γ false zh197 Kp) 0 0 5 [(4, .int (Int32.ofInt 57)), (3, .int (Int32.ofInt 12)), (0, .ref 0), (1, .int (Int32.ofNat pa)), (2, .int (Int32.ofNat (pa + m)))] [] (zshM, I, Lg, P) := by
  obtain ⟨hP0, hP3, hw, hm1, hpm, hT⟩ := hH
  have hba : (Int32.ofNat (pa + m) - Int32.ofNat pa).toInt = (m : Int) := by
    rw [Int32.toInt_sub, oN (by omega), oN (by omega), s32r _ (by show (-2147483648 : Int) ≤ _; omega) (by show _ ≤ (2147483647 : Int); omega)]
    omega
  have eP := wPx hP0 hP3
  rw [eP] at hY hN ⊢
  have hN : ¬ (m = 2 ∧ T pa = 111 ∧ T (pa + 1) = 114) → _ := hN
  have hY : (m = 2 ∧ T pa = 111 ∧ T (pa + 1) = 114) → _ := hY
  by_cases hm : m = 2
  · have q0 : (I 1 (Int32.ofNat pa + Int32.ofInt 0).toNatClampNeg).toInt = T pa ∧ ¬ (Int32.ofNat pa + Int32.ofInt 0 < 0 ∨ 700 ≤ (Int32.ofNat pa + Int32.ofInt 0).toNatClampNeg) := wIdx 0 (by omega) hT
    have t0 := q0.1
    have b0 := q0.2
    have q1 : (I 1 (Int32.ofNat pa + Int32.ofInt 1).toNatClampNeg).toInt = T (pa + 1) ∧ ¬ (Int32.ofNat pa + Int32.ofInt 1 < 0 ∨ 700 ≤ (Int32.ofNat pa + Int32.ofInt 1).toNatClampNeg) := wIdx 1 (by omega) hT
    have t1 := q1.1
    have b1 := q1.2
    by_cases c0 : T pa = 111
    case neg =>
      refine zpcF (M := (zh197, zc197)) 197 5 rfl zckm197 (fun _ _ _ _ h => h) ?_
      refine zdecF (show ¬ I 2 57 = Int32.ofInt 32 from den (by rw [hw 57 111 rfl, oI (by decide) (by decide)] <;> omega)) (fun _ => ?_)
      refine zdecF (show ¬ I 2 58 = Int32.ofInt 32 from den (by rw [hw 58 114 rfl, oI (by decide) (by decide)] <;> omega)) (fun _ => ?_)
      refine zdecT (show I 2 59 = Int32.ofInt 32 from deq (by rw [hw 59 32 rfl, oI (by decide) (by decide)] <;> omega)) (fun _ => ?_)
      refine zdecT (show Int32.ofInt 2 = (Int32.ofNat (pa + m)) - (Int32.ofNat pa) from deq (by rw [oI (by decide) (by decide), hba] <;> omega)) (fun _ => ?_)
      refine zdecF b0 (fun _ => ?_)
      refine zdecF (show ¬ I 2 57 = I 1 (Int32.ofNat pa + Int32.ofInt 0).toNatClampNeg from den (by rw [hw 57 111 rfl, t0] <;> omega)) (fun _ => ?_)
      refine zX_sub (fun x hx => ?_) (hN (by omega))
      simp only [List.mem_cons, List.not_mem_nil, or_false] at hx
      rcases hx with rfl | rfl | rfl | rfl | rfl
      all_goals first | exact List.Mem.head _ | exact List.Mem.tail _ (List.Mem.head _) | exact List.Mem.tail _ (List.Mem.tail _ (List.Mem.head _)) | exact List.Mem.tail _ (List.Mem.tail _ (List.Mem.tail _ (List.Mem.head _))) | exact List.Mem.tail _ (List.Mem.tail _ (List.Mem.tail _ (List.Mem.tail _ (List.Mem.head _)))) | exact List.Mem.tail _ (List.Mem.tail _ (List.Mem.tail _ (List.Mem.tail _ (List.Mem.tail _ (List.Mem.head _))))) | exact List.Mem.tail _ (List.Mem.tail _ (List.Mem.tail _ (List.Mem.tail _ (List.Mem.tail _ (List.Mem.tail _ (List.Mem.head _)))))) | exact List.Mem.tail _ (List.Mem.tail _ (List.Mem.tail _ (List.Mem.tail _ (List.Mem.tail _ (List.Mem.tail _ (List.Mem.tail _ (List.Mem.head _)))))))
    by_cases c1 : T (pa + 1) = 114
    case neg =>
      refine zpcF (M := (zh197, zc197)) 197 5 rfl zckm197 (fun _ _ _ _ h => h) ?_
      refine zdecF (show ¬ I 2 57 = Int32.ofInt 32 from den (by rw [hw 57 111 rfl, oI (by decide) (by decide)] <;> omega)) (fun _ => ?_)
      refine zdecF (show ¬ I 2 58 = Int32.ofInt 32 from den (by rw [hw 58 114 rfl, oI (by decide) (by decide)] <;> omega)) (fun _ => ?_)
      refine zdecT (show I 2 59 = Int32.ofInt 32 from deq (by rw [hw 59 32 rfl, oI (by decide) (by decide)] <;> omega)) (fun _ => ?_)
      refine zdecT (show Int32.ofInt 2 = (Int32.ofNat (pa + m)) - (Int32.ofNat pa) from deq (by rw [oI (by decide) (by decide), hba] <;> omega)) (fun _ => ?_)
      refine zdecF b0 (fun _ => ?_)
      refine zdecT (show I 2 57 = I 1 (Int32.ofNat pa + Int32.ofInt 0).toNatClampNeg from deq (by rw [hw 57 111 rfl, t0] <;> omega)) (fun _ => ?_)
      refine zdecF b1 (fun _ => ?_)
      refine zdecF (show ¬ I 2 58 = I 1 (Int32.ofNat pa + Int32.ofInt 1).toNatClampNeg from den (by rw [hw 58 114 rfl, t1] <;> omega)) (fun _ => ?_)
      refine zX_sub (fun x hx => ?_) (hN (by omega))
      simp only [List.mem_cons, List.not_mem_nil, or_false] at hx
      rcases hx with rfl | rfl | rfl | rfl | rfl
      all_goals first | exact List.Mem.head _ | exact List.Mem.tail _ (List.Mem.head _) | exact List.Mem.tail _ (List.Mem.tail _ (List.Mem.head _)) | exact List.Mem.tail _ (List.Mem.tail _ (List.Mem.tail _ (List.Mem.head _))) | exact List.Mem.tail _ (List.Mem.tail _ (List.Mem.tail _ (List.Mem.tail _ (List.Mem.head _)))) | exact List.Mem.tail _ (List.Mem.tail _ (List.Mem.tail _ (List.Mem.tail _ (List.Mem.tail _ (List.Mem.head _))))) | exact List.Mem.tail _ (List.Mem.tail _ (List.Mem.tail _ (List.Mem.tail _ (List.Mem.tail _ (List.Mem.tail _ (List.Mem.head _)))))) | exact List.Mem.tail _ (List.Mem.tail _ (List.Mem.tail _ (List.Mem.tail _ (List.Mem.tail _ (List.Mem.tail _ (List.Mem.tail _ (List.Mem.head _)))))))
    refine zpcF (M := (zh197, zc197)) 197 5 rfl zckm197 (fun _ _ _ _ h => h) ?_
    refine zdecF (show ¬ I 2 57 = Int32.ofInt 32 from den (by rw [hw 57 111 rfl, oI (by decide) (by decide)] <;> omega)) (fun _ => ?_)
    refine zdecF (show ¬ I 2 58 = Int32.ofInt 32 from den (by rw [hw 58 114 rfl, oI (by decide) (by decide)] <;> omega)) (fun _ => ?_)
    refine zdecT (show I 2 59 = Int32.ofInt 32 from deq (by rw [hw 59 32 rfl, oI (by decide) (by decide)] <;> omega)) (fun _ => ?_)
    refine zdecT (show Int32.ofInt 2 = (Int32.ofNat (pa + m)) - (Int32.ofNat pa) from deq (by rw [oI (by decide) (by decide), hba] <;> omega)) (fun _ => ?_)
    refine zdecF b0 (fun _ => ?_)
    refine zdecT (show I 2 57 = I 1 (Int32.ofNat pa + Int32.ofInt 0).toNatClampNeg from deq (by rw [hw 57 111 rfl, t0] <;> omega)) (fun _ => ?_)
    refine zdecF b1 (fun _ => ?_)
    refine zdecT (show I 2 58 = I 1 (Int32.ofNat pa + Int32.ofInt 1).toNatClampNeg from deq (by rw [hw 58 114 rfl, t1] <;> omega)) (fun _ => ?_)
    exact hY ⟨hm, c0, c1⟩
  · refine zpcF (M := (zh197, zc197)) 197 5 rfl zckm197 (fun _ _ _ _ h => h) ?_
    refine zdecF (show ¬ I 2 57 = Int32.ofInt 32 from den (by rw [hw 57 111 rfl, oI (by decide) (by decide)] <;> omega)) (fun _ => ?_)
    refine zdecF (show ¬ I 2 58 = Int32.ofInt 32 from den (by rw [hw 58 114 rfl, oI (by decide) (by decide)] <;> omega)) (fun _ => ?_)
    refine zdecT (show I 2 59 = Int32.ofInt 32 from deq (by rw [hw 59 32 rfl, oI (by decide) (by decide)] <;> omega)) (fun _ => ?_)
    refine zdecF (show ¬ Int32.ofInt 2 = (Int32.ofNat (pa + m)) - (Int32.ofNat pa) from den (by rw [oI (by decide) (by decide), hba] <;> omega)) (fun _ => ?_)
    refine zX_sub (fun x hx => ?_) (hN (by omega))
    simp only [List.mem_cons, List.not_mem_nil, or_false] at hx
    rcases hx with rfl | rfl | rfl | rfl | rfl
    all_goals first | exact List.Mem.head _ | exact List.Mem.tail _ (List.Mem.head _) | exact List.Mem.tail _ (List.Mem.tail _ (List.Mem.head _)) | exact List.Mem.tail _ (List.Mem.tail _ (List.Mem.tail _ (List.Mem.head _))) | exact List.Mem.tail _ (List.Mem.tail _ (List.Mem.tail _ (List.Mem.tail _ (List.Mem.head _)))) | exact List.Mem.tail _ (List.Mem.tail _ (List.Mem.tail _ (List.Mem.tail _ (List.Mem.tail _ (List.Mem.head _))))) | exact List.Mem.tail _ (List.Mem.tail _ (List.Mem.tail _ (List.Mem.tail _ (List.Mem.tail _ (List.Mem.tail _ (List.Mem.head _)))))) | exact List.Mem.tail _ (List.Mem.tail _ (List.Mem.tail _ (List.Mem.tail _ (List.Mem.tail _ (List.Mem.tail _ (List.Mem.tail _ (List.Mem.head _)))))))
set_option maxRecDepth 100000 in
set_option maxHeartbeats 4000000 in
theorem zw13 {l : Launch} {Γ : zG} {d : Nat} {Kp : Option Value → zH → Prop} {I : zHI} {Lg : zHL} {P : zHP} {T : Nat → Int} {pa m : Nat} (hH : wH I P T pa m) (hY : mtW T pa m 13 → Kp (some (.int (Int32.ofInt 13))) (zshM, I, Lg, P))
    (hN : ¬ mtW T pa m 13 → zX l Γ false (d + 1) zh197 (zMQ' Γ false zh197 Kp) 0 0 5 [(4, .int (Int32.ofInt 64)), (3, .int (Int32.ofInt 14)), (0, .ref 0), (1, .int (Int32.ofNat pa)), (2, .int (Int32.ofNat (pa + m)))] [] (zshM, I, Lg, P)) : zX l Γ false (d + 1) zh197 (zMQ' Γ false zh197 Kp) 0 0 5 [(4, .int (Int32.ofInt 60)), (3, .int (Int32.ofInt 13)), (0, .ref 0), (1, .int (Int32.ofNat pa)), (2, .int (Int32.ofNat (pa + m)))] [] (zshM, I, Lg, P) := by
  obtain ⟨hP0, hP3, hw, hm1, hpm, hT⟩ := hH
  have hba : (Int32.ofNat (pa + m) - Int32.ofNat pa).toInt = (m : Int) := by
    rw [Int32.toInt_sub, oN (by omega), oN (by omega), s32r _ (by show (-2147483648 : Int) ≤ _; omega) (by show _ ≤ (2147483647 : Int); omega)]
    omega
  have eP := wPx hP0 hP3
  rw [eP] at hY hN ⊢
  have hN : ¬ (m = 3 ∧ T pa = 110 ∧ T (pa + 1) = 111 ∧ T (pa + 2) = 116) → _ := hN
  have hY : (m = 3 ∧ T pa = 110 ∧ T (pa + 1) = 111 ∧ T (pa + 2) = 116) → _ := hY
  by_cases hm : m = 3
  · have q0 : (I 1 (Int32.ofNat pa + Int32.ofInt 0).toNatClampNeg).toInt = T pa ∧ ¬ (Int32.ofNat pa + Int32.ofInt 0 < 0 ∨ 700 ≤ (Int32.ofNat pa + Int32.ofInt 0).toNatClampNeg) := wIdx 0 (by omega) hT
    have t0 := q0.1
    have b0 := q0.2
    have q1 : (I 1 (Int32.ofNat pa + Int32.ofInt 1).toNatClampNeg).toInt = T (pa + 1) ∧ ¬ (Int32.ofNat pa + Int32.ofInt 1 < 0 ∨ 700 ≤ (Int32.ofNat pa + Int32.ofInt 1).toNatClampNeg) := wIdx 1 (by omega) hT
    have t1 := q1.1
    have b1 := q1.2
    have q2 : (I 1 (Int32.ofNat pa + Int32.ofInt 2).toNatClampNeg).toInt = T (pa + 2) ∧ ¬ (Int32.ofNat pa + Int32.ofInt 2 < 0 ∨ 700 ≤ (Int32.ofNat pa + Int32.ofInt 2).toNatClampNeg) := wIdx 2 (by omega) hT
    have t2 := q2.1
    have b2 := q2.2
    by_cases c0 : T pa = 110
    case neg =>
      refine zpcF (M := (zh197, zc197)) 197 5 rfl zckm197 (fun _ _ _ _ h => h) ?_
      refine zdecF (show ¬ I 2 60 = Int32.ofInt 32 from den (by rw [hw 60 110 rfl, oI (by decide) (by decide)] <;> omega)) (fun _ => ?_)
      refine zdecF (show ¬ I 2 61 = Int32.ofInt 32 from den (by rw [hw 61 111 rfl, oI (by decide) (by decide)] <;> omega)) (fun _ => ?_)
      refine zdecF (show ¬ I 2 62 = Int32.ofInt 32 from den (by rw [hw 62 116 rfl, oI (by decide) (by decide)] <;> omega)) (fun _ => ?_)
      refine zdecT (show I 2 63 = Int32.ofInt 32 from deq (by rw [hw 63 32 rfl, oI (by decide) (by decide)] <;> omega)) (fun _ => ?_)
      refine zdecT (show Int32.ofInt 3 = (Int32.ofNat (pa + m)) - (Int32.ofNat pa) from deq (by rw [oI (by decide) (by decide), hba] <;> omega)) (fun _ => ?_)
      refine zdecF b0 (fun _ => ?_)
      refine zdecF (show ¬ I 2 60 = I 1 (Int32.ofNat pa + Int32.ofInt 0).toNatClampNeg from den (by rw [hw 60 110 rfl, t0] <;> omega)) (fun _ => ?_)
      refine zX_sub (fun x hx => ?_) (hN (by omega))
      simp only [List.mem_cons, List.not_mem_nil, or_false] at hx
      rcases hx with rfl | rfl | rfl | rfl | rfl
      all_goals first | exact List.Mem.head _ | exact List.Mem.tail _ (List.Mem.head _) | exact List.Mem.tail _ (List.Mem.tail _ (List.Mem.head _)) | exact List.Mem.tail _ (List.Mem.tail _ (List.Mem.tail _ (List.Mem.head _))) | exact List.Mem.tail _ (List.Mem.tail _ (List.Mem.tail _ (List.Mem.tail _ (List.Mem.head _)))) | exact List.Mem.tail _ (List.Mem.tail _ (List.Mem.tail _ (List.Mem.tail _ (List.Mem.tail _ (List.Mem.head _))))) | exact List.Mem.tail _ (List.Mem.tail _ (List.Mem.tail _ (List.Mem.tail _ (List.Mem.tail _ (List.Mem.tail _ (List.Mem.head _)))))) | exact List.Mem.tail _ (List.Mem.tail _ (List.Mem.tail _ (List.Mem.tail _ (List.Mem.tail _ (List.Mem.tail _ (List.Mem.tail _ (List.Mem.head _)))))))
    by_cases c1 : T (pa + 1) = 111
    case neg =>
      refine zpcF (M := (zh197, zc197)) 197 5 rfl zckm197 (fun _ _ _ _ h => h) ?_
      refine zdecF (show ¬ I 2 60 = Int32.ofInt 32 from den (by rw [hw 60 110 rfl, oI (by decide) (by decide)] <;> omega)) (fun _ => ?_)
      refine zdecF (show ¬ I 2 61 = Int32.ofInt 32 from den (by rw [hw 61 111 rfl, oI (by decide) (by decide)] <;> omega)) (fun _ => ?_)
      refine zdecF (show ¬ I 2 62 = Int32.ofInt 32 from den (by rw [hw 62 116 rfl, oI (by decide) (by decide)] <;> omega)) (fun _ => ?_)
      refine zdecT (show I 2 63 = Int32.ofInt 32 from deq (by rw [hw 63 32 rfl, oI (by decide) (by decide)] <;> omega)) (fun _ => ?_)
      refine zdecT (show Int32.ofInt 3 = (Int32.ofNat (pa + m)) - (Int32.ofNat pa) from deq (by rw [oI (by decide) (by decide), hba] <;> omega)) (fun _ => ?_)
      refine zdecF b0 (fun _ => ?_)
      refine zdecT (show I 2 60 = I 1 (Int32.ofNat pa + Int32.ofInt 0).toNatClampNeg from deq (by rw [hw 60 110 rfl, t0] <;> omega)) (fun _ => ?_)
      refine zdecF b1 (fun _ => ?_)
      refine zdecF (show ¬ I 2 61 = I 1 (Int32.ofNat pa + Int32.ofInt 1).toNatClampNeg from den (by rw [hw 61 111 rfl, t1] <;> omega)) (fun _ => ?_)
      refine zX_sub (fun x hx => ?_) (hN (by omega))
      simp only [List.mem_cons, List.not_mem_nil, or_false] at hx
      rcases hx with rfl | rfl | rfl | rfl | rfl
      all_goals first | exact List.Mem.head _ | exact List.Mem.tail _ (List.Mem.head _) | exact List.Mem.tail _ (List.Mem.tail _ (List.Mem.head _)) | exact List.Mem.tail _ (List.Mem.tail _ (List.Mem.tail _ (List.Mem.head _))) | exact List.Mem.tail _ (List.Mem.tail _ (List.Mem.tail _ (List.Mem.tail _ (List.Mem.head _)))) | exact List.Mem.tail _ (List.Mem.tail _ (List.Mem.tail _ (List.Mem.tail _ (List.Mem.tail _ (List.Mem.head _))))) | exact List.Mem.tail _ (List.Mem.tail _ (List.Mem.tail _ (List.Mem.tail _ (List.Mem.tail _ (List.Mem.tail _ (List.Mem.head _)))))) | exact List.Mem.tail _ (List.Mem.tail _ (List.Mem.tail _ (List.Mem.tail _ (List.Mem.tail _ (List.Mem.tail _ (List.Mem.tail _ (List.Mem.head _)))))))
    by_cases c2 : T (pa + 2) = 116
    case neg =>
      refine zpcF (M := (zh197, zc197)) 197 5 rfl zckm197 (fun _ _ _ _ h => h) ?_
      refine zdecF (show ¬ I 2 60 = Int32.ofInt 32 from den (by rw [hw 60 110 rfl, oI (by decide) (by decide)] <;> omega)) (fun _ => ?_)
      refine zdecF (show ¬ I 2 61 = Int32.ofInt 32 from den (by rw [hw 61 111 rfl, oI (by decide) (by decide)] <;> omega)) (fun _ => ?_)
      refine zdecF (show ¬ I 2 62 = Int32.ofInt 32 from den (by rw [hw 62 116 rfl, oI (by decide) (by decide)] <;> omega)) (fun _ => ?_)
      refine zdecT (show I 2 63 = Int32.ofInt 32 from deq (by rw [hw 63 32 rfl, oI (by decide) (by decide)] <;> omega)) (fun _ => ?_)
      refine zdecT (show Int32.ofInt 3 = (Int32.ofNat (pa + m)) - (Int32.ofNat pa) from deq (by rw [oI (by decide) (by decide), hba] <;> omega)) (fun _ => ?_)
      refine zdecF b0 (fun _ => ?_)
      refine zdecT (show I 2 60 = I 1 (Int32.ofNat pa + Int32.ofInt 0).toNatClampNeg from deq (by rw [hw 60 110 rfl, t0] <;> omega)) (fun _ => ?_)
      refine zdecF b1 (fun _ => ?_)
      refine zdecT (show I 2 61 = I 1 (Int32.ofNat pa + Int32.ofInt 1).toNatClampNeg from deq (by rw [hw 61 111 rfl, t1] <;> omega)) (fun _ => ?_)
      refine zdecF b2 (fun _ => ?_)
      refine zdecF (show ¬ I 2 62 = I 1 (Int32.ofNat pa + Int32.ofInt 2).toNatClampNeg from den (by rw [hw 62 116 rfl, t2] <;> omega)) (fun _ => ?_)
      refine zX_sub (fun x hx => ?_) (hN (by omega))
      simp only [List.mem_cons, List.not_mem_nil, or_false] at hx
      rcases hx with rfl | rfl | rfl | rfl | rfl
      all_goals first | exact List.Mem.head _ | exact List.Mem.tail _ (List.Mem.head _) | exact List.Mem.tail _ (List.Mem.tail _ (List.Mem.head _)) | exact List.Mem.tail _ (List.Mem.tail _ (List.Mem.tail _ (List.Mem.head _))) | exact List.Mem.tail _ (List.Mem.tail _ (List.Mem.tail _ (List.Mem.tail _ (List.Mem.head _)))) | exact List.Mem.tail _ (List.Mem.tail _ (List.Mem.tail _ (List.Mem.tail _ (List.Mem.tail _ (List.Mem.head _))))) | exact List.Mem.tail _ (List.Mem.tail _ (List.Mem.tail _ (List.Mem.tail _ (List.Mem.tail _ (List.Mem.tail _ (List.Mem.head _)))))) | exact List.Mem.tail _ (List.Mem.tail _ (List.Mem.tail _ (List.Mem.tail _ (List.Mem.tail _ (List.Mem.tail _ (List.Mem.tail _ (List.Mem.head _)))))))
    refine zpcF (M := (zh197, zc197)) 197 5 rfl zckm197 (fun _ _ _ _ h => h) ?_
    refine zdecF (show ¬ I 2 60 = Int32.ofInt 32 from den (by rw [hw 60 110 rfl, oI (by decide) (by decide)] <;> omega)) (fun _ => ?_)
    refine zdecF (show ¬ I 2 61 = Int32.ofInt 32 from den (by rw [hw 61 111 rfl, oI (by decide) (by decide)] <;> omega)) (fun _ => ?_)
    refine zdecF (show ¬ I 2 62 = Int32.ofInt 32 from den (by rw [hw 62 116 rfl, oI (by decide) (by decide)] <;> omega)) (fun _ => ?_)
    refine zdecT (show I 2 63 = Int32.ofInt 32 from deq (by rw [hw 63 32 rfl, oI (by decide) (by decide)] <;> omega)) (fun _ => ?_)
    refine zdecT (show Int32.ofInt 3 = (Int32.ofNat (pa + m)) - (Int32.ofNat pa) from deq (by rw [oI (by decide) (by decide), hba] <;> omega)) (fun _ => ?_)
    refine zdecF b0 (fun _ => ?_)
    refine zdecT (show I 2 60 = I 1 (Int32.ofNat pa + Int32.ofInt 0).toNatClampNeg from deq (by rw [hw 60 110 rfl, t0] <;> omega)) (fun _ => ?_)
    refine zdecF b1 (fun _ => ?_)
    refine zdecT (show I 2 61 = I 1 (Int32.ofNat pa + Int32.ofInt 1).toNatClampNeg from deq (by rw [hw 61 111 rfl, t1] <;> omega)) (fun _ => ?_)
    refine zdecF b2 (fun _ => ?_)
    refine zdecT (show I 2 62 = I 1 (Int32.ofNat pa + Int32.ofInt 2).toNatClampNeg from deq (by rw [hw 62 116 rfl, t2] <;> omega)) (fun _ => ?_)
    exact hY ⟨hm, c0, c1, c2⟩
  · refine zpcF (M := (zh197, zc197)) 197 5 rfl zckm197 (fun _ _ _ _ h => h) ?_
    refine zdecF (show ¬ I 2 60 = Int32.ofInt 32 from den (by rw [hw 60 110 rfl, oI (by decide) (by decide)] <;> omega)) (fun _ => ?_)
    refine zdecF (show ¬ I 2 61 = Int32.ofInt 32 from den (by rw [hw 61 111 rfl, oI (by decide) (by decide)] <;> omega)) (fun _ => ?_)
    refine zdecF (show ¬ I 2 62 = Int32.ofInt 32 from den (by rw [hw 62 116 rfl, oI (by decide) (by decide)] <;> omega)) (fun _ => ?_)
    refine zdecT (show I 2 63 = Int32.ofInt 32 from deq (by rw [hw 63 32 rfl, oI (by decide) (by decide)] <;> omega)) (fun _ => ?_)
    refine zdecF (show ¬ Int32.ofInt 3 = (Int32.ofNat (pa + m)) - (Int32.ofNat pa) from den (by rw [oI (by decide) (by decide), hba] <;> omega)) (fun _ => ?_)
    refine zX_sub (fun x hx => ?_) (hN (by omega))
    simp only [List.mem_cons, List.not_mem_nil, or_false] at hx
    rcases hx with rfl | rfl | rfl | rfl | rfl
    all_goals first | exact List.Mem.head _ | exact List.Mem.tail _ (List.Mem.head _) | exact List.Mem.tail _ (List.Mem.tail _ (List.Mem.head _)) | exact List.Mem.tail _ (List.Mem.tail _ (List.Mem.tail _ (List.Mem.head _))) | exact List.Mem.tail _ (List.Mem.tail _ (List.Mem.tail _ (List.Mem.tail _ (List.Mem.head _)))) | exact List.Mem.tail _ (List.Mem.tail _ (List.Mem.tail _ (List.Mem.tail _ (List.Mem.tail _ (List.Mem.head _))))) | exact List.Mem.tail _ (List.Mem.tail _ (List.Mem.tail _ (List.Mem.tail _ (List.Mem.tail _ (List.Mem.tail _ (List.Mem.head _)))))) | exact List.Mem.tail _ (List.Mem.tail _ (List.Mem.tail _ (List.Mem.tail _ (List.Mem.tail _ (List.Mem.tail _ (List.Mem.tail _ (List.Mem.head _)))))))
set_option maxRecDepth 100000 in
set_option maxHeartbeats 4000000 in
theorem zw14 {l : Launch} {Γ : zG} {d : Nat} {Kp : Option Value → zH → Prop} {I : zHI} {Lg : zHL} {P : zHP} {T : Nat → Int} {pa m : Nat} (hH : wH I P T pa m) (hY : mtW T pa m 14 → Kp (some (.int (Int32.ofInt 14))) (zshM, I, Lg, P))
    (hN : ¬ mtW T pa m 14 → zX l Γ false (d + 1) zh197 (zMQ' Γ false zh197 Kp) 0 0 5 [(4, .int (Int32.ofInt 70)), (3, .int (Int32.ofInt 15)), (0, .ref 0), (1, .int (Int32.ofNat pa)), (2, .int (Int32.ofNat (pa + m)))] [] (zshM, I, Lg, P)) : zX l Γ false (d + 1) zh197 (zMQ' Γ false zh197 Kp) 0 0 5 [(4, .int (Int32.ofInt 64)), (3, .int (Int32.ofInt 14)), (0, .ref 0), (1, .int (Int32.ofNat pa)), (2, .int (Int32.ofNat (pa + m)))] [] (zshM, I, Lg, P) := by
  obtain ⟨hP0, hP3, hw, hm1, hpm, hT⟩ := hH
  have hba : (Int32.ofNat (pa + m) - Int32.ofNat pa).toInt = (m : Int) := by
    rw [Int32.toInt_sub, oN (by omega), oN (by omega), s32r _ (by show (-2147483648 : Int) ≤ _; omega) (by show _ ≤ (2147483647 : Int); omega)]
    omega
  have eP := wPx hP0 hP3
  rw [eP] at hY hN ⊢
  have hN : ¬ (m = 5 ∧ T pa = 97 ∧ T (pa + 1) = 98 ∧ T (pa + 2) = 111 ∧ T (pa + 3) = 118 ∧ T (pa + 4) = 101) → _ := hN
  have hY : (m = 5 ∧ T pa = 97 ∧ T (pa + 1) = 98 ∧ T (pa + 2) = 111 ∧ T (pa + 3) = 118 ∧ T (pa + 4) = 101) → _ := hY
  by_cases hm : m = 5
  · have q0 : (I 1 (Int32.ofNat pa + Int32.ofInt 0).toNatClampNeg).toInt = T pa ∧ ¬ (Int32.ofNat pa + Int32.ofInt 0 < 0 ∨ 700 ≤ (Int32.ofNat pa + Int32.ofInt 0).toNatClampNeg) := wIdx 0 (by omega) hT
    have t0 := q0.1
    have b0 := q0.2
    have q1 : (I 1 (Int32.ofNat pa + Int32.ofInt 1).toNatClampNeg).toInt = T (pa + 1) ∧ ¬ (Int32.ofNat pa + Int32.ofInt 1 < 0 ∨ 700 ≤ (Int32.ofNat pa + Int32.ofInt 1).toNatClampNeg) := wIdx 1 (by omega) hT
    have t1 := q1.1
    have b1 := q1.2
    have q2 : (I 1 (Int32.ofNat pa + Int32.ofInt 2).toNatClampNeg).toInt = T (pa + 2) ∧ ¬ (Int32.ofNat pa + Int32.ofInt 2 < 0 ∨ 700 ≤ (Int32.ofNat pa + Int32.ofInt 2).toNatClampNeg) := wIdx 2 (by omega) hT
    have t2 := q2.1
    have b2 := q2.2
    have q3 : (I 1 (Int32.ofNat pa + Int32.ofInt 3).toNatClampNeg).toInt = T (pa + 3) ∧ ¬ (Int32.ofNat pa + Int32.ofInt 3 < 0 ∨ 700 ≤ (Int32.ofNat pa + Int32.ofInt 3).toNatClampNeg) := wIdx 3 (by omega) hT
    have t3 := q3.1
    have b3 := q3.2
    have q4 : (I 1 (Int32.ofNat pa + Int32.ofInt 4).toNatClampNeg).toInt = T (pa + 4) ∧ ¬ (Int32.ofNat pa + Int32.ofInt 4 < 0 ∨ 700 ≤ (Int32.ofNat pa + Int32.ofInt 4).toNatClampNeg) := wIdx 4 (by omega) hT
    have t4 := q4.1
    have b4 := q4.2
    by_cases c0 : T pa = 97
    case neg =>
      refine zpcF (M := (zh197, zc197)) 197 5 rfl zckm197 (fun _ _ _ _ h => h) ?_
      refine zdecF (show ¬ I 2 64 = Int32.ofInt 32 from den (by rw [hw 64 97 rfl, oI (by decide) (by decide)] <;> omega)) (fun _ => ?_)
      refine zdecF (show ¬ I 2 65 = Int32.ofInt 32 from den (by rw [hw 65 98 rfl, oI (by decide) (by decide)] <;> omega)) (fun _ => ?_)
      refine zdecF (show ¬ I 2 66 = Int32.ofInt 32 from den (by rw [hw 66 111 rfl, oI (by decide) (by decide)] <;> omega)) (fun _ => ?_)
      refine zdecF (show ¬ I 2 67 = Int32.ofInt 32 from den (by rw [hw 67 118 rfl, oI (by decide) (by decide)] <;> omega)) (fun _ => ?_)
      refine zdecF (show ¬ I 2 68 = Int32.ofInt 32 from den (by rw [hw 68 101 rfl, oI (by decide) (by decide)] <;> omega)) (fun _ => ?_)
      refine zdecT (show I 2 69 = Int32.ofInt 32 from deq (by rw [hw 69 32 rfl, oI (by decide) (by decide)] <;> omega)) (fun _ => ?_)
      refine zdecT (show Int32.ofInt 5 = (Int32.ofNat (pa + m)) - (Int32.ofNat pa) from deq (by rw [oI (by decide) (by decide), hba] <;> omega)) (fun _ => ?_)
      refine zdecF b0 (fun _ => ?_)
      refine zdecF (show ¬ I 2 64 = I 1 (Int32.ofNat pa + Int32.ofInt 0).toNatClampNeg from den (by rw [hw 64 97 rfl, t0] <;> omega)) (fun _ => ?_)
      refine zX_sub (fun x hx => ?_) (hN (by omega))
      simp only [List.mem_cons, List.not_mem_nil, or_false] at hx
      rcases hx with rfl | rfl | rfl | rfl | rfl
      all_goals first | exact List.Mem.head _ | exact List.Mem.tail _ (List.Mem.head _) | exact List.Mem.tail _ (List.Mem.tail _ (List.Mem.head _)) | exact List.Mem.tail _ (List.Mem.tail _ (List.Mem.tail _ (List.Mem.head _))) | exact List.Mem.tail _ (List.Mem.tail _ (List.Mem.tail _ (List.Mem.tail _ (List.Mem.head _)))) | exact List.Mem.tail _ (List.Mem.tail _ (List.Mem.tail _ (List.Mem.tail _ (List.Mem.tail _ (List.Mem.head _))))) | exact List.Mem.tail _ (List.Mem.tail _ (List.Mem.tail _ (List.Mem.tail _ (List.Mem.tail _ (List.Mem.tail _ (List.Mem.head _)))))) | exact List.Mem.tail _ (List.Mem.tail _ (List.Mem.tail _ (List.Mem.tail _ (List.Mem.tail _ (List.Mem.tail _ (List.Mem.tail _ (List.Mem.head _)))))))
    by_cases c1 : T (pa + 1) = 98
    case neg =>
      refine zpcF (M := (zh197, zc197)) 197 5 rfl zckm197 (fun _ _ _ _ h => h) ?_
      refine zdecF (show ¬ I 2 64 = Int32.ofInt 32 from den (by rw [hw 64 97 rfl, oI (by decide) (by decide)] <;> omega)) (fun _ => ?_)
      refine zdecF (show ¬ I 2 65 = Int32.ofInt 32 from den (by rw [hw 65 98 rfl, oI (by decide) (by decide)] <;> omega)) (fun _ => ?_)
      refine zdecF (show ¬ I 2 66 = Int32.ofInt 32 from den (by rw [hw 66 111 rfl, oI (by decide) (by decide)] <;> omega)) (fun _ => ?_)
      refine zdecF (show ¬ I 2 67 = Int32.ofInt 32 from den (by rw [hw 67 118 rfl, oI (by decide) (by decide)] <;> omega)) (fun _ => ?_)
      refine zdecF (show ¬ I 2 68 = Int32.ofInt 32 from den (by rw [hw 68 101 rfl, oI (by decide) (by decide)] <;> omega)) (fun _ => ?_)
      refine zdecT (show I 2 69 = Int32.ofInt 32 from deq (by rw [hw 69 32 rfl, oI (by decide) (by decide)] <;> omega)) (fun _ => ?_)
      refine zdecT (show Int32.ofInt 5 = (Int32.ofNat (pa + m)) - (Int32.ofNat pa) from deq (by rw [oI (by decide) (by decide), hba] <;> omega)) (fun _ => ?_)
      refine zdecF b0 (fun _ => ?_)
      refine zdecT (show I 2 64 = I 1 (Int32.ofNat pa + Int32.ofInt 0).toNatClampNeg from deq (by rw [hw 64 97 rfl, t0] <;> omega)) (fun _ => ?_)
      refine zdecF b1 (fun _ => ?_)
      refine zdecF (show ¬ I 2 65 = I 1 (Int32.ofNat pa + Int32.ofInt 1).toNatClampNeg from den (by rw [hw 65 98 rfl, t1] <;> omega)) (fun _ => ?_)
      refine zX_sub (fun x hx => ?_) (hN (by omega))
      simp only [List.mem_cons, List.not_mem_nil, or_false] at hx
      rcases hx with rfl | rfl | rfl | rfl | rfl
      all_goals first | exact List.Mem.head _ | exact List.Mem.tail _ (List.Mem.head _) | exact List.Mem.tail _ (List.Mem.tail _ (List.Mem.head _)) | exact List.Mem.tail _ (List.Mem.tail _ (List.Mem.tail _ (List.Mem.head _))) | exact List.Mem.tail _ (List.Mem.tail _ (List.Mem.tail _ (List.Mem.tail _ (List.Mem.head _)))) | exact List.Mem.tail _ (List.Mem.tail _ (List.Mem.tail _ (List.Mem.tail _ (List.Mem.tail _ (List.Mem.head _))))) | exact List.Mem.tail _ (List.Mem.tail _ (List.Mem.tail _ (List.Mem.tail _ (List.Mem.tail _ (List.Mem.tail _ (List.Mem.head _)))))) | exact List.Mem.tail _ (List.Mem.tail _ (List.Mem.tail _ (List.Mem.tail _ (List.Mem.tail _ (List.Mem.tail _ (List.Mem.tail _ (List.Mem.head _)))))))
    by_cases c2 : T (pa + 2) = 111
    case neg =>
      refine zpcF (M := (zh197, zc197)) 197 5 rfl zckm197 (fun _ _ _ _ h => h) ?_
      refine zdecF (show ¬ I 2 64 = Int32.ofInt 32 from den (by rw [hw 64 97 rfl, oI (by decide) (by decide)] <;> omega)) (fun _ => ?_)
      refine zdecF (show ¬ I 2 65 = Int32.ofInt 32 from den (by rw [hw 65 98 rfl, oI (by decide) (by decide)] <;> omega)) (fun _ => ?_)
      refine zdecF (show ¬ I 2 66 = Int32.ofInt 32 from den (by rw [hw 66 111 rfl, oI (by decide) (by decide)] <;> omega)) (fun _ => ?_)
      refine zdecF (show ¬ I 2 67 = Int32.ofInt 32 from den (by rw [hw 67 118 rfl, oI (by decide) (by decide)] <;> omega)) (fun _ => ?_)
      refine zdecF (show ¬ I 2 68 = Int32.ofInt 32 from den (by rw [hw 68 101 rfl, oI (by decide) (by decide)] <;> omega)) (fun _ => ?_)
      refine zdecT (show I 2 69 = Int32.ofInt 32 from deq (by rw [hw 69 32 rfl, oI (by decide) (by decide)] <;> omega)) (fun _ => ?_)
      refine zdecT (show Int32.ofInt 5 = (Int32.ofNat (pa + m)) - (Int32.ofNat pa) from deq (by rw [oI (by decide) (by decide), hba] <;> omega)) (fun _ => ?_)
      refine zdecF b0 (fun _ => ?_)
      refine zdecT (show I 2 64 = I 1 (Int32.ofNat pa + Int32.ofInt 0).toNatClampNeg from deq (by rw [hw 64 97 rfl, t0] <;> omega)) (fun _ => ?_)
      refine zdecF b1 (fun _ => ?_)
      refine zdecT (show I 2 65 = I 1 (Int32.ofNat pa + Int32.ofInt 1).toNatClampNeg from deq (by rw [hw 65 98 rfl, t1] <;> omega)) (fun _ => ?_)
      refine zdecF b2 (fun _ => ?_)
      refine zdecF (show ¬ I 2 66 = I 1 (Int32.ofNat pa + Int32.ofInt 2).toNatClampNeg from den (by rw [hw 66 111 rfl, t2] <;> omega)) (fun _ => ?_)
      refine zX_sub (fun x hx => ?_) (hN (by omega))
      simp only [List.mem_cons, List.not_mem_nil, or_false] at hx
      rcases hx with rfl | rfl | rfl | rfl | rfl
      all_goals first | exact List.Mem.head _ | exact List.Mem.tail _ (List.Mem.head _) | exact List.Mem.tail _ (List.Mem.tail _ (List.Mem.head _)) | exact List.Mem.tail _ (List.Mem.tail _ (List.Mem.tail _ (List.Mem.head _))) | exact List.Mem.tail _ (List.Mem.tail _ (List.Mem.tail _ (List.Mem.tail _ (List.Mem.head _)))) | exact List.Mem.tail _ (List.Mem.tail _ (List.Mem.tail _ (List.Mem.tail _ (List.Mem.tail _ (List.Mem.head _))))) | exact List.Mem.tail _ (List.Mem.tail _ (List.Mem.tail _ (List.Mem.tail _ (List.Mem.tail _ (List.Mem.tail _ (List.Mem.head _)))))) | exact List.Mem.tail _ (List.Mem.tail _ (List.Mem.tail _ (List.Mem.tail _ (List.Mem.tail _ (List.Mem.tail _ (List.Mem.tail _ (List.Mem.head _)))))))
    by_cases c3 : T (pa + 3) = 118
    case neg =>
      refine zpcF (M := (zh197, zc197)) 197 5 rfl zckm197 (fun _ _ _ _ h => h) ?_
      refine zdecF (show ¬ I 2 64 = Int32.ofInt 32 from den (by rw [hw 64 97 rfl, oI (by decide) (by decide)] <;> omega)) (fun _ => ?_)
      refine zdecF (show ¬ I 2 65 = Int32.ofInt 32 from den (by rw [hw 65 98 rfl, oI (by decide) (by decide)] <;> omega)) (fun _ => ?_)
      refine zdecF (show ¬ I 2 66 = Int32.ofInt 32 from den (by rw [hw 66 111 rfl, oI (by decide) (by decide)] <;> omega)) (fun _ => ?_)
      refine zdecF (show ¬ I 2 67 = Int32.ofInt 32 from den (by rw [hw 67 118 rfl, oI (by decide) (by decide)] <;> omega)) (fun _ => ?_)
      refine zdecF (show ¬ I 2 68 = Int32.ofInt 32 from den (by rw [hw 68 101 rfl, oI (by decide) (by decide)] <;> omega)) (fun _ => ?_)
      refine zdecT (show I 2 69 = Int32.ofInt 32 from deq (by rw [hw 69 32 rfl, oI (by decide) (by decide)] <;> omega)) (fun _ => ?_)
      refine zdecT (show Int32.ofInt 5 = (Int32.ofNat (pa + m)) - (Int32.ofNat pa) from deq (by rw [oI (by decide) (by decide), hba] <;> omega)) (fun _ => ?_)
      refine zdecF b0 (fun _ => ?_)
      refine zdecT (show I 2 64 = I 1 (Int32.ofNat pa + Int32.ofInt 0).toNatClampNeg from deq (by rw [hw 64 97 rfl, t0] <;> omega)) (fun _ => ?_)
      refine zdecF b1 (fun _ => ?_)
      refine zdecT (show I 2 65 = I 1 (Int32.ofNat pa + Int32.ofInt 1).toNatClampNeg from deq (by rw [hw 65 98 rfl, t1] <;> omega)) (fun _ => ?_)
      refine zdecF b2 (fun _ => ?_)
      refine zdecT (show I 2 66 = I 1 (Int32.ofNat pa + Int32.ofInt 2).toNatClampNeg from deq (by rw [hw 66 111 rfl, t2] <;> omega)) (fun _ => ?_)
      refine zdecF b3 (fun _ => ?_)
      refine zdecF (show ¬ I 2 67 = I 1 (Int32.ofNat pa + Int32.ofInt 3).toNatClampNeg from den (by rw [hw 67 118 rfl, t3] <;> omega)) (fun _ => ?_)
      refine zX_sub (fun x hx => ?_) (hN (by omega))
      simp only [List.mem_cons, List.not_mem_nil, or_false] at hx
      rcases hx with rfl | rfl | rfl | rfl | rfl
      all_goals first | exact List.Mem.head _ | exact List.Mem.tail _ (List.Mem.head _) | exact List.Mem.tail _ (List.Mem.tail _ (List.Mem.head _)) | exact List.Mem.tail _ (List.Mem.tail _ (List.Mem.tail _ (List.Mem.head _))) | exact List.Mem.tail _ (List.Mem.tail _ (List.Mem.tail _ (List.Mem.tail _ (List.Mem.head _)))) | exact List.Mem.tail _ (List.Mem.tail _ (List.Mem.tail _ (List.Mem.tail _ (List.Mem.tail _ (List.Mem.head _))))) | exact List.Mem.tail _ (List.Mem.tail _ (List.Mem.tail _ (List.Mem.tail _ (List.Mem.tail _ (List.Mem.tail _ (List.Mem.head _)))))) | exact List.Mem.tail _ (List.Mem.tail _ (List.Mem.tail _ (List.Mem.tail _ (List.Mem.tail _ (List.Mem.tail _ (List.Mem.tail _ (List.Mem.head _)))))))
    by_cases c4 : T (pa + 4) = 101
    case neg =>
      refine zpcF (M := (zh197, zc197)) 197 5 rfl zckm197 (fun _ _ _ _ h => h) ?_
      refine zdecF (show ¬ I 2 64 = Int32.ofInt 32 from den (by rw [hw 64 97 rfl, oI (by decide) (by decide)] <;> omega)) (fun _ => ?_)
      refine zdecF (show ¬ I 2 65 = Int32.ofInt 32 from den (by rw [hw 65 98 rfl, oI (by decide) (by decide)] <;> omega)) (fun _ => ?_)
      refine zdecF (show ¬ I 2 66 = Int32.ofInt 32 from den (by rw [hw 66 111 rfl, oI (by decide) (by decide)] <;> omega)) (fun _ => ?_)
      refine zdecF (show ¬ I 2 67 = Int32.ofInt 32 from den (by rw [hw 67 118 rfl, oI (by decide) (by decide)] <;> omega)) (fun _ => ?_)
      refine zdecF (show ¬ I 2 68 = Int32.ofInt 32 from den (by rw [hw 68 101 rfl, oI (by decide) (by decide)] <;> omega)) (fun _ => ?_)
      refine zdecT (show I 2 69 = Int32.ofInt 32 from deq (by rw [hw 69 32 rfl, oI (by decide) (by decide)] <;> omega)) (fun _ => ?_)
      refine zdecT (show Int32.ofInt 5 = (Int32.ofNat (pa + m)) - (Int32.ofNat pa) from deq (by rw [oI (by decide) (by decide), hba] <;> omega)) (fun _ => ?_)
      refine zdecF b0 (fun _ => ?_)
      refine zdecT (show I 2 64 = I 1 (Int32.ofNat pa + Int32.ofInt 0).toNatClampNeg from deq (by rw [hw 64 97 rfl, t0] <;> omega)) (fun _ => ?_)
      refine zdecF b1 (fun _ => ?_)
      refine zdecT (show I 2 65 = I 1 (Int32.ofNat pa + Int32.ofInt 1).toNatClampNeg from deq (by rw [hw 65 98 rfl, t1] <;> omega)) (fun _ => ?_)
      refine zdecF b2 (fun _ => ?_)
      refine zdecT (show I 2 66 = I 1 (Int32.ofNat pa + Int32.ofInt 2).toNatClampNeg from deq (by rw [hw 66 111 rfl, t2] <;> omega)) (fun _ => ?_)
      refine zdecF b3 (fun _ => ?_)
      refine zdecT (show I 2 67 = I 1 (Int32.ofNat pa + Int32.ofInt 3).toNatClampNeg from deq (by rw [hw 67 118 rfl, t3] <;> omega)) (fun _ => ?_)
      refine zdecF b4 (fun _ => ?_)
      refine zdecF (show ¬ I 2 68 = I 1 (Int32.ofNat pa + Int32.ofInt 4).toNatClampNeg from den (by rw [hw 68 101 rfl, t4] <;> omega)) (fun _ => ?_)
      refine zX_sub (fun x hx => ?_) (hN (by omega))
      simp only [List.mem_cons, List.not_mem_nil, or_false] at hx
      rcases hx with rfl | rfl | rfl | rfl | rfl
      all_goals first | exact List.Mem.head _ | exact List.Mem.tail _ (List.Mem.head _) | exact List.Mem.tail _ (List.Mem.tail _ (List.Mem.head _)) | exact List.Mem.tail _ (List.Mem.tail _ (List.Mem.tail _ (List.Mem.head _))) | exact List.Mem.tail _ (List.Mem.tail _ (List.Mem.tail _ (List.Mem.tail _ (List.Mem.head _)))) | exact List.Mem.tail _ (List.Mem.tail _ (List.Mem.tail _ (List.Mem.tail _ (List.Mem.tail _ (List.Mem.head _))))) | exact List.Mem.tail _ (List.Mem.tail _ (List.Mem.tail _ (List.Mem.tail _ (List.Mem.tail _ (List.Mem.tail _ (List.Mem.head _)))))) | exact List.Mem.tail _ (List.Mem.tail _ (List.Mem.tail _ (List.Mem.tail _ (List.Mem.tail _ (List.Mem.tail _ (List.Mem.tail _ (List.Mem.head _)))))))
    refine zpcF (M := (zh197, zc197)) 197 5 rfl zckm197 (fun _ _ _ _ h => h) ?_
    refine zdecF (show ¬ I 2 64 = Int32.ofInt 32 from den (by rw [hw 64 97 rfl, oI (by decide) (by decide)] <;> omega)) (fun _ => ?_)
    refine zdecF (show ¬ I 2 65 = Int32.ofInt 32 from den (by rw [hw 65 98 rfl, oI (by decide) (by decide)] <;> omega)) (fun _ => ?_)
    refine zdecF (show ¬ I 2 66 = Int32.ofInt 32 from den (by rw [hw 66 111 rfl, oI (by decide) (by decide)] <;> omega)) (fun _ => ?_)
    refine zdecF (show ¬ I 2 67 = Int32.ofInt 32 from den (by rw [hw 67 118 rfl, oI (by decide) (by decide)] <;> omega)) (fun _ => ?_)
    refine zdecF (show ¬ I 2 68 = Int32.ofInt 32 from den (by rw [hw 68 101 rfl, oI (by decide) (by decide)] <;> omega)) (fun _ => ?_)
    refine zdecT (show I 2 69 = Int32.ofInt 32 from deq (by rw [hw 69 32 rfl, oI (by decide) (by decide)] <;> omega)) (fun _ => ?_)
    refine zdecT (show Int32.ofInt 5 = (Int32.ofNat (pa + m)) - (Int32.ofNat pa) from deq (by rw [oI (by decide) (by decide), hba] <;> omega)) (fun _ => ?_)
    refine zdecF b0 (fun _ => ?_)
    refine zdecT (show I 2 64 = I 1 (Int32.ofNat pa + Int32.ofInt 0).toNatClampNeg from deq (by rw [hw 64 97 rfl, t0] <;> omega)) (fun _ => ?_)
    refine zdecF b1 (fun _ => ?_)
    refine zdecT (show I 2 65 = I 1 (Int32.ofNat pa + Int32.ofInt 1).toNatClampNeg from deq (by rw [hw 65 98 rfl, t1] <;> omega)) (fun _ => ?_)
    refine zdecF b2 (fun _ => ?_)
    refine zdecT (show I 2 66 = I 1 (Int32.ofNat pa + Int32.ofInt 2).toNatClampNeg from deq (by rw [hw 66 111 rfl, t2] <;> omega)) (fun _ => ?_)
    refine zdecF b3 (fun _ => ?_)
    refine zdecT (show I 2 67 = I 1 (Int32.ofNat pa + Int32.ofInt 3).toNatClampNeg from deq (by rw [hw 67 118 rfl, t3] <;> omega)) (fun _ => ?_)
    refine zdecF b4 (fun _ => ?_)
    refine zdecT (show I 2 68 = I 1 (Int32.ofNat pa + Int32.ofInt 4).toNatClampNeg from deq (by rw [hw 68 101 rfl, t4] <;> omega)) (fun _ => ?_)
    exact hY ⟨hm, c0, c1, c2, c3, c4⟩
  · refine zpcF (M := (zh197, zc197)) 197 5 rfl zckm197 (fun _ _ _ _ h => h) ?_
    refine zdecF (show ¬ I 2 64 = Int32.ofInt 32 from den (by rw [hw 64 97 rfl, oI (by decide) (by decide)] <;> omega)) (fun _ => ?_)
    refine zdecF (show ¬ I 2 65 = Int32.ofInt 32 from den (by rw [hw 65 98 rfl, oI (by decide) (by decide)] <;> omega)) (fun _ => ?_)
    refine zdecF (show ¬ I 2 66 = Int32.ofInt 32 from den (by rw [hw 66 111 rfl, oI (by decide) (by decide)] <;> omega)) (fun _ => ?_)
    refine zdecF (show ¬ I 2 67 = Int32.ofInt 32 from den (by rw [hw 67 118 rfl, oI (by decide) (by decide)] <;> omega)) (fun _ => ?_)
    refine zdecF (show ¬ I 2 68 = Int32.ofInt 32 from den (by rw [hw 68 101 rfl, oI (by decide) (by decide)] <;> omega)) (fun _ => ?_)
    refine zdecT (show I 2 69 = Int32.ofInt 32 from deq (by rw [hw 69 32 rfl, oI (by decide) (by decide)] <;> omega)) (fun _ => ?_)
    refine zdecF (show ¬ Int32.ofInt 5 = (Int32.ofNat (pa + m)) - (Int32.ofNat pa) from den (by rw [oI (by decide) (by decide), hba] <;> omega)) (fun _ => ?_)
    refine zX_sub (fun x hx => ?_) (hN (by omega))
    simp only [List.mem_cons, List.not_mem_nil, or_false] at hx
    rcases hx with rfl | rfl | rfl | rfl | rfl
    all_goals first | exact List.Mem.head _ | exact List.Mem.tail _ (List.Mem.head _) | exact List.Mem.tail _ (List.Mem.tail _ (List.Mem.head _)) | exact List.Mem.tail _ (List.Mem.tail _ (List.Mem.tail _ (List.Mem.head _))) | exact List.Mem.tail _ (List.Mem.tail _ (List.Mem.tail _ (List.Mem.tail _ (List.Mem.head _)))) | exact List.Mem.tail _ (List.Mem.tail _ (List.Mem.tail _ (List.Mem.tail _ (List.Mem.tail _ (List.Mem.head _))))) | exact List.Mem.tail _ (List.Mem.tail _ (List.Mem.tail _ (List.Mem.tail _ (List.Mem.tail _ (List.Mem.tail _ (List.Mem.head _)))))) | exact List.Mem.tail _ (List.Mem.tail _ (List.Mem.tail _ (List.Mem.tail _ (List.Mem.tail _ (List.Mem.tail _ (List.Mem.tail _ (List.Mem.head _)))))))
