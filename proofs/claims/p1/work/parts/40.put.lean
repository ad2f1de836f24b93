def zrI (h : zH) (q : Nat) (row : Nat → Int32) : zH := (h.1, zur h.2.1 q row, h.2.2)
theorem zrI_1 (h : zH) (q : Nat) (row : Nat → Int32) : (zrI h q row).1 = h.1 := rfl
theorem zrI_row {h : zH} {q a : Nat} {row : Nat → Int32} (ha : a ≠ q) : (zrI h q row).2.1 a = h.2.1 a := zur_row ha
theorem zsI_at (h : zH) (q k : Nat) (v : Int32) : (zsI h q k v).2.1 q k = v := by
  show zu2 h.2.1 q k v q k = v
  simp [zu2]
theorem zfold1 (h : zH) (q : Nat) (row : Nat → Int32) (i : Nat) (v : Int32) : zsI (zrI h q row) q i v = zrI h q (fun b => if b = i then v else row b) := by
  have e : zu2 (zur h.2.1 q row) q i v = zur h.2.1 q (fun b => if b = i then v else row b) := by
    funext a b
    simp only [zu2, zur]
    by_cases h1 : a = q
    · by_cases h2 : b = i
      · simp only [h1, h2, if_true]
      · simp only [h1, h2, if_true, if_false]
    · simp only [h1, if_false]
  show ((h.1, zu2 (zur h.2.1 q row) q i v, h.2.2) : zH) = (h.1, zur h.2.1 q _, h.2.2)
  rw [e]
theorem zsI_sw {h : zH} {q q' i i' : Nat} {v v' : Int32} (hq : q ≠ q') : zsI (zsI h q i v) q' i' v' = zsI (zsI h q' i' v') q i v := by
  have e : zu2 (zu2 h.2.1 q i v) q' i' v' = zu2 (zu2 h.2.1 q' i' v') q i v := by
    funext a b
    simp only [zu2]
    by_cases h1 : a = q'
    · have h2 : ¬ a = q := fun h2 => hq (h2.symm.trans h1)
      have h3 : ¬ q' = q := fun h3 => hq h3.symm
      simp only [h1, h3, if_true, if_false]
    · simp only [h1, if_false]
  show ((h.1, zu2 (zu2 h.2.1 q i v) q' i' v', h.2.2) : zH) = (h.1, zu2 (zu2 h.2.1 q' i' v') q i v, h.2.2)
  rw [e]
theorem zfoldC (h : zH) (row : Nat → Int32) (i : Nat) (v t t' : Int32) : zsI (zsI (zsI (zrI h 1 row) 0 1 t) 1 i v) 0 1 t' = zsI (zrI h 1 (fun b => if b = i then v else row b)) 0 1 t' := by
  rw [zsI_sw (q := 0) (q' := 1) (by decide), zsI_sI, zfold1]
set_option maxRecDepth 100000 in
set_option maxHeartbeats 4000000 in
theorem zpb0 {l : Launch} {Γ : zG} {QF : List Frame → Array Value → State → State → Prop} {K : Option Value → zH → Prop} {a : Int32} {row : Nat → Int32} (hQ : ∀ below args s t, MQ below (zQ Γ false K) args s (zh27 : zHd).2.2.2.2.1 (zh27 : zHd).2.2.2.2.2 (zA Γ) t → QF below args s t) (hX : ∀ row, zX l Γ false 9 zh27 QF 0 0 3 [(2, .int (Int32.ofInt 16)), (0, .ref 0), (1, .int a)] [] (zsI (zrI zhC 1 row) 0 1 (Int32.ofInt 1))) : zX l Γ false 9 zh27 QF 0 0 3 [(2, .int (Int32.ofInt 24)), (0, .ref 0), (1, .int a)] [] (zsI (zrI zhC 1 row) 0 1 (Int32.ofInt 0)) := by
  refine zpcF (M := (zh27, zc27)) (K := K) 100 3 rfl zckm27 hQ ?_
  show zX l Γ false 9 zh27 _ 0 0 3 [(2, .int ((Int32.ofInt 24) + (Int32.ofInt (-8)))), (0, .ref 0), (1, .int a)] [] (zsI (zsI (zsI (zrI zhC 1 row) 0 1 (Int32.ofInt 0)) 1 _ _) 0 1 ((Int32.ofInt 0) + (Int32.ofInt 1)))
  rw [show ((Int32.ofInt 24) + (Int32.ofInt (-8)) : Int32) = (Int32.ofInt 16) from by decide +kernel]
  rw [show ((Int32.ofInt 0) + (Int32.ofInt 1) : Int32) = (Int32.ofInt 1) from by decide +kernel]
  rw [zfoldC]
  exact hX _
set_option maxRecDepth 100000 in
set_option maxHeartbeats 4000000 in
theorem zpb1 {l : Launch} {Γ : zG} {QF : List Frame → Array Value → State → State → Prop} {K : Option Value → zH → Prop} {a : Int32} {row : Nat → Int32} (hQ : ∀ below args s t, MQ below (zQ Γ false K) args s (zh27 : zHd).2.2.2.2.1 (zh27 : zHd).2.2.2.2.2 (zA Γ) t → QF below args s t) (hX : ∀ row, zX l Γ false 9 zh27 QF 0 0 3 [(2, .int (Int32.ofInt 8)), (0, .ref 0), (1, .int a)] [] (zsI (zrI zhC 1 row) 0 1 (Int32.ofInt 2))) : zX l Γ false 9 zh27 QF 0 0 3 [(2, .int (Int32.ofInt 16)), (0, .ref 0), (1, .int a)] [] (zsI (zrI zhC 1 row) 0 1 (Int32.ofInt 1)) := by
  refine zpcF (M := (zh27, zc27)) (K := K) 100 3 rfl zckm27 hQ ?_
  show zX l Γ false 9 zh27 _ 0 0 3 [(2, .int ((Int32.ofInt 16) + (Int32.ofInt (-8)))), (0, .ref 0), (1, .int a)] [] (zsI (zsI (zsI (zrI zhC 1 row) 0 1 (Int32.ofInt 1)) 1 _ _) 0 1 ((Int32.ofInt 1) + (Int32.ofInt 1)))
  rw [show ((Int32.ofInt 16) + (Int32.ofInt (-8)) : Int32) = (Int32.ofInt 8) from by decide +kernel]
  rw [show ((Int32.ofInt 1) + (Int32.ofInt 1) : Int32) = (Int32.ofInt 2) from by decide +kernel]
  rw [zfoldC]
  exact hX _
set_option maxRecDepth 100000 in
set_option maxHeartbeats 4000000 in
theorem zpb2 {l : Launch} {Γ : zG} {QF : List Frame → Array Value → State → State → Prop} {K : Option Value → zH → Prop} {a : Int32} {row : Nat → Int32} (hQ : ∀ below args s t, MQ below (zQ Γ false K) args s (zh27 : zHd).2.2.2.2.1 (zh27 : zHd).2.2.2.2.2 (zA Γ) t → QF below args s t) (hX : ∀ row, zX l Γ false 9 zh27 QF 0 0 3 [(2, .int (Int32.ofInt 0)), (0, .ref 0), (1, .int a)] [] (zsI (zrI zhC 1 row) 0 1 (Int32.ofInt 3))) : zX l Γ false 9 zh27 QF 0 0 3 [(2, .int (Int32.ofInt 8)), (0, .ref 0), (1, .int a)] [] (zsI (zrI zhC 1 row) 0 1 (Int32.ofInt 2)) := by
  refine zpcF (M := (zh27, zc27)) (K := K) 100 3 rfl zckm27 hQ ?_
  show zX l Γ false 9 zh27 _ 0 0 3 [(2, .int ((Int32.ofInt 8) + (Int32.ofInt (-8)))), (0, .ref 0), (1, .int a)] [] (zsI (zsI (zsI (zrI zhC 1 row) 0 1 (Int32.ofInt 2)) 1 _ _) 0 1 ((Int32.ofInt 2) + (Int32.ofInt 1)))
  rw [show ((Int32.ofInt 8) + (Int32.ofInt (-8)) : Int32) = (Int32.ofInt 0) from by decide +kernel]
  rw [show ((Int32.ofInt 2) + (Int32.ofInt 1) : Int32) = (Int32.ofInt 3) from by decide +kernel]
  rw [zfoldC]
  exact hX _
set_option maxRecDepth 100000 in
set_option maxHeartbeats 4000000 in
theorem zpb3 {l : Launch} {Γ : zG} {QF : List Frame → Array Value → State → State → Prop} {K : Option Value → zH → Prop} {a : Int32} {row : Nat → Int32} (hQ : ∀ below args s t, MQ below (zQ Γ false K) args s (zh27 : zHd).2.2.2.2.1 (zh27 : zHd).2.2.2.2.2 (zA Γ) t → QF below args s t) (hX : ∀ row, zX l Γ false 9 zh27 QF 0 0 3 [(2, .int (Int32.ofInt (-8))), (0, .ref 0), (1, .int a)] [] (zsI (zrI zhC 1 row) 0 1 (Int32.ofInt 4))) : zX l Γ false 9 zh27 QF 0 0 3 [(2, .int (Int32.ofInt 0)), (0, .ref 0), (1, .int a)] [] (zsI (zrI zhC 1 row) 0 1 (Int32.ofInt 3)) := by
  refine zpcF (M := (zh27, zc27)) (K := K) 100 3 rfl zckm27 hQ ?_
  show zX l Γ false 9 zh27 _ 0 0 3 [(2, .int ((Int32.ofInt 0) + (Int32.ofInt (-8)))), (0, .ref 0), (1, .int a)] [] (zsI (zsI (zsI (zrI zhC 1 row) 0 1 (Int32.ofInt 3)) 1 _ _) 0 1 ((Int32.ofInt 3) + (Int32.ofInt 1)))
  rw [show ((Int32.ofInt 0) + (Int32.ofInt (-8)) : Int32) = (Int32.ofInt (-8)) from by decide +kernel]
  rw [show ((Int32.ofInt 3) + (Int32.ofInt 1) : Int32) = (Int32.ofInt 4) from by decide +kernel]
  rw [zfoldC]
  exact hX _
set_option maxRecDepth 100000 in
set_option maxHeartbeats 4000000 in
theorem zpb4 {l : Launch} {Γ : zG} {QF : List Frame → Array Value → State → State → Prop} {K : Option Value → zH → Prop} {a : Int32} {row : Nat → Int32} (hQ : ∀ below args s t, MQ below (zQ Γ false K) args s (zh27 : zHd).2.2.2.2.1 (zh27 : zHd).2.2.2.2.2 (zA Γ) t → QF below args s t) (hX : ∀ row, zX l Γ false 9 zh27 QF 0 0 3 [(2, .int (Int32.ofInt 16)), (0, .ref 0), (1, .int a)] [] (zsI (zrI zhC 1 row) 0 1 (Int32.ofInt 5))) : zX l Γ false 9 zh27 QF 0 0 3 [(2, .int (Int32.ofInt 24)), (0, .ref 0), (1, .int a)] [] (zsI (zrI zhC 1 row) 0 1 (Int32.ofInt 4)) := by
  refine zpcF (M := (zh27, zc27)) (K := K) 100 3 rfl zckm27 hQ ?_
  show zX l Γ false 9 zh27 _ 0 0 3 [(2, .int ((Int32.ofInt 24) + (Int32.ofInt (-8)))), (0, .ref 0), (1, .int a)] [] (zsI (zsI (zsI (zrI zhC 1 row) 0 1 (Int32.ofInt 4)) 1 _ _) 0 1 ((Int32.ofInt 4) + (Int32.ofInt 1)))
  rw [show ((Int32.ofInt 24) + (Int32.ofInt (-8)) : Int32) = (Int32.ofInt 16) from by decide +kernel]
  rw [show ((Int32.ofInt 4) + (Int32.ofInt 1) : Int32) = (Int32.ofInt 5) from by decide +kernel]
  rw [zfoldC]
  exact hX _
set_option maxRecDepth 100000 in
set_option maxHeartbeats 4000000 in
theorem zpb5 {l : Launch} {Γ : zG} {QF : List Frame → Array Value → State → State → Prop} {K : Option Value → zH → Prop} {a : Int32} {row : Nat → Int32} (hQ : ∀ below args s t, MQ below (zQ Γ false K) args s (zh27 : zHd).2.2.2.2.1 (zh27 : zHd).2.2.2.2.2 (zA Γ) t → QF below args s t) (hX : ∀ row, zX l Γ false 9 zh27 QF 0 0 3 [(2, .int (Int32.ofInt 8)), (0, .ref 0), (1, .int a)] [] (zsI (zrI zhC 1 row) 0 1 (Int32.ofInt 6))) : zX l Γ false 9 zh27 QF 0 0 3 [(2, .int (Int32.ofInt 16)), (0, .ref 0), (1, .int a)] [] (zsI (zrI zhC 1 row) 0 1 (Int32.ofInt 5)) := by
  refine zpcF (M := (zh27, zc27)) (K := K) 100 3 rfl zckm27 hQ ?_
  show zX l Γ false 9 zh27 _ 0 0 3 [(2, .int ((Int32.ofInt 16) + (Int32.ofInt (-8)))), (0, .ref 0), (1, .int a)] [] (zsI (zsI (zsI (zrI zhC 1 row) 0 1 (Int32.ofInt 5)) 1 _ _) 0 1 ((Int32.ofInt 5) + (Int32.ofInt 1)))
  rw [show ((Int32.ofInt 16) + (Int32.ofInt (-8)) : Int32) = (Int32.ofInt 8) from by decide +kernel]
  rw [show ((Int32.ofInt 5) + (Int32.ofInt 1) : Int32) = (Int32.ofInt 6) from by decide +kernel]
  rw [zfoldC]
  exact hX _
set_option maxRecDepth 100000 in
set_option maxHeartbeats 4000000 in
theorem zpb6 {l : Launch} {Γ : zG} {QF : List Frame → Array Value → State → State → Prop} {K : Option Value → zH → Prop} {a : Int32} {row : Nat → Int32} (hQ : ∀ below args s t, MQ below (zQ Γ false K) args s (zh27 : zHd).2.2.2.2.1 (zh27 : zHd).2.2.2.2.2 (zA Γ) t → QF below args s t) (hX : ∀ row, zX l Γ false 9 zh27 QF 0 0 3 [(2, .int (Int32.ofInt 0)), (0, .ref 0), (1, .int a)] [] (zsI (zrI zhC 1 row) 0 1 (Int32.ofInt 7))) : zX l Γ false 9 zh27 QF 0 0 3 [(2, .int (Int32.ofInt 8)), (0, .ref 0), (1, .int a)] [] (zsI (zrI zhC 1 row) 0 1 (Int32.ofInt 6)) := by
  refine zpcF (M := (zh27, zc27)) (K := K) 100 3 rfl zckm27 hQ ?_
  show zX l Γ false 9 zh27 _ 0 0 3 [(2, .int ((Int32.ofInt 8) + (Int32.ofInt (-8)))), (0, .ref 0), (1, .int a)] [] (zsI (zsI (zsI (zrI zhC 1 row) 0 1 (Int32.ofInt 6)) 1 _ _) 0 1 ((Int32.ofInt 6) + (Int32.ofInt 1)))
  rw [show ((Int32.ofInt 8) + (Int32.ofInt (-8)) : Int32) = (Int32.ofInt 0) from by decide +kernel]
  rw [show ((Int32.ofInt 6) + (Int32.ofInt 1) : Int32) = (Int32.ofInt 7) from by decide +kernel]
  rw [zfoldC]
  exact hX _
set_option maxRecDepth 100000 in
set_option maxHeartbeats 4000000 in
theorem zpb7 {l : Launch} {Γ : zG} {QF : List Frame → Array Value → State → State → Prop} {K : Option Value → zH → Prop} {a : Int32} {row : Nat → Int32} (hQ : ∀ below args s t, MQ below (zQ Γ false K) args s (zh27 : zHd).2.2.2.2.1 (zh27 : zHd).2.2.2.2.2 (zA Γ) t → QF below args s t) (hX : ∀ row, zX l Γ false 9 zh27 QF 0 0 3 [(2, .int (Int32.ofInt (-8))), (0, .ref 0), (1, .int a)] [] (zsI (zrI zhC 1 row) 0 1 (Int32.ofInt 8))) : zX l Γ false 9 zh27 QF 0 0 3 [(2, .int (Int32.ofInt 0)), (0, .ref 0), (1, .int a)] [] (zsI (zrI zhC 1 row) 0 1 (Int32.ofInt 7)) := by
  refine zpcF (M := (zh27, zc27)) (K := K) 100 3 rfl zckm27 hQ ?_
  show zX l Γ false 9 zh27 _ 0 0 3 [(2, .int ((Int32.ofInt 0) + (Int32.ofInt (-8)))), (0, .ref 0), (1, .int a)] [] (zsI (zsI (zsI (zrI zhC 1 row) 0 1 (Int32.ofInt 7)) 1 _ _) 0 1 ((Int32.ofInt 7) + (Int32.ofInt 1)))
  rw [show ((Int32.ofInt 0) + (Int32.ofInt (-8)) : Int32) = (Int32.ofInt (-8)) from by decide +kernel]
  rw [show ((Int32.ofInt 7) + (Int32.ofInt 1) : Int32) = (Int32.ofInt 8) from by decide +kernel]
  rw [zfoldC]
  exact hX _
set_option maxRecDepth 100000 in
set_option maxHeartbeats 4000000 in
theorem zpb8 {l : Launch} {Γ : zG} {QF : List Frame → Array Value → State → State → Prop} {K : Option Value → zH → Prop} {a : Int32} {row : Nat → Int32} (hQ : ∀ below args s t, MQ below (zQ Γ false K) args s (zh27 : zHd).2.2.2.2.1 (zh27 : zHd).2.2.2.2.2 (zA Γ) t → QF below args s t) (hX : ∀ row, zX l Γ false 9 zh27 QF 0 0 3 [(2, .int (Int32.ofInt 16)), (0, .ref 0), (1, .int a)] [] (zsI (zrI zhC 1 row) 0 1 (Int32.ofInt 9))) : zX l Γ false 9 zh27 QF 0 0 3 [(2, .int (Int32.ofInt 24)), (0, .ref 0), (1, .int a)] [] (zsI (zrI zhC 1 row) 0 1 (Int32.ofInt 8)) := by
  refine zpcF (M := (zh27, zc27)) (K := K) 100 3 rfl zckm27 hQ ?_
  show zX l Γ false 9 zh27 _ 0 0 3 [(2, .int ((Int32.ofInt 24) + (Int32.ofInt (-8)))), (0, .ref 0), (1, .int a)] [] (zsI (zsI (zsI (zrI zhC 1 row) 0 1 (Int32.ofInt 8)) 1 _ _) 0 1 ((Int32.ofInt 8) + (Int32.ofInt 1)))
  rw [show ((Int32.ofInt 24) + (Int32.ofInt (-8)) : Int32) = (Int32.ofInt 16) from by decide +kernel]
  rw [show ((Int32.ofInt 8) + (Int32.ofInt 1) : Int32) = (Int32.ofInt 9) from by decide +kernel]
  rw [zfoldC]
  exact hX _
set_option maxRecDepth 100000 in
set_option maxHeartbeats 4000000 in
theorem zpb9 {l : Launch} {Γ : zG} {QF : List Frame → Array Value → State → State → Prop} {K : Option Value → zH → Prop} {a : Int32} {row : Nat → Int32} (hQ : ∀ below args s t, MQ below (zQ Γ false K) args s (zh27 : zHd).2.2.2.2.1 (zh27 : zHd).2.2.2.2.2 (zA Γ) t → QF below args s t) (hX : ∀ row, zX l Γ false 9 zh27 QF 0 0 3 [(2, .int (Int32.ofInt 8)), (0, .ref 0), (1, .int a)] [] (zsI (zrI zhC 1 row) 0 1 (Int32.ofInt 10))) : zX l Γ false 9 zh27 QF 0 0 3 [(2, .int (Int32.ofInt 16)), (0, .ref 0), (1, .int a)] [] (zsI (zrI zhC 1 row) 0 1 (Int32.ofInt 9)) := by
  refine zpcF (M := (zh27, zc27)) (K := K) 100 3 rfl zckm27 hQ ?_
  show zX l Γ false 9 zh27 _ 0 0 3 [(2, .int ((Int32.ofInt 16) + (Int32.ofInt (-8)))), (0, .ref 0), (1, .int a)] [] (zsI (zsI (zsI (zrI zhC 1 row) 0 1 (Int32.ofInt 9)) 1 _ _) 0 1 ((Int32.ofInt 9) + (Int32.ofInt 1)))
  rw [show ((Int32.ofInt 16) + (Int32.ofInt (-8)) : Int32) = (Int32.ofInt 8) from by decide +kernel]
  rw [show ((Int32.ofInt 9) + (Int32.ofInt 1) : Int32) = (Int32.ofInt 10) from by decide +kernel]
  rw [zfoldC]
  exact hX _
set_option maxRecDepth 100000 in
set_option maxHeartbeats 4000000 in
theorem zpb10 {l : Launch} {Γ : zG} {QF : List Frame → Array Value → State → State → Prop} {K : Option Value → zH → Prop} {a : Int32} {row : Nat → Int32} (hQ : ∀ below args s t, MQ below (zQ Γ false K) args s (zh27 : zHd).2.2.2.2.1 (zh27 : zHd).2.2.2.2.2 (zA Γ) t → QF below args s t) (hX : ∀ row, zX l Γ false 9 zh27 QF 0 0 3 [(2, .int (Int32.ofInt 0)), (0, .ref 0), (1, .int a)] [] (zsI (zrI zhC 1 row) 0 1 (Int32.ofInt 11))) : zX l Γ false 9 zh27 QF 0 0 3 [(2, .int (Int32.ofInt 8)), (0, .ref 0), (1, .int a)] [] (zsI (zrI zhC 1 row) 0 1 (Int32.ofInt 10)) := by
  refine zpcF (M := (zh27, zc27)) (K := K) 100 3 rfl zckm27 hQ ?_
  show zX l Γ false 9 zh27 _ 0 0 3 [(2, .int ((Int32.ofInt 8) + (Int32.ofInt (-8)))), (0, .ref 0), (1, .int a)] [] (zsI (zsI (zsI (zrI zhC 1 row) 0 1 (Int32.ofInt 10)) 1 _ _) 0 1 ((Int32.ofInt 10) + (Int32.ofInt 1)))
  rw [show ((Int32.ofInt 8) + (Int32.ofInt (-8)) : Int32) = (Int32.ofInt 0) from by decide +kernel]
  rw [show ((Int32.ofInt 10) + (Int32.ofInt 1) : Int32) = (Int32.ofInt 11) from by decide +kernel]
  rw [zfoldC]
  exact hX _
set_option maxRecDepth 100000 in
set_option maxHeartbeats 4000000 in
theorem zpb11 {l : Launch} {Γ : zG} {QF : List Frame → Array Value → State → State → Prop} {K : Option Value → zH → Prop} {a : Int32} {row : Nat → Int32} (hQ : ∀ below args s t, MQ below (zQ Γ false K) args s (zh27 : zHd).2.2.2.2.1 (zh27 : zHd).2.2.2.2.2 (zA Γ) t → QF below args s t) (hX : ∀ row, zX l Γ false 9 zh27 QF 0 0 3 [(2, .int (Int32.ofInt (-8))), (0, .ref 0), (1, .int a)] [] (zsI (zrI zhC 1 row) 0 1 (Int32.ofInt 12))) : zX l Γ false 9 zh27 QF 0 0 3 [(2, .int (Int32.ofInt 0)), (0, .ref 0), (1, .int a)] [] (zsI (zrI zhC 1 row) 0 1 (Int32.ofInt 11)) := by
  refine zpcF (M := (zh27, zc27)) (K := K) 100 3 rfl zckm27 hQ ?_
  show zX l Γ false 9 zh27 _ 0 0 3 [(2, .int ((Int32.ofInt 0) + (Int32.ofInt (-8)))), (0, .ref 0), (1, .int a)] [] (zsI (zsI (zsI (zrI zhC 1 row) 0 1 (Int32.ofInt 11)) 1 _ _) 0 1 ((Int32.ofInt 11) + (Int32.ofInt 1)))
  rw [show ((Int32.ofInt 0) + (Int32.ofInt (-8)) : Int32) = (Int32.ofInt (-8)) from by decide +kernel]
  rw [show ((Int32.ofInt 11) + (Int32.ofInt 1) : Int32) = (Int32.ofInt 12) from by decide +kernel]
  rw [zfoldC]
  exact hX _
set_option maxRecDepth 100000 in
set_option maxHeartbeats 4000000 in
theorem zpb12 {l : Launch} {Γ : zG} {QF : List Frame → Array Value → State → State → Prop} {K : Option Value → zH → Prop} {a : Int32} {row : Nat → Int32} (hQ : ∀ below args s t, MQ below (zQ Γ false K) args s (zh27 : zHd).2.2.2.2.1 (zh27 : zHd).2.2.2.2.2 (zA Γ) t → QF below args s t) (hX : ∀ row, zX l Γ false 9 zh27 QF 0 0 3 [(2, .int (Int32.ofInt 16)), (0, .ref 0), (1, .int a)] [] (zsI (zrI zhC 1 row) 0 1 (Int32.ofInt 13))) : zX l Γ false 9 zh27 QF 0 0 3 [(2, .int (Int32.ofInt 24)), (0, .ref 0), (1, .int a)] [] (zsI (zrI zhC 1 row) 0 1 (Int32.ofInt 12)) := by
  refine zpcF (M := (zh27, zc27)) (K := K) 100 3 rfl zckm27 hQ ?_
  show zX l Γ false 9 zh27 _ 0 0 3 [(2, .int ((Int32.ofInt 24) + (Int32.ofInt (-8)))), (0, .ref 0), (1, .int a)] [] (zsI (zsI (zsI (zrI zhC 1 row) 0 1 (Int32.ofInt 12)) 1 _ _) 0 1 ((Int32.ofInt 12) + (Int32.ofInt 1)))
  rw [show ((Int32.ofInt 24) + (Int32.ofInt (-8)) : Int32) = (Int32.ofInt 16) from by decide +kernel]
  rw [show ((Int32.ofInt 12) + (Int32.ofInt 1) : Int32) = (Int32.ofInt 13) from by decide +kernel]
  rw [zfoldC]
  exact hX _
set_option maxRecDepth 100000 in
set_option maxHeartbeats 4000000 in
theorem zpb13 {l : Launch} {Γ : zG} {QF : List Frame → Array Value → State → State → Prop} {K : Option Value → zH → Prop} {a : Int32} {row : Nat → Int32} (hQ : ∀ below args s t, MQ below (zQ Γ false K) args s (zh27 : zHd).2.2.2.2.1 (zh27 : zHd).2.2.2.2.2 (zA Γ) t → QF below args s t) (hX : ∀ row, zX l Γ false 9 zh27 QF 0 0 3 [(2, .int (Int32.ofInt 8)), (0, .ref 0), (1, .int a)] [] (zsI (zrI zhC 1 row) 0 1 (Int32.ofInt 14))) : zX l Γ false 9 zh27 QF 0 0 3 [(2, .int (Int32.ofInt 16)), (0, .ref 0), (1, .int a)] [] (zsI (zrI zhC 1 row) 0 1 (Int32.ofInt 13)) := by
  refine zpcF (M := (zh27, zc27)) (K := K) 100 3 rfl zckm27 hQ ?_
  show zX l Γ false 9 zh27 _ 0 0 3 [(2, .int ((Int32.ofInt 16) + (Int32.ofInt (-8)))), (0, .ref 0), (1, .int a)] [] (zsI (zsI (zsI (zrI zhC 1 row) 0 1 (Int32.ofInt 13)) 1 _ _) 0 1 ((Int32.ofInt 13) + (Int32.ofInt 1)))
  rw [show ((Int32.ofInt 16) + (Int32.ofInt (-8)) : Int32) = (Int32.ofInt 8) from by decide +kernel]
  rw [show ((Int32.ofInt 13) + (Int32.ofInt 1) : Int32) = (Int32.ofInt 14) from by decide +kernel]
  rw [zfoldC]
  exact hX _
set_option maxRecDepth 100000 in
set_option maxHeartbeats 4000000 in
theorem zpb14 {l : Launch} {Γ : zG} {QF : List Frame → Array Value → State → State → Prop} {K : Option Value → zH → Prop} {a : Int32} {row : Nat → Int32} (hQ : ∀ below args s t, MQ below (zQ Γ false K) args s (zh27 : zHd).2.2.2.2.1 (zh27 : zHd).2.2.2.2.2 (zA Γ) t → QF below args s t) (hX : ∀ row, zX l Γ false 9 zh27 QF 0 0 3 [(2, .int (Int32.ofInt 0)), (0, .ref 0), (1, .int a)] [] (zsI (zrI zhC 1 row) 0 1 (Int32.ofInt 15))) : zX l Γ false 9 zh27 QF 0 0 3 [(2, .int (Int32.ofInt 8)), (0, .ref 0), (1, .int a)] [] (zsI (zrI zhC 1 row) 0 1 (Int32.ofInt 14)) := by
  refine zpcF (M := (zh27, zc27)) (K := K) 100 3 rfl zckm27 hQ ?_
  show zX l Γ false 9 zh27 _ 0 0 3 [(2, .int ((Int32.ofInt 8) + (Int32.ofInt (-8)))), (0, .ref 0), (1, .int a)] [] (zsI (zsI (zsI (zrI zhC 1 row) 0 1 (Int32.ofInt 14)) 1 _ _) 0 1 ((Int32.ofInt 14) + (Int32.ofInt 1)))
  rw [show ((Int32.ofInt 8) + (Int32.ofInt (-8)) : Int32) = (Int32.ofInt 0) from by decide +kernel]
  rw [show ((Int32.ofInt 14) + (Int32.ofInt 1) : Int32) = (Int32.ofInt 15) from by decide +kernel]
  rw [zfoldC]
  exact hX _
set_option maxRecDepth 100000 in
set_option maxHeartbeats 4000000 in
theorem zpb15 {l : Launch} {Γ : zG} {QF : List Frame → Array Value → State → State → Prop} {K : Option Value → zH → Prop} {a : Int32} {row : Nat → Int32} (hQ : ∀ below args s t, MQ below (zQ Γ false K) args s (zh27 : zHd).2.2.2.2.1 (zh27 : zHd).2.2.2.2.2 (zA Γ) t → QF below args s t) (hX : ∀ row, zX l Γ false 9 zh27 QF 0 0 3 [(2, .int (Int32.ofInt (-8))), (0, .ref 0), (1, .int a)] [] (zsI (zrI zhC 1 row) 0 1 (Int32.ofInt 16))) : zX l Γ false 9 zh27 QF 0 0 3 [(2, .int (Int32.ofInt 0)), (0, .ref 0), (1, .int a)] [] (zsI (zrI zhC 1 row) 0 1 (Int32.ofInt 15)) := by
  refine zpcF (M := (zh27, zc27)) (K := K) 100 3 rfl zckm27 hQ ?_
  show zX l Γ false 9 zh27 _ 0 0 3 [(2, .int ((Int32.ofInt 0) + (Int32.ofInt (-8)))), (0, .ref 0), (1, .int a)] [] (zsI (zsI (zsI (zrI zhC 1 row) 0 1 (Int32.ofInt 15)) 1 _ _) 0 1 ((Int32.ofInt 15) + (Int32.ofInt 1)))
  rw [show ((Int32.ofInt 0) + (Int32.ofInt (-8)) : Int32) = (Int32.ofInt (-8)) from by decide +kernel]
  rw [show ((Int32.ofInt 15) + (Int32.ofInt 1) : Int32) = (Int32.ofInt 16) from by decide +kernel]
  rw [zfoldC]
  exact hX _
set_option maxRecDepth 100000 in
set_option maxHeartbeats 4000000 in
theorem zpb16 {l : Launch} {Γ : zG} {QF : List Frame → Array Value → State → State → Prop} {K : Option Value → zH → Prop} {a : Int32} {row : Nat → Int32} (hQ : ∀ below args s t, MQ below (zQ Γ false K) args s (zh27 : zHd).2.2.2.2.1 (zh27 : zHd).2.2.2.2.2 (zA Γ) t → QF below args s t) (hX : ∀ row, zX l Γ false 9 zh27 QF 0 0 3 [(2, .int (Int32.ofInt 16)), (0, .ref 0), (1, .int a)] [] (zsI (zrI zhC 1 row) 0 1 (Int32.ofInt 17))) : zX l Γ false 9 zh27 QF 0 0 3 [(2, .int (Int32.ofInt 24)), (0, .ref 0), (1, .int a)] [] (zsI (zrI zhC 1 row) 0 1 (Int32.ofInt 16)) := by
  refine zpcF (M := (zh27, zc27)) (K := K) 100 3 rfl zckm27 hQ ?_
  show zX l Γ false 9 zh27 _ 0 0 3 [(2, .int ((Int32.ofInt 24) + (Int32.ofInt (-8)))), (0, .ref 0), (1, .int a)] [] (zsI (zsI (zsI (zrI zhC 1 row) 0 1 (Int32.ofInt 16)) 1 _ _) 0 1 ((Int32.ofInt 16) + (Int32.ofInt 1)))
  rw [show ((Int32.ofInt 24) + (Int32.ofInt (-8)) : Int32) = (Int32.ofInt 16) from by decide +kernel]
  rw [show ((Int32.ofInt 16) + (Int32.ofInt 1) : Int32) = (Int32.ofInt 17) from by decide +kernel]
  rw [zfoldC]
  exact hX _
set_option maxRecDepth 100000 in
set_option maxHeartbeats 4000000 in
theorem zpb17 {l : Launch} {Γ : zG} {QF : List Frame → Array Value → State → State → Prop} {K : Option Value → zH → Prop} {a : Int32} {row : Nat → Int32} (hQ : ∀ below args s t, MQ below (zQ Γ false K) args s (zh27 : zHd).2.2.2.2.1 (zh27 : zHd).2.2.2.2.2 (zA Γ) t → QF below args s t) (hX : ∀ row, zX l Γ false 9 zh27 QF 0 0 3 [(2, .int (Int32.ofInt 8)), (0, .ref 0), (1, .int a)] [] (zsI (zrI zhC 1 row) 0 1 (Int32.ofInt 18))) : zX l Γ false 9 zh27 QF 0 0 3 [(2, .int (Int32.ofInt 16)), (0, .ref 0), (1, .int a)] [] (zsI (zrI zhC 1 row) 0 1 (Int32.ofInt 17)) := by
  refine zpcF (M := (zh27, zc27)) (K := K) 100 3 rfl zckm27 hQ ?_
  show zX l Γ false 9 zh27 _ 0 0 3 [(2, .int ((Int32.ofInt 16) + (Int32.ofInt (-8)))), (0, .ref 0), (1, .int a)] [] (zsI (zsI (zsI (zrI zhC 1 row) 0 1 (Int32.ofInt 17)) 1 _ _) 0 1 ((Int32.ofInt 17) + (Int32.ofInt 1)))
  rw [show ((Int32.ofInt 16) + (Int32.ofInt (-8)) : Int32) = (Int32.ofInt 8) from by decide +kernel]
  rw [show ((Int32.ofInt 17) + (Int32.ofInt 1) : Int32) = (Int32.ofInt 18) from by decide +kernel]
  rw [zfoldC]
  exact hX _
set_option maxRecDepth 100000 in
set_option maxHeartbeats 4000000 in
theorem zpb18 {l : Launch} {Γ : zG} {QF : List Frame → Array Value → State → State → Prop} {K : Option Value → zH → Prop} {a : Int32} {row : Nat → Int32} (hQ : ∀ below args s t, MQ below (zQ Γ false K) args s (zh27 : zHd).2.2.2.2.1 (zh27 : zHd).2.2.2.2.2 (zA Γ) t → QF below args s t) (hX : ∀ row, zX l Γ false 9 zh27 QF 0 0 3 [(2, .int (Int32.ofInt 0)), (0, .ref 0), (1, .int a)] [] (zsI (zrI zhC 1 row) 0 1 (Int32.ofInt 19))) : zX l Γ false 9 zh27 QF 0 0 3 [(2, .int (Int32.ofInt 8)), (0, .ref 0), (1, .int a)] [] (zsI (zrI zhC 1 row) 0 1 (Int32.ofInt 18)) := by
  refine zpcF (M := (zh27, zc27)) (K := K) 100 3 rfl zckm27 hQ ?_
  show zX l Γ false 9 zh27 _ 0 0 3 [(2, .int ((Int32.ofInt 8) + (Int32.ofInt (-8)))), (0, .ref 0), (1, .int a)] [] (zsI (zsI (zsI (zrI zhC 1 row) 0 1 (Int32.ofInt 18)) 1 _ _) 0 1 ((Int32.ofInt 18) + (Int32.ofInt 1)))
  rw [show ((Int32.ofInt 8) + (Int32.ofInt (-8)) : Int32) = (Int32.ofInt 0) from by decide +kernel]
  rw [show ((Int32.ofInt 18) + (Int32.ofInt 1) : Int32) = (Int32.ofInt 19) from by decide +kernel]
  rw [zfoldC]
  exact hX _
set_option maxRecDepth 100000 in
set_option maxHeartbeats 4000000 in
theorem zpb19 {l : Launch} {Γ : zG} {QF : List Frame → Array Value → State → State → Prop} {K : Option Value → zH → Prop} {a : Int32} {row : Nat → Int32} (hQ : ∀ below args s t, MQ below (zQ Γ false K) args s (zh27 : zHd).2.2.2.2.1 (zh27 : zHd).2.2.2.2.2 (zA Γ) t → QF below args s t) (hX : ∀ row, zX l Γ false 9 zh27 QF 0 0 3 [(2, .int (Int32.ofInt (-8))), (0, .ref 0), (1, .int a)] [] (zsI (zrI zhC 1 row) 0 1 (Int32.ofInt 20))) : zX l Γ false 9 zh27 QF 0 0 3 [(2, .int (Int32.ofInt 0)), (0, .ref 0), (1, .int a)] [] (zsI (zrI zhC 1 row) 0 1 (Int32.ofInt 19)) := by
  refine zpcF (M := (zh27, zc27)) (K := K) 100 3 rfl zckm27 hQ ?_
  show zX l Γ false 9 zh27 _ 0 0 3 [(2, .int ((Int32.ofInt 0) + (Int32.ofInt (-8)))), (0, .ref 0), (1, .int a)] [] (zsI (zsI (zsI (zrI zhC 1 row) 0 1 (Int32.ofInt 19)) 1 _ _) 0 1 ((Int32.ofInt 19) + (Int32.ofInt 1)))
  rw [show ((Int32.ofInt 0) + (Int32.ofInt (-8)) : Int32) = (Int32.ofInt (-8)) from by decide +kernel]
  rw [show ((Int32.ofInt 19) + (Int32.ofInt 1) : Int32) = (Int32.ofInt 20) from by decide +kernel]
  rw [zfoldC]
  exact hX _
set_option maxRecDepth 100000 in
set_option maxHeartbeats 4000000 in
theorem zputS0 (l : Launch) (Γ : zG) (row : Nat → Int32) (a : Int32) : zSem l Γ false 9 (zhd 27) [.ref 0, .int a] (zsI (zrI zhC 1 row) 0 1 (Int32.ofInt 0)) (fun r h' => r = none ∧ ∃ row', h' = zsI (zrI zhC 1 row') 0 1 (Int32.ofInt 4)) := by
  show zSem l Γ false 9 zh27 _ _ _
  refine zbody (by decide +kernel) (show 2 ≤ 3 by decide) ?_
  refine zpcF (M := (zh27, zc27)) (K := (fun r h' => r = none ∧ ∃ row', h' = zsI (zrI zhC 1 row') 0 1 (Int32.ofInt 4))) 100 3 rfl zckm27 (fun _ _ _ _ h => h) ?_
  refine zpb0 (K := (fun r h' => r = none ∧ ∃ row', h' = zsI (zrI zhC 1 row') 0 1 (Int32.ofInt 4))) (fun _ _ _ _ h => h) (fun row => ?_)
  refine zpb1 (K := (fun r h' => r = none ∧ ∃ row', h' = zsI (zrI zhC 1 row') 0 1 (Int32.ofInt 4))) (fun _ _ _ _ h => h) (fun row => ?_)
  refine zpb2 (K := (fun r h' => r = none ∧ ∃ row', h' = zsI (zrI zhC 1 row') 0 1 (Int32.ofInt 4))) (fun _ _ _ _ h => h) (fun row => ?_)
  refine zpb3 (K := (fun r h' => r = none ∧ ∃ row', h' = zsI (zrI zhC 1 row') 0 1 (Int32.ofInt 4))) (fun _ _ _ _ h => h) (fun row => ?_)
  refine zpcF (M := (zh27, zc27)) (K := (fun r h' => r = none ∧ ∃ row', h' = zsI (zrI zhC 1 row') 0 1 (Int32.ofInt 4))) 100 3 rfl zckm27 (fun _ _ _ _ h => h) ?_
  exact And.intro rfl ⟨row, rfl⟩
set_option maxRecDepth 100000 in
set_option maxHeartbeats 4000000 in
theorem zputS4 (l : Launch) (Γ : zG) (row : Nat → Int32) (a : Int32) : zSem l Γ false 9 (zhd 27) [.ref 0, .int a] (zsI (zrI zhC 1 row) 0 1 (Int32.ofInt 4)) (fun r h' => r = none ∧ ∃ row', h' = zsI (zrI zhC 1 row') 0 1 (Int32.ofInt 8)) := by
  show zSem l Γ false 9 zh27 _ _ _
  refine zbody (by decide +kernel) (show 2 ≤ 3 by decide) ?_
  refine zpcF (M := (zh27, zc27)) (K := (fun r h' => r = none ∧ ∃ row', h' = zsI (zrI zhC 1 row') 0 1 (Int32.ofInt 8))) 100 3 rfl zckm27 (fun _ _ _ _ h => h) ?_
  refine zpb4 (K := (fun r h' => r = none ∧ ∃ row', h' = zsI (zrI zhC 1 row') 0 1 (Int32.ofInt 8))) (fun _ _ _ _ h => h) (fun row => ?_)
  refine zpb5 (K := (fun r h' => r = none ∧ ∃ row', h' = zsI (zrI zhC 1 row') 0 1 (Int32.ofInt 8))) (fun _ _ _ _ h => h) (fun row => ?_)
  refine zpb6 (K := (fun r h' => r = none ∧ ∃ row', h' = zsI (zrI zhC 1 row') 0 1 (Int32.ofInt 8))) (fun _ _ _ _ h => h) (fun row => ?_)
  refine zpb7 (K := (fun r h' => r = none ∧ ∃ row', h' = zsI (zrI zhC 1 row') 0 1 (Int32.ofInt 8))) (fun _ _ _ _ h => h) (fun row => ?_)
  refine zpcF (M := (zh27, zc27)) (K := (fun r h' => r = none ∧ ∃ row', h' = zsI (zrI zhC 1 row') 0 1 (Int32.ofInt 8))) 100 3 rfl zckm27 (fun _ _ _ _ h => h) ?_
  exact And.intro rfl ⟨row, rfl⟩
set_option maxRecDepth 100000 in
set_option maxHeartbeats 4000000 in
theorem zputS8 (l : Launch) (Γ : zG) (row : Nat → Int32) (a : Int32) : zSem l Γ false 9 (zhd 27) [.ref 0, .int a] (zsI (zrI zhC 1 row) 0 1 (Int32.ofInt 8)) (fun r h' => r = none ∧ ∃ row', h' = zsI (zrI zhC 1 row') 0 1 (Int32.ofInt 12)) := by
  show zSem l Γ false 9 zh27 _ _ _
  refine zbody (by decide +kernel) (show 2 ≤ 3 by decide) ?_
  refine zpcF (M := (zh27, zc27)) (K := (fun r h' => r = none ∧ ∃ row', h' = zsI (zrI zhC 1 row') 0 1 (Int32.ofInt 12))) 100 3 rfl zckm27 (fun _ _ _ _ h => h) ?_
  refine zpb8 (K := (fun r h' => r = none ∧ ∃ row', h' = zsI (zrI zhC 1 row') 0 1 (Int32.ofInt 12))) (fun _ _ _ _ h => h) (fun row => ?_)
  refine zpb9 (K := (fun r h' => r = none ∧ ∃ row', h' = zsI (zrI zhC 1 row') 0 1 (Int32.ofInt 12))) (fun _ _ _ _ h => h) (fun row => ?_)
  refine zpb10 (K := (fun r h' => r = none ∧ ∃ row', h' = zsI (zrI zhC 1 row') 0 1 (Int32.ofInt 12))) (fun _ _ _ _ h => h) (fun row => ?_)
  refine zpb11 (K := (fun r h' => r = none ∧ ∃ row', h' = zsI (zrI zhC 1 row') 0 1 (Int32.ofInt 12))) (fun _ _ _ _ h => h) (fun row => ?_)
  refine zpcF (M := (zh27, zc27)) (K := (fun r h' => r = none ∧ ∃ row', h' = zsI (zrI zhC 1 row') 0 1 (Int32.ofInt 12))) 100 3 rfl zckm27 (fun _ _ _ _ h => h) ?_
  exact And.intro rfl ⟨row, rfl⟩
set_option maxRecDepth 100000 in
set_option maxHeartbeats 4000000 in
theorem zputS12 (l : Launch) (Γ : zG) (row : Nat → Int32) (a : Int32) : zSem l Γ false 9 (zhd 27) [.ref 0, .int a] (zsI (zrI zhC 1 row) 0 1 (Int32.ofInt 12)) (fun r h' => r = none ∧ ∃ row', h' = zsI (zrI zhC 1 row') 0 1 (Int32.ofInt 16)) := by
  show zSem l Γ false 9 zh27 _ _ _
  refine zbody (by decide +kernel) (show 2 ≤ 3 by decide) ?_
  refine zpcF (M := (zh27, zc27)) (K := (fun r h' => r = none ∧ ∃ row', h' = zsI (zrI zhC 1 row') 0 1 (Int32.ofInt 16))) 100 3 rfl zckm27 (fun _ _ _ _ h => h) ?_
  refine zpb12 (K := (fun r h' => r = none ∧ ∃ row', h' = zsI (zrI zhC 1 row') 0 1 (Int32.ofInt 16))) (fun _ _ _ _ h => h) (fun row => ?_)
  refine zpb13 (K := (fun r h' => r = none ∧ ∃ row', h' = zsI (zrI zhC 1 row') 0 1 (Int32.ofInt 16))) (fun _ _ _ _ h => h) (fun row => ?_)
  refine zpb14 (K := (fun r h' => r = none ∧ ∃ row', h' = zsI (zrI zhC 1 row') 0 1 (Int32.ofInt 16))) (fun _ _ _ _ h => h) (fun row => ?_)
  refine zpb15 (K := (fun r h' => r = none ∧ ∃ row', h' = zsI (zrI zhC 1 row') 0 1 (Int32.ofInt 16))) (fun _ _ _ _ h => h) (fun row => ?_)
  refine zpcF (M := (zh27, zc27)) (K := (fun r h' => r = none ∧ ∃ row', h' = zsI (zrI zhC 1 row') 0 1 (Int32.ofInt 16))) 100 3 rfl zckm27 (fun _ _ _ _ h => h) ?_
  exact And.intro rfl ⟨row, rfl⟩
set_option maxRecDepth 100000 in
set_option maxHeartbeats 4000000 in
theorem zputS16 (l : Launch) (Γ : zG) (row : Nat → Int32) (a : Int32) : zSem l Γ false 9 (zhd 27) [.ref 0, .int a] (zsI (zrI zhC 1 row) 0 1 (Int32.ofInt 16)) (fun r h' => r = none ∧ ∃ row', h' = zsI (zrI zhC 1 row') 0 1 (Int32.ofInt 20)) := by
  show zSem l Γ false 9 zh27 _ _ _
  refine zbody (by decide +kernel) (show 2 ≤ 3 by decide) ?_
  refine zpcF (M := (zh27, zc27)) (K := (fun r h' => r = none ∧ ∃ row', h' = zsI (zrI zhC 1 row') 0 1 (Int32.ofInt 20))) 100 3 rfl zckm27 (fun _ _ _ _ h => h) ?_
  refine zpb16 (K := (fun r h' => r = none ∧ ∃ row', h' = zsI (zrI zhC 1 row') 0 1 (Int32.ofInt 20))) (fun _ _ _ _ h => h) (fun row => ?_)
  refine zpb17 (K := (fun r h' => r = none ∧ ∃ row', h' = zsI (zrI zhC 1 row') 0 1 (Int32.ofInt 20))) (fun _ _ _ _ h => h) (fun row => ?_)
  refine zpb18 (K := (fun r h' => r = none ∧ ∃ row', h' = zsI (zrI zhC 1 row') 0 1 (Int32.ofInt 20))) (fun _ _ _ _ h => h) (fun row => ?_)
  refine zpb19 (K := (fun r h' => r = none ∧ ∃ row', h' = zsI (zrI zhC 1 row') 0 1 (Int32.ofInt 20))) (fun _ _ _ _ h => h) (fun row => ?_)
  refine zpcF (M := (zh27, zc27)) (K := (fun r h' => r = none ∧ ∃ row', h' = zsI (zrI zhC 1 row') 0 1 (Int32.ofInt 20))) 100 3 rfl zckm27 (fun _ _ _ _ h => h) ?_
  exact And.intro rfl ⟨row, rfl⟩
