set_option maxRecDepth 100000 in
set_option maxHeartbeats 4000000 in
theorem zfm0 {l : Launch} {Γ : zG} {QF : List Frame → Array Value → State → State → Prop} {K : Option Value → zH → Prop} {x1 x2 x3 x4 x5 w : Int32} {row : Nat → Int32} (hQ : ∀ below args s t, MQ below (zQ Γ false K) args s (zh194 : zHd).2.2.2.2.1 (zh194 : zHd).2.2.2.2.2 (zA Γ) t → QF below args s t) (hX : ∀ w row, zX l Γ false 10 zh194 QF 0 0 23 [(6, .int (Int32.ofInt 1)), (7, .int w), (0, .ref 0), (1, .int x1), (2, .int x2), (3, .int x3), (4, .int x4), (5, .int x5)] [] (zrI zhM 1 row)) : zX l Γ false 10 zh194 QF 0 0 23 [(6, .int (Int32.ofInt 0)), (0, .ref 0), (1, .int x1), (2, .int x2), (3, .int x3), (4, .int x4), (5, .int x5)] [] (zrI zhM 1 row) := by
  refine zpcF (M := (zh194, zc194)) (K := K) 100 23 rfl zckm194 hQ ?_
  show zX l Γ false 10 zh194 _ 0 0 23 [(6, .int ((Int32.ofInt 0) + (Int32.ofInt 1))), (7, .int _), (0, .ref 0), (1, .int x1), (2, .int x2), (3, .int x3), (4, .int x4), (5, .int x5)] [] (zsI (zrI zhM 1 row) 1 _ _)
  rw [show ((Int32.ofInt 0) + (Int32.ofInt 1) : Int32) = (Int32.ofInt 1) from by decide +kernel]
  rw [zfold1]
  exact hX _ _
set_option maxRecDepth 100000 in
set_option maxHeartbeats 4000000 in
theorem zfm1 {l : Launch} {Γ : zG} {QF : List Frame → Array Value → State → State → Prop} {K : Option Value → zH → Prop} {x1 x2 x3 x4 x5 w : Int32} {row : Nat → Int32} (hQ : ∀ below args s t, MQ below (zQ Γ false K) args s (zh194 : zHd).2.2.2.2.1 (zh194 : zHd).2.2.2.2.2 (zA Γ) t → QF below args s t) (hX : ∀ w row, zX l Γ false 10 zh194 QF 0 0 23 [(6, .int (Int32.ofInt 2)), (7, .int w), (0, .ref 0), (1, .int x1), (2, .int x2), (3, .int x3), (4, .int x4), (5, .int x5)] [] (zrI zhM 1 row)) : zX l Γ false 10 zh194 QF 0 0 23 [(6, .int (Int32.ofInt 1)), (7, .int w), (0, .ref 0), (1, .int x1), (2, .int x2), (3, .int x3), (4, .int x4), (5, .int x5)] [] (zrI zhM 1 row) := by
  refine zpcF (M := (zh194, zc194)) (K := K) 100 23 rfl zckm194 hQ ?_
  show zX l Γ false 10 zh194 _ 0 0 23 [(6, .int ((Int32.ofInt 1) + (Int32.ofInt 1))), (7, .int _), (0, .ref 0), (1, .int x1), (2, .int x2), (3, .int x3), (4, .int x4), (5, .int x5)] [] (zsI (zrI zhM 1 row) 1 _ _)
  rw [show ((Int32.ofInt 1) + (Int32.ofInt 1) : Int32) = (Int32.ofInt 2) from by decide +kernel]
  rw [zfold1]
  exact hX _ _
set_option maxRecDepth 100000 in
set_option maxHeartbeats 4000000 in
theorem zfm2 {l : Launch} {Γ : zG} {QF : List Frame → Array Value → State → State → Prop} {K : Option Value → zH → Prop} {x1 x2 x3 x4 x5 w : Int32} {row : Nat → Int32} (hQ : ∀ below args s t, MQ below (zQ Γ false K) args s (zh194 : zHd).2.2.2.2.1 (zh194 : zHd).2.2.2.2.2 (zA Γ) t → QF below args s t) (hX : ∀ w row, zX l Γ false 10 zh194 QF 0 0 23 [(6, .int (Int32.ofInt 3)), (7, .int w), (0, .ref 0), (1, .int x1), (2, .int x2), (3, .int x3), (4, .int x4), (5, .int x5)] [] (zrI zhM 1 row)) : zX l Γ false 10 zh194 QF 0 0 23 [(6, .int (Int32.ofInt 2)), (7, .int w), (0, .ref 0), (1, .int x1), (2, .int x2), (3, .int x3), (4, .int x4), (5, .int x5)] [] (zrI zhM 1 row) := by
  refine zpcF (M := (zh194, zc194)) (K := K) 100 23 rfl zckm194 hQ ?_
  show zX l Γ false 10 zh194 _ 0 0 23 [(6, .int ((Int32.ofInt 2) + (Int32.ofInt 1))), (7, .int _), (0, .ref 0), (1, .int x1), (2, .int x2), (3, .int x3), (4, .int x4), (5, .int x5)] [] (zsI (zrI zhM 1 row) 1 _ _)
  rw [show ((Int32.ofInt 2) + (Int32.ofInt 1) : Int32) = (Int32.ofInt 3) from by decide +kernel]
  rw [zfold1]
  exact hX _ _
set_option maxRecDepth 100000 in
set_option maxHeartbeats 4000000 in
theorem zfm3 {l : Launch} {Γ : zG} {QF : List Frame → Array Value → State → State → Prop} {K : Option Value → zH → Prop} {x1 x2 x3 x4 x5 w : Int32} {row : Nat → Int32} (hQ : ∀ below args s t, MQ below (zQ Γ false K) args s (zh194 : zHd).2.2.2.2.1 (zh194 : zHd).2.2.2.2.2 (zA Γ) t → QF below args s t) (hX : ∀ w row, zX l Γ false 10 zh194 QF 0 0 23 [(6, .int (Int32.ofInt 4)), (7, .int w), (0, .ref 0), (1, .int x1), (2, .int x2), (3, .int x3), (4, .int x4), (5, .int x5)] [] (zrI zhM 1 row)) : zX l Γ false 10 zh194 QF 0 0 23 [(6, .int (Int32.ofInt 3)), (7, .int w), (0, .ref 0), (1, .int x1), (2, .int x2), (3, .int x3), (4, .int x4), (5, .int x5)] [] (zrI zhM 1 row) := by
  refine zpcF (M := (zh194, zc194)) (K := K) 100 23 rfl zckm194 hQ ?_
  show zX l Γ false 10 zh194 _ 0 0 23 [(6, .int ((Int32.ofInt 3) + (Int32.ofInt 1))), (7, .int _), (0, .ref 0), (1, .int x1), (2, .int x2), (3, .int x3), (4, .int x4), (5, .int x5)] [] (zsI (zrI zhM 1 row) 1 _ _)
  rw [show ((Int32.ofInt 3) + (Int32.ofInt 1) : Int32) = (Int32.ofInt 4) from by decide +kernel]
  rw [zfold1]
  exact hX _ _
set_option maxRecDepth 100000 in
set_option maxHeartbeats 4000000 in
theorem zfm4 {l : Launch} {Γ : zG} {QF : List Frame → Array Value → State → State → Prop} {K : Option Value → zH → Prop} {x1 x2 x3 x4 x5 w : Int32} {row : Nat → Int32} (hQ : ∀ below args s t, MQ below (zQ Γ false K) args s (zh194 : zHd).2.2.2.2.1 (zh194 : zHd).2.2.2.2.2 (zA Γ) t → QF below args s t) (hX : ∀ w row, zX l Γ false 10 zh194 QF 0 0 23 [(6, .int (Int32.ofInt 5)), (7, .int w), (0, .ref 0), (1, .int x1), (2, .int x2), (3, .int x3), (4, .int x4), (5, .int x5)] [] (zrI zhM 1 row)) : zX l Γ false 10 zh194 QF 0 0 23 [(6, .int (Int32.ofInt 4)), (7, .int w), (0, .ref 0), (1, .int x1), (2, .int x2), (3, .int x3), (4, .int x4), (5, .int x5)] [] (zrI zhM 1 row) := by
  refine zpcF (M := (zh194, zc194)) (K := K) 100 23 rfl zckm194 hQ ?_
  show zX l Γ false 10 zh194 _ 0 0 23 [(6, .int ((Int32.ofInt 4) + (Int32.ofInt 1))), (7, .int _), (0, .ref 0), (1, .int x1), (2, .int x2), (3, .int x3), (4, .int x4), (5, .int x5)] [] (zsI (zrI zhM 1 row) 1 _ _)
  rw [show ((Int32.ofInt 4) + (Int32.ofInt 1) : Int32) = (Int32.ofInt 5) from by decide +kernel]
  rw [zfold1]
  exact hX _ _
set_option maxRecDepth 100000 in
set_option maxHeartbeats 4000000 in
theorem zfm5 {l : Launch} {Γ : zG} {QF : List Frame → Array Value → State → State → Prop} {K : Option Value → zH → Prop} {x1 x2 x3 x4 x5 w : Int32} {row : Nat → Int32} (hQ : ∀ below args s t, MQ below (zQ Γ false K) args s (zh194 : zHd).2.2.2.2.1 (zh194 : zHd).2.2.2.2.2 (zA Γ) t → QF below args s t) (hX : ∀ w row, zX l Γ false 10 zh194 QF 0 0 23 [(6, .int (Int32.ofInt 6)), (7, .int w), (0, .ref 0), (1, .int x1), (2, .int x2), (3, .int x3), (4, .int x4), (5, .int x5)] [] (zrI zhM 1 row)) : zX l Γ false 10 zh194 QF 0 0 23 [(6, .int (Int32.ofInt 5)), (7, .int w), (0, .ref 0), (1, .int x1), (2, .int x2), (3, .int x3), (4, .int x4), (5, .int x5)] [] (zrI zhM 1 row) := by
  refine zpcF (M := (zh194, zc194)) (K := K) 100 23 rfl zckm194 hQ ?_
  show zX l Γ false 10 zh194 _ 0 0 23 [(6, .int ((Int32.ofInt 5) + (Int32.ofInt 1))), (7, .int _), (0, .ref 0), (1, .int x1), (2, .int x2), (3, .int x3), (4, .int x4), (5, .int x5)] [] (zsI (zrI zhM 1 row) 1 _ _)
  rw [show ((Int32.ofInt 5) + (Int32.ofInt 1) : Int32) = (Int32.ofInt 6) from by decide +kernel]
  rw [zfold1]
  exact hX _ _
set_option maxRecDepth 100000 in
set_option maxHeartbeats 4000000 in
theorem zfm6 {l : Launch} {Γ : zG} {QF : List Frame → Array Value → State → State → Prop} {K : Option Value → zH → Prop} {x1 x2 x3 x4 x5 w : Int32} {row : Nat → Int32} (hQ : ∀ below args s t, MQ below (zQ Γ false K) args s (zh194 : zHd).2.2.2.2.1 (zh194 : zHd).2.2.2.2.2 (zA Γ) t → QF below args s t) (hX : ∀ w row, zX l Γ false 10 zh194 QF 0 0 23 [(6, .int (Int32.ofInt 7)), (7, .int w), (0, .ref 0), (1, .int x1), (2, .int x2), (3, .int x3), (4, .int x4), (5, .int x5)] [] (zrI zhM 1 row)) : zX l Γ false 10 zh194 QF 0 0 23 [(6, .int (Int32.ofInt 6)), (7, .int w), (0, .ref 0), (1, .int x1), (2, .int x2), (3, .int x3), (4, .int x4), (5, .int x5)] [] (zrI zhM 1 row) := by
  refine zpcF (M := (zh194, zc194)) (K := K) 100 23 rfl zckm194 hQ ?_
  show zX l Γ false 10 zh194 _ 0 0 23 [(6, .int ((Int32.ofInt 6) + (Int32.ofInt 1))), (7, .int _), (0, .ref 0), (1, .int x1), (2, .int x2), (3, .int x3), (4, .int x4), (5, .int x5)] [] (zsI (zrI zhM 1 row) 1 _ _)
  rw [show ((Int32.ofInt 6) + (Int32.ofInt 1) : Int32) = (Int32.ofInt 7) from by decide +kernel]
  rw [zfold1]
  exact hX _ _
set_option maxRecDepth 100000 in
set_option maxHeartbeats 4000000 in
theorem zfm7 {l : Launch} {Γ : zG} {QF : List Frame → Array Value → State → State → Prop} {K : Option Value → zH → Prop} {x1 x2 x3 x4 x5 w : Int32} {row : Nat → Int32} (hQ : ∀ below args s t, MQ below (zQ Γ false K) args s (zh194 : zHd).2.2.2.2.1 (zh194 : zHd).2.2.2.2.2 (zA Γ) t → QF below args s t) (hX : ∀ w row, zX l Γ false 10 zh194 QF 0 0 23 [(6, .int (Int32.ofInt 8)), (7, .int w), (0, .ref 0), (1, .int x1), (2, .int x2), (3, .int x3), (4, .int x4), (5, .int x5)] [] (zrI zhM 1 row)) : zX l Γ false 10 zh194 QF 0 0 23 [(6, .int (Int32.ofInt 7)), (7, .int w), (0, .ref 0), (1, .int x1), (2, .int x2), (3, .int x3), (4, .int x4), (5, .int x5)] [] (zrI zhM 1 row) := by
  refine zpcF (M := (zh194, zc194)) (K := K) 100 23 rfl zckm194 hQ ?_
  show zX l Γ false 10 zh194 _ 0 0 23 [(6, .int ((Int32.ofInt 7) + (Int32.ofInt 1))), (7, .int _), (0, .ref 0), (1, .int x1), (2, .int x2), (3, .int x3), (4, .int x4), (5, .int x5)] [] (zsI (zrI zhM 1 row) 1 _ _)
  rw [show ((Int32.ofInt 7) + (Int32.ofInt 1) : Int32) = (Int32.ofInt 8) from by decide +kernel]
  rw [zfold1]
  exact hX _ _
set_option maxRecDepth 100000 in
set_option maxHeartbeats 4000000 in
theorem zfm8 {l : Launch} {Γ : zG} {QF : List Frame → Array Value → State → State → Prop} {K : Option Value → zH → Prop} {x1 x2 x3 x4 x5 w : Int32} {row : Nat → Int32} (hQ : ∀ below args s t, MQ below (zQ Γ false K) args s (zh194 : zHd).2.2.2.2.1 (zh194 : zHd).2.2.2.2.2 (zA Γ) t → QF below args s t) (hX : ∀ w row, zX l Γ false 10 zh194 QF 0 0 23 [(6, .int (Int32.ofInt 9)), (7, .int w), (0, .ref 0), (1, .int x1), (2, .int x2), (3, .int x3), (4, .int x4), (5, .int x5)] [] (zrI zhM 1 row)) : zX l Γ false 10 zh194 QF 0 0 23 [(6, .int (Int32.ofInt 8)), (7, .int w), (0, .ref 0), (1, .int x1), (2, .int x2), (3, .int x3), (4, .int x4), (5, .int x5)] [] (zrI zhM 1 row) := by
  refine zpcF (M := (zh194, zc194)) (K := K) 100 23 rfl zckm194 hQ ?_
  show zX l Γ false 10 zh194 _ 0 0 23 [(6, .int ((Int32.ofInt 8) + (Int32.ofInt 1))), (7, .int _), (0, .ref 0), (1, .int x1), (2, .int x2), (3, .int x3), (4, .int x4), (5, .int x5)] [] (zsI (zrI zhM 1 row) 1 _ _)
  rw [show ((Int32.ofInt 8) + (Int32.ofInt 1) : Int32) = (Int32.ofInt 9) from by decide +kernel]
  rw [zfold1]
  exact hX _ _
set_option maxRecDepth 100000 in
set_option maxHeartbeats 4000000 in
theorem zfm9 {l : Launch} {Γ : zG} {QF : List Frame → Array Value → State → State → Prop} {K : Option Value → zH → Prop} {x1 x2 x3 x4 x5 w : Int32} {row : Nat → Int32} (hQ : ∀ below args s t, MQ below (zQ Γ false K) args s (zh194 : zHd).2.2.2.2.1 (zh194 : zHd).2.2.2.2.2 (zA Γ) t → QF below args s t) (hX : ∀ w row, zX l Γ false 10 zh194 QF 0 0 23 [(6, .int (Int32.ofInt 10)), (7, .int w), (0, .ref 0), (1, .int x1), (2, .int x2), (3, .int x3), (4, .int x4), (5, .int x5)] [] (zrI zhM 1 row)) : zX l Γ false 10 zh194 QF 0 0 23 [(6, .int (Int32.ofInt 9)), (7, .int w), (0, .ref 0), (1, .int x1), (2, .int x2), (3, .int x3), (4, .int x4), (5, .int x5)] [] (zrI zhM 1 row) := by
  refine zpcF (M := (zh194, zc194)) (K := K) 100 23 rfl zckm194 hQ ?_
  show zX l Γ false 10 zh194 _ 0 0 23 [(6, .int ((Int32.ofInt 9) + (Int32.ofInt 1))), (7, .int _), (0, .ref 0), (1, .int x1), (2, .int x2), (3, .int x3), (4, .int x4), (5, .int x5)] [] (zsI (zrI zhM 1 row) 1 _ _)
  rw [show ((Int32.ofInt 9) + (Int32.ofInt 1) : Int32) = (Int32.ofInt 10) from by decide +kernel]
  rw [zfold1]
  exact hX _ _
set_option maxRecDepth 100000 in
set_option maxHeartbeats 4000000 in
theorem zfm10 {l : Launch} {Γ : zG} {QF : List Frame → Array Value → State → State → Prop} {K : Option Value → zH → Prop} {x1 x2 x3 x4 x5 w : Int32} {row : Nat → Int32} (hQ : ∀ below args s t, MQ below (zQ Γ false K) args s (zh194 : zHd).2.2.2.2.1 (zh194 : zHd).2.2.2.2.2 (zA Γ) t → QF below args s t) (hX : ∀ w row, zX l Γ false 10 zh194 QF 0 0 23 [(6, .int (Int32.ofInt 11)), (7, .int w), (0, .ref 0), (1, .int x1), (2, .int x2), (3, .int x3), (4, .int x4), (5, .int x5)] [] (zrI zhM 1 row)) : zX l Γ false 10 zh194 QF 0 0 23 [(6, .int (Int32.ofInt 10)), (7, .int w), (0, .ref 0), (1, .int x1), (2, .int x2), (3, .int x3), (4, .int x4), (5, .int x5)] [] (zrI zhM 1 row) := by
  refine zpcF (M := (zh194, zc194)) (K := K) 100 23 rfl zckm194 hQ ?_
  show zX l Γ false 10 zh194 _ 0 0 23 [(6, .int ((Int32.ofInt 10) + (Int32.ofInt 1))), (7, .int _), (0, .ref 0), (1, .int x1), (2, .int x2), (3, .int x3), (4, .int x4), (5, .int x5)] [] (zsI (zrI zhM 1 row) 1 _ _)
  rw [show ((Int32.ofInt 10) + (Int32.ofInt 1) : Int32) = (Int32.ofInt 11) from by decide +kernel]
  rw [zfold1]
  exact hX _ _
set_option maxRecDepth 100000 in
set_option maxHeartbeats 4000000 in
theorem zfm11 {l : Launch} {Γ : zG} {QF : List Frame → Array Value → State → State → Prop} {K : Option Value → zH → Prop} {x1 x2 x3 x4 x5 w : Int32} {row : Nat → Int32} (hQ : ∀ below args s t, MQ below (zQ Γ false K) args s (zh194 : zHd).2.2.2.2.1 (zh194 : zHd).2.2.2.2.2 (zA Γ) t → QF below args s t) (hX : ∀ w row, zX l Γ false 10 zh194 QF 0 0 23 [(6, .int (Int32.ofInt 12)), (7, .int w), (0, .ref 0), (1, .int x1), (2, .int x2), (3, .int x3), (4, .int x4), (5, .int x5)] [] (zrI zhM 1 row)) : zX l Γ false 10 zh194 QF 0 0 23 [(6, .int (Int32.ofInt 11)), (7, .int w), (0, .ref 0), (1, .int x1), (2, .int x2), (3, .int x3), (4, .int x4), (5, .int x5)] [] (zrI zhM 1 row) := by
  refine zpcF (M := (zh194, zc194)) (K := K) 100 23 rfl zckm194 hQ ?_
  show zX l Γ false 10 zh194 _ 0 0 23 [(6, .int ((Int32.ofInt 11) + (Int32.ofInt 1))), (7, .int _), (0, .ref 0), (1, .int x1), (2, .int x2), (3, .int x3), (4, .int x4), (5, .int x5)] [] (zsI (zrI zhM 1 row) 1 _ _)
  rw [show ((Int32.ofInt 11) + (Int32.ofInt 1) : Int32) = (Int32.ofInt 12) from by decide +kernel]
  rw [zfold1]
  exact hX _ _
set_option maxRecDepth 100000 in
set_option maxHeartbeats 4000000 in
theorem zfm12 {l : Launch} {Γ : zG} {QF : List Frame → Array Value → State → State → Prop} {K : Option Value → zH → Prop} {x1 x2 x3 x4 x5 w : Int32} {row : Nat → Int32} (hQ : ∀ below args s t, MQ below (zQ Γ false K) args s (zh194 : zHd).2.2.2.2.1 (zh194 : zHd).2.2.2.2.2 (zA Γ) t → QF below args s t) (hX : ∀ w row, zX l Γ false 10 zh194 QF 0 0 23 [(6, .int (Int32.ofInt 13)), (7, .int w), (0, .ref 0), (1, .int x1), (2, .int x2), (3, .int x3), (4, .int x4), (5, .int x5)] [] (zrI zhM 1 row)) : zX l Γ false 10 zh194 QF 0 0 23 [(6, .int (Int32.ofInt 12)), (7, .int w), (0, .ref 0), (1, .int x1), (2, .int x2), (3, .int x3), (4, .int x4), (5, .int x5)] [] (zrI zhM 1 row) := by
  refine zpcF (M := (zh194, zc194)) (K := K) 100 23 rfl zckm194 hQ ?_
  show zX l Γ false 10 zh194 _ 0 0 23 [(6, .int ((Int32.ofInt 12) + (Int32.ofInt 1))), (7, .int _), (0, .ref 0), (1, .int x1), (2, .int x2), (3, .int x3), (4, .int x4), (5, .int x5)] [] (zsI (zrI zhM 1 row) 1 _ _)
  rw [show ((Int32.ofInt 12) + (Int32.ofInt 1) : Int32) = (Int32.ofInt 13) from by decide +kernel]
  rw [zfold1]
  exact hX _ _
set_option maxRecDepth 100000 in
set_option maxHeartbeats 4000000 in
theorem zfm13 {l : Launch} {Γ : zG} {QF : List Frame → Array Value → State → State → Prop} {K : Option Value → zH → Prop} {x1 x2 x3 x4 x5 w : Int32} {row : Nat → Int32} (hQ : ∀ below args s t, MQ below (zQ Γ false K) args s (zh194 : zHd).2.2.2.2.1 (zh194 : zHd).2.2.2.2.2 (zA Γ) t → QF below args s t) (hX : ∀ w row, zX l Γ false 10 zh194 QF 0 0 23 [(6, .int (Int32.ofInt 14)), (7, .int w), (0, .ref 0), (1, .int x1), (2, .int x2), (3, .int x3), (4, .int x4), (5, .int x5)] [] (zrI zhM 1 row)) : zX l Γ false 10 zh194 QF 0 0 23 [(6, .int (Int32.ofInt 13)), (7, .int w), (0, .ref 0), (1, .int x1), (2, .int x2), (3, .int x3), (4, .int x4), (5, .int x5)] [] (zrI zhM 1 row) := by
  refine zpcF (M := (zh194, zc194)) (K := K) 100 23 rfl zckm194 hQ ?_
  show zX l Γ false 10 zh194 _ 0 0 23 [(6, .int ((Int32.ofInt 13) + (Int32.ofInt 1))), (7, .int _), (0, .ref 0), (1, .int x1), (2, .int x2), (3, .int x3), (4, .int x4), (5, .int x5)] [] (zsI (zrI zhM 1 row) 1 _ _)
  rw [show ((Int32.ofInt 13) + (Int32.ofInt 1) : Int32) = (Int32.ofInt 14) from by decide +kernel]
  rw [zfold1]
  exact hX _ _
set_option maxRecDepth 100000 in
set_option maxHeartbeats 4000000 in
theorem zfm14 {l : Launch} {Γ : zG} {QF : List Frame → Array Value → State → State → Prop} {K : Option Value → zH → Prop} {x1 x2 x3 x4 x5 w : Int32} {row : Nat → Int32} (hQ : ∀ below args s t, MQ below (zQ Γ false K) args s (zh194 : zHd).2.2.2.2.1 (zh194 : zHd).2.2.2.2.2 (zA Γ) t → QF below args s t) (hX : ∀ w row, zX l Γ false 10 zh194 QF 0 0 23 [(6, .int (Int32.ofInt 15)), (7, .int w), (0, .ref 0), (1, .int x1), (2, .int x2), (3, .int x3), (4, .int x4), (5, .int x5)] [] (zrI zhM 1 row)) : zX l Γ false 10 zh194 QF 0 0 23 [(6, .int (Int32.ofInt 14)), (7, .int w), (0, .ref 0), (1, .int x1), (2, .int x2), (3, .int x3), (4, .int x4), (5, .int x5)] [] (zrI zhM 1 row) := by
  refine zpcF (M := (zh194, zc194)) (K := K) 100 23 rfl zckm194 hQ ?_
  show zX l Γ false 10 zh194 _ 0 0 23 [(6, .int ((Int32.ofInt 14) + (Int32.ofInt 1))), (7, .int _), (0, .ref 0), (1, .int x1), (2, .int x2), (3, .int x3), (4, .int x4), (5, .int x5)] [] (zsI (zrI zhM 1 row) 1 _ _)
  rw [show ((Int32.ofInt 14) + (Int32.ofInt 1) : Int32) = (Int32.ofInt 15) from by decide +kernel]
  rw [zfold1]
  exact hX _ _
set_option maxRecDepth 100000 in
set_option maxHeartbeats 4000000 in
theorem zfm15 {l : Launch} {Γ : zG} {QF : List Frame → Array Value → State → State → Prop} {K : Option Value → zH → Prop} {x1 x2 x3 x4 x5 w : Int32} {row : Nat → Int32} (hQ : ∀ below args s t, MQ below (zQ Γ false K) args s (zh194 : zHd).2.2.2.2.1 (zh194 : zHd).2.2.2.2.2 (zA Γ) t → QF below args s t) (hX : ∀ w row, zX l Γ false 10 zh194 QF 0 0 23 [(6, .int (Int32.ofInt 16)), (7, .int w), (0, .ref 0), (1, .int x1), (2, .int x2), (3, .int x3), (4, .int x4), (5, .int x5)] [] (zrI zhM 1 row)) : zX l Γ false 10 zh194 QF 0 0 23 [(6, .int (Int32.ofInt 15)), (7, .int w), (0, .ref 0), (1, .int x1), (2, .int x2), (3, .int x3), (4, .int x4), (5, .int x5)] [] (zrI zhM 1 row) := by
  refine zpcF (M := (zh194, zc194)) (K := K) 100 23 rfl zckm194 hQ ?_
  show zX l Γ false 10 zh194 _ 0 0 23 [(6, .int ((Int32.ofInt 15) + (Int32.ofInt 1))), (7, .int _), (0, .ref 0), (1, .int x1), (2, .int x2), (3, .int x3), (4, .int x4), (5, .int x5)] [] (zsI (zrI zhM 1 row) 1 _ _)
  rw [show ((Int32.ofInt 15) + (Int32.ofInt 1) : Int32) = (Int32.ofInt 16) from by decide +kernel]
  rw [zfold1]
  exact hX _ _
set_option maxRecDepth 100000 in
set_option maxHeartbeats 4000000 in
theorem zfm16 {l : Launch} {Γ : zG} {QF : List Frame → Array Value → State → State → Prop} {K : Option Value → zH → Prop} {x1 x2 x3 x4 x5 w : Int32} {row : Nat → Int32} (hQ : ∀ below args s t, MQ below (zQ Γ false K) args s (zh194 : zHd).2.2.2.2.1 (zh194 : zHd).2.2.2.2.2 (zA Γ) t → QF below args s t) (hX : ∀ w row, zX l Γ false 10 zh194 QF 0 0 23 [(6, .int (Int32.ofInt 17)), (7, .int w), (0, .ref 0), (1, .int x1), (2, .int x2), (3, .int x3), (4, .int x4), (5, .int x5)] [] (zrI zhM 1 row)) : zX l Γ false 10 zh194 QF 0 0 23 [(6, .int (Int32.ofInt 16)), (7, .int w), (0, .ref 0), (1, .int x1), (2, .int x2), (3, .int x3), (4, .int x4), (5, .int x5)] [] (zrI zhM 1 row) := by
  refine zpcF (M := (zh194, zc194)) (K := K) 100 23 rfl zckm194 hQ ?_
  show zX l Γ false 10 zh194 _ 0 0 23 [(6, .int ((Int32.ofInt 16) + (Int32.ofInt 1))), (7, .int _), (0, .ref 0), (1, .int x1), (2, .int x2), (3, .int x3), (4, .int x4), (5, .int x5)] [] (zsI (zrI zhM 1 row) 1 _ _)
  rw [show ((Int32.ofInt 16) + (Int32.ofInt 1) : Int32) = (Int32.ofInt 17) from by decide +kernel]
  rw [zfold1]
  exact hX _ _
set_option maxRecDepth 100000 in
set_option maxHeartbeats 4000000 in
theorem zfm17 {l : Launch} {Γ : zG} {QF : List Frame → Array Value → State → State → Prop} {K : Option Value → zH → Prop} {x1 x2 x3 x4 x5 w : Int32} {row : Nat → Int32} (hQ : ∀ below args s t, MQ below (zQ Γ false K) args s (zh194 : zHd).2.2.2.2.1 (zh194 : zHd).2.2.2.2.2 (zA Γ) t → QF below args s t) (hX : ∀ w row, zX l Γ false 10 zh194 QF 0 0 23 [(6, .int (Int32.ofInt 18)), (7, .int w), (0, .ref 0), (1, .int x1), (2, .int x2), (3, .int x3), (4, .int x4), (5, .int x5)] [] (zrI zhM 1 row)) : zX l Γ false 10 zh194 QF 0 0 23 [(6, .int (Int32.ofInt 17)), (7, .int w), (0, .ref 0), (1, .int x1), (2, .int x2), (3, .int x3), (4, .int x4), (5, .int x5)] [] (zrI zhM 1 row) := by
  refine zpcF (M := (zh194, zc194)) (K := K) 100 23 rfl zckm194 hQ ?_
  show zX l Γ false 10 zh194 _ 0 0 23 [(6, .int ((Int32.ofInt 17) + (Int32.ofInt 1))), (7, .int _), (0, .ref 0), (1, .int x1), (2, .int x2), (3, .int x3), (4, .int x4), (5, .int x5)] [] (zsI (zrI zhM 1 row) 1 _ _)
  rw [show ((Int32.ofInt 17) + (Int32.ofInt 1) : Int32) = (Int32.ofInt 18) from by decide +kernel]
  rw [zfold1]
  exact hX _ _
set_option maxRecDepth 100000 in
set_option maxHeartbeats 4000000 in
theorem zfm18 {l : Launch} {Γ : zG} {QF : List Frame → Array Value → State → State → Prop} {K : Option Value → zH → Prop} {x1 x2 x3 x4 x5 w : Int32} {row : Nat → Int32} (hQ : ∀ below args s t, MQ below (zQ Γ false K) args s (zh194 : zHd).2.2.2.2.1 (zh194 : zHd).2.2.2.2.2 (zA Γ) t → QF below args s t) (hX : ∀ w row, zX l Γ false 10 zh194 QF 0 0 23 [(6, .int (Int32.ofInt 19)), (7, .int w), (0, .ref 0), (1, .int x1), (2, .int x2), (3, .int x3), (4, .int x4), (5, .int x5)] [] (zrI zhM 1 row)) : zX l Γ false 10 zh194 QF 0 0 23 [(6, .int (Int32.ofInt 18)), (7, .int w), (0, .ref 0), (1, .int x1), (2, .int x2), (3, .int x3), (4, .int x4), (5, .int x5)] [] (zrI zhM 1 row) := by
  refine zpcF (M := (zh194, zc194)) (K := K) 100 23 rfl zckm194 hQ ?_
  show zX l Γ false 10 zh194 _ 0 0 23 [(6, .int ((Int32.ofInt 18) + (Int32.ofInt 1))), (7, .int _), (0, .ref 0), (1, .int x1), (2, .int x2), (3, .int x3), (4, .int x4), (5, .int x5)] [] (zsI (zrI zhM 1 row) 1 _ _)
  rw [show ((Int32.ofInt 18) + (Int32.ofInt 1) : Int32) = (Int32.ofInt 19) from by decide +kernel]
  rw [zfold1]
  exact hX _ _
set_option maxRecDepth 100000 in
set_option maxHeartbeats 4000000 in
theorem zfm19 {l : Launch} {Γ : zG} {QF : List Frame → Array Value → State → State → Prop} {K : Option Value → zH → Prop} {x1 x2 x3 x4 x5 w : Int32} {row : Nat → Int32} (hQ : ∀ below args s t, MQ below (zQ Γ false K) args s (zh194 : zHd).2.2.2.2.1 (zh194 : zHd).2.2.2.2.2 (zA Γ) t → QF below args s t) (hX : ∀ w row, zX l Γ false 10 zh194 QF 0 0 23 [(6, .int (Int32.ofInt 20)), (7, .int w), (0, .ref 0), (1, .int x1), (2, .int x2), (3, .int x3), (4, .int x4), (5, .int x5)] [] (zrI zhM 1 row)) : zX l Γ false 10 zh194 QF 0 0 23 [(6, .int (Int32.ofInt 19)), (7, .int w), (0, .ref 0), (1, .int x1), (2, .int x2), (3, .int x3), (4, .int x4), (5, .int x5)] [] (zrI zhM 1 row) := by
  refine zpcF (M := (zh194, zc194)) (K := K) 100 23 rfl zckm194 hQ ?_
  show zX l Γ false 10 zh194 _ 0 0 23 [(6, .int ((Int32.ofInt 19) + (Int32.ofInt 1))), (7, .int _), (0, .ref 0), (1, .int x1), (2, .int x2), (3, .int x3), (4, .int x4), (5, .int x5)] [] (zsI (zrI zhM 1 row) 1 _ _)
  rw [show ((Int32.ofInt 19) + (Int32.ofInt 1) : Int32) = (Int32.ofInt 20) from by decide +kernel]
  rw [zfold1]
  exact hX _ _
set_option maxRecDepth 100000 in
set_option maxHeartbeats 4000000 in
theorem zf_m0 (l : Launch) (Γ : zG) (x1 x2 x3 x4 x5 : Int32) : zSem l Γ false 10 (zhd 194) [.ref 0, .int x1, .int x2, .int x3, .int x4, .int x5] zhM (fun r f => r = some (.int 20) ∧ f.1 = zshM) := by
  show zSem l Γ false 10 zh194 _ _ _
  refine zbody (by decide +kernel) (show 6 ≤ 8 by decide) ?_
  refine zpcF (M := (zh194, zc194)) (K := (fun r f => r = some (.int 20) ∧ f.1 = zshM)) 100 23 rfl zckm194 (fun _ _ _ _ h => h) ?_
  refine zX_congr (g := zrI zhM 1 (fun _ => 0)) (by decide +kernel) ?_
  refine zfm0 (K := (fun r f => r = some (.int 20) ∧ f.1 = zshM)) (w := 0) (fun _ _ _ _ h => h) (fun w row => ?_)
  refine zfm1 (K := (fun r f => r = some (.int 20) ∧ f.1 = zshM)) (fun _ _ _ _ h => h) (fun w row => ?_)
  refine zfm2 (K := (fun r f => r = some (.int 20) ∧ f.1 = zshM)) (fun _ _ _ _ h => h) (fun w row => ?_)
  refine zfm3 (K := (fun r f => r = some (.int 20) ∧ f.1 = zshM)) (fun _ _ _ _ h => h) (fun w row => ?_)
  refine zfm4 (K := (fun r f => r = some (.int 20) ∧ f.1 = zshM)) (fun _ _ _ _ h => h) (fun w row => ?_)
  refine zfm5 (K := (fun r f => r = some (.int 20) ∧ f.1 = zshM)) (fun _ _ _ _ h => h) (fun w row => ?_)
  refine zfm6 (K := (fun r f => r = some (.int 20) ∧ f.1 = zshM)) (fun _ _ _ _ h => h) (fun w row => ?_)
  refine zfm7 (K := (fun r f => r = some (.int 20) ∧ f.1 = zshM)) (fun _ _ _ _ h => h) (fun w row => ?_)
  refine zfm8 (K := (fun r f => r = some (.int 20) ∧ f.1 = zshM)) (fun _ _ _ _ h => h) (fun w row => ?_)
  refine zfm9 (K := (fun r f => r = some (.int 20) ∧ f.1 = zshM)) (fun _ _ _ _ h => h) (fun w row => ?_)
  refine zfm10 (K := (fun r f => r = some (.int 20) ∧ f.1 = zshM)) (fun _ _ _ _ h => h) (fun w row => ?_)
  refine zfm11 (K := (fun r f => r = some (.int 20) ∧ f.1 = zshM)) (fun _ _ _ _ h => h) (fun w row => ?_)
  refine zfm12 (K := (fun r f => r = some (.int 20) ∧ f.1 = zshM)) (fun _ _ _ _ h => h) (fun w row => ?_)
  refine zfm13 (K := (fun r f => r = some (.int 20) ∧ f.1 = zshM)) (fun _ _ _ _ h => h) (fun w row => ?_)
  refine zfm14 (K := (fun r f => r = some (.int 20) ∧ f.1 = zshM)) (fun _ _ _ _ h => h) (fun w row => ?_)
  refine zfm15 (K := (fun r f => r = some (.int 20) ∧ f.1 = zshM)) (fun _ _ _ _ h => h) (fun w row => ?_)
  refine zfm16 (K := (fun r f => r = some (.int 20) ∧ f.1 = zshM)) (fun _ _ _ _ h => h) (fun w row => ?_)
  refine zfm17 (K := (fun r f => r = some (.int 20) ∧ f.1 = zshM)) (fun _ _ _ _ h => h) (fun w row => ?_)
  refine zfm18 (K := (fun r f => r = some (.int 20) ∧ f.1 = zshM)) (fun _ _ _ _ h => h) (fun w row => ?_)
  refine zfm19 (K := (fun r f => r = some (.int 20) ∧ f.1 = zshM)) (fun _ _ _ _ h => h) (fun w row => ?_)
  refine zpcF (M := (zh194, zc194)) (K := (fun r f => r = some (.int 20) ∧ f.1 = zshM)) 100 23 rfl zckm194 (fun _ _ _ _ h => h) ?_
  refine And.intro (zsvI (Eq.refl _) ?_) (by simp only [zsI_1, zrI_1] ; rfl)
  rw [zsI_at, zrI_row (show (0 : Nat) ≠ 1 by decide)]
  decide +kernel
