set_option maxRecDepth 100000 in
set_option maxHeartbeats 4000000 in
theorem zlx0 (l : Launch) (hl : l.stackTraces = false) (D : va_G) (cT : Nat → ClassId) (bs : Nat) (ov : Nat → Value) (xs : Nat → Int32) (Z : Nat → Prop) (hZ : ∀ q, ¬ Z q) : zX l ((D, cT, bs, ov, 0, xs, Z) : zG) false 11 zhL (zQL ((D, cT, bs, ov, 0, xs, Z) : zG)) 143 13298 23 [(4, .int (Int32.ofInt 0)), (3, .ref 142), (2, .ref 98), (1, .ref 0), (0, .retAddr 10)] [] (zW zhC zhM 0) := by
  refine zlaw (n := 1000) (stop := fun _ => false) (S := fun _ _ _ _ _ _ => False) (fun _ _ _ _ _ _ h _ => by cases h) ?_
  refine zsvI (Eq.refl _) ?_
  decide +kernel
set_option maxRecDepth 100000 in
set_option maxHeartbeats 4000000 in
theorem zlx1 (l : Launch) (hl : l.stackTraces = false) (D : va_G) (cT : Nat → ClassId) (bs : Nat) (ov : Nat → Value) (xs : Nat → Int32) (Z : Nat → Prop) (hZ : ∀ q, ¬ Z q) : zX l ((D, cT, bs, ov, 1, xs, Z) : zG) false 11 zhL (zQL ((D, cT, bs, ov, 1, xs, Z) : zG)) 143 13298 23 [(4, .int (Int32.ofInt 0)), (3, .ref 142), (2, .ref 98), (1, .ref 0), (0, .retAddr 10)] [] (zW zhC zhM 0) := by
  refine zlaw (n := 1000) (stop := fun _ => false) (S := fun _ _ _ _ _ _ => False) (fun _ _ _ _ _ _ h _ => by cases h) ?_
  refine zsvI (Eq.refl _) ?_
  decide +kernel
set_option maxRecDepth 100000 in
set_option maxHeartbeats 4000000 in
theorem zlx2 (l : Launch) (hl : l.stackTraces = false) (D : va_G) (cT : Nat → ClassId) (bs : Nat) (ov : Nat → Value) (xs : Nat → Int32) (Z : Nat → Prop) (hZ : ∀ q, ¬ Z q) : zX l ((D, cT, bs, ov, 2, xs, Z) : zG) false 11 zhL (zQL ((D, cT, bs, ov, 2, xs, Z) : zG)) 143 13298 23 [(4, .int (Int32.ofInt 0)), (3, .ref 142), (2, .ref 98), (1, .ref 0), (0, .retAddr 10)] [] (zW zhC zhM 0) := by
  refine zlaw (n := 1000) (stop := fun _ => false) (S := fun _ _ _ _ _ _ => False) (fun _ _ _ _ _ _ h _ => by cases h) ?_
  refine zsvI (Eq.refl _) ?_
  decide +kernel
set_option maxRecDepth 100000 in
set_option maxHeartbeats 4000000 in
theorem zlx3 (l : Launch) (hl : l.stackTraces = false) (D : va_G) (cT : Nat → ClassId) (bs : Nat) (ov : Nat → Value) (xs : Nat → Int32) (Z : Nat → Prop) (hZ : ∀ q, ¬ Z q) : zX l ((D, cT, bs, ov, 3, xs, Z) : zG) false 11 zhL (zQL ((D, cT, bs, ov, 3, xs, Z) : zG)) 143 13298 23 [(4, .int (Int32.ofInt 0)), (3, .ref 142), (2, .ref 98), (1, .ref 0), (0, .retAddr 10)] [] (zW zhC zhM 0) := by
  refine zlaw (n := 1000) (stop := fun _ => false) (S := fun _ _ _ _ _ _ => False) (fun _ _ _ _ _ _ h _ => by cases h) ?_
  refine zsvI (Eq.refl _) ?_
  decide +kernel
set_option maxRecDepth 100000 in
set_option maxHeartbeats 4000000 in
theorem zlx4 (l : Launch) (hl : l.stackTraces = false) (D : va_G) (cT : Nat → ClassId) (bs : Nat) (ov : Nat → Value) (xs : Nat → Int32) (Z : Nat → Prop) (hZ : ∀ q, ¬ Z q) : zX l ((D, cT, bs, ov, 4, xs, Z) : zG) false 11 zhL (zQL ((D, cT, bs, ov, 4, xs, Z) : zG)) 143 13298 23 [(4, .int (Int32.ofInt 0)), (3, .ref 142), (2, .ref 98), (1, .ref 0), (0, .retAddr 10)] [] (zW zhC zhM 0) := by
  refine zlaw (n := 1000) (stop := fun _ => false) (S := fun _ _ _ _ _ _ => False) (fun _ _ _ _ _ _ h _ => by cases h) ?_
  refine zsvI (Eq.refl _) ?_
  decide +kernel
set_option maxRecDepth 100000 in
set_option maxHeartbeats 4000000 in
theorem zlx5 (l : Launch) (hl : l.stackTraces = false) (D : va_G) (cT : Nat → ClassId) (bs : Nat) (ov : Nat → Value) (xs : Nat → Int32) (Z : Nat → Prop) (hZ : ∀ q, ¬ Z q) : zX l ((D, cT, bs, ov, 5, xs, Z) : zG) false 11 zhL (zQL ((D, cT, bs, ov, 5, xs, Z) : zG)) 143 13298 23 [(4, .int (Int32.ofInt 0)), (3, .ref 142), (2, .ref 98), (1, .ref 0), (0, .retAddr 10)] [] (zW zhC zhM 0) := by
  refine zlaw (n := 1000) (stop := fun _ => false) (S := fun _ _ _ _ _ _ => False) (fun _ _ _ _ _ _ h _ => by cases h) ?_
  refine zsvI (Eq.refl _) ?_
  decide +kernel
set_option maxRecDepth 100000 in
set_option maxHeartbeats 4000000 in
theorem zlx6 (l : Launch) (hl : l.stackTraces = false) (D : va_G) (cT : Nat → ClassId) (bs : Nat) (ov : Nat → Value) (xs : Nat → Int32) (Z : Nat → Prop) (hZ : ∀ q, ¬ Z q) : zX l ((D, cT, bs, ov, 6, xs, Z) : zG) false 11 zhL (zQL ((D, cT, bs, ov, 6, xs, Z) : zG)) 143 13298 23 [(4, .int (Int32.ofInt 0)), (3, .ref 142), (2, .ref 98), (1, .ref 0), (0, .retAddr 10)] [] (zW zhC zhM 0) := by
  refine zlaw (n := 1000) (stop := fun p => Nat.ble 224 p && Nat.ble p 1560) (S := fun cs ss pc lo st h => zX l ((D, cT, bs, ov, 6, xs, Z) : zG) false 11 zhL (zQL ((D, cT, bs, ov, 6, xs, Z) : zG)) cs ss pc lo st h) (fun _ _ _ _ _ _ _ h => h) ?_
  refine zdecF (show ¬ Int32.ofNat 6 - Int32.ofInt 6 < Int32.ofInt 0 by decide +kernel) (fun h10 => ?_)
  refine zdec (fun h0 => ?_) (fun _ => zlc0 l D cT bs ov xs Z hZ)
  refine zdec (fun h1 => ?_) (fun _ => zlc1 l D cT bs ov xs Z hZ)
  refine zdec (fun h2 => ?_) (fun _ => zlc2 l D cT bs ov xs Z hZ)
  refine zdec (fun h3 => ?_) (fun _ => zlc3 l D cT bs ov xs Z hZ)
  refine zdec (fun h4 => ?_) (fun _ => zlc4 l D cT bs ov xs Z hZ hl)
  refine zdec (fun h5 => ?_) (fun _ => zlc5 l D cT bs ov xs Z hZ)
  refine zdec (fun h6 => ?_) (fun _ => zlc6 l D cT bs ov xs Z hZ)
  refine zdec (fun h7 => ?_) (fun _ => zlc7 l D cT bs ov xs Z hZ)
  refine zdec (fun h8 => ?_) (fun _ => zlc8 l D cT bs ov xs Z hZ)
  refine zdec (fun h9 => ?_) (fun _ => zlc9 l D cT bs ov xs Z hZ)
  refine zdec (fun h10 => ?_) (fun _ => zlc10 l D cT bs ov xs Z hZ)
  refine zdec (fun h11 => ?_) (fun _ => zlc11 l D cT bs ov xs Z hZ)
  refine zdec (fun h12 => ?_) (fun _ => zlc12 l D cT bs ov xs Z hZ)
  refine zdec (fun h13 => ?_) (fun _ => zlc13 l D cT bs ov xs Z hZ)
  refine zdec (fun h14 => ?_) (fun _ => zlc14 l D cT bs ov xs Z hZ)
  refine zdec (fun h15 => ?_) (fun _ => zlc15 l D cT bs ov xs Z hZ)
  refine zdec (fun h16 => ?_) (fun _ => zlc16 l D cT bs ov xs Z hZ)
  refine zdec (fun h17 => ?_) (fun _ => zlc17 l D cT bs ov xs Z hZ)
  refine zdec (fun h18 => ?_) (fun _ => zlc18 l D cT bs ov xs Z hZ)
  refine zdec (fun h19 => ?_) (fun _ => zlc19 l D cT bs ov xs Z hZ)
  refine zdec (fun h20 => ?_) (fun _ => zlc20 l D cT bs ov xs Z hZ)
  refine zdec (fun h21 => ?_) (fun _ => zlc21 l D cT bs ov xs Z hZ)
  refine zdec (fun h22 => ?_) (fun _ => zlc22 l D cT bs ov xs Z hZ)
  refine zdec (fun h23 => ?_) (fun _ => zlc23 l D cT bs ov xs Z hZ)
  refine zdec (fun h24 => ?_) (fun _ => zlc24 l D cT bs ov xs Z hZ)
  refine zdec (fun h25 => ?_) (fun _ => zlc25 l D cT bs ov xs Z hZ)
  refine zdec (fun h26 => ?_) (fun _ => zlc26 l D cT bs ov xs Z hZ)
  refine zdec (fun h27 => ?_) (fun _ => zlc27 l D cT bs ov xs Z hZ)
  refine zdec (fun h28 => ?_) (fun _ => zlc28 l D cT bs ov xs Z hZ)
  refine zdec (fun h29 => ?_) (fun _ => zlc29 l D cT bs ov xs Z hZ)
  refine zdec (fun h30 => ?_) (fun _ => zlc30 l D cT bs ov xs Z hZ)
  refine zdec (fun h31 => ?_) (fun _ => zlc31 l D cT bs ov xs Z hZ)
  refine zdec (fun h32 => ?_) (fun _ => zlc32 l D cT bs ov xs Z hZ)
  refine zdec (fun h33 => ?_) (fun _ => zlc33 l D cT bs ov xs Z hZ)
  refine zdec (fun h34 => ?_) (fun _ => zlc34 l D cT bs ov xs Z hZ)
  refine zdec (fun h35 => ?_) (fun _ => zlc35 l D cT bs ov xs Z hZ)
  refine zdec (fun h36 => ?_) (fun _ => zlc36 l D cT bs ov xs Z hZ)
  refine zdec (fun h37 => ?_) (fun _ => zlc37 l D cT bs ov xs Z hZ)
  refine zdec (fun h38 => ?_) (fun _ => zlc38 l D cT bs ov xs Z hZ)
  refine zdec (fun h39 => ?_) (fun _ => zlc39 l D cT bs ov xs Z hZ)
  refine zdec (fun h40 => ?_) (fun _ => zlc40 l D cT bs ov xs Z hZ)
  refine zdec (fun h41 => ?_) (fun _ => zlc41 l D cT bs ov xs Z hZ)
  refine zdecT (show Int32.ofNat 6 - Int32.ofInt 6 < Int32.ofInt 0 + Int32.ofInt 6 by decide +kernel) (fun h11 => ?_)
  refine zsvI (Eq.refl _) ?_
  decide +kernel
set_option maxRecDepth 100000 in
set_option maxHeartbeats 4000000 in
theorem zlx (l : Launch) (hl : l.stackTraces = false) (D : va_G) (cT : Nat → ClassId) (bs : Nat) (ov : Nat → Value) (xs : Nat → Int32) (Z : Nat → Prop) (hZ : ∀ q, ¬ Z q) {L : Nat} (hL : L ≤ 6) : zX l ((D, cT, bs, ov, L, xs, Z) : zG) false 11 zhL (zQL ((D, cT, bs, ov, L, xs, Z) : zG)) 143 13298 23 [(4, .int (Int32.ofInt 0)), (3, .ref 142), (2, .ref 98), (1, .ref 0), (0, .retAddr 10)] [] (zW zhC zhM 0) := by
  have h : L = 0 ∨ L = 1 ∨ L = 2 ∨ L = 3 ∨ L = 4 ∨ L = 5 ∨ L = 6 := by omega
  rcases h with rfl | rfl | rfl | rfl | rfl | rfl | rfl
  · exact zlx0 l hl D cT bs ov xs Z hZ
  · exact zlx1 l hl D cT bs ov xs Z hZ
  · exact zlx2 l hl D cT bs ov xs Z hZ
  · exact zlx3 l hl D cT bs ov xs Z hZ
  · exact zlx4 l hl D cT bs ov xs Z hZ
  · exact zlx5 l hl D cT bs ov xs Z hZ
  · exact zlx6 l hl D cT bs ov xs Z hZ
