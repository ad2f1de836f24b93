set_option maxRecDepth 100000 in
set_option maxHeartbeats 4000000 in
theorem zmain (l : Launch) (hl : l.stackTraces = false) (D : va_G) (cT : Nat → ClassId) (bs : Nat) (ov : Nat → Value) (xs : Nat → Int32) (Z : Nat → Prop) (hZ : ∀ q, ¬ Z q) {L : Nat} (hL : L ≤ 6) : zX l ((D, cT, bs, ov, L, xs, Z) : zG) true 11 zhL (zQL ((D, cT, bs, ov, L, xs, Z) : zG)) 0 0 0 [(0, .retAddr 10)] [] (zh00) := by
  refine zlaw (n := 1000) (stop := fun p => Nat.beq p 23) (S := fun cs ss pc lo st h => zX l ((D, cT, bs, ov, L, xs, Z) : zG) true 11 zhL (zQL ((D, cT, bs, ov, L, xs, Z) : zG)) cs ss pc lo st h) (fun _ _ _ _ _ _ _ h => h) ?_
  show zSem l ((D, cT, bs, ov, L, xs, Z) : zG) true 10 (zhd 0) [.ref 0] (znew zh00 (0, 0)) _
  refine zSem.mono (zcon1S l _) ?_
  rintro r h' ⟨rfl, rfl⟩
  show zSem l ((D, cT, bs, ov, L, xs, Z) : zG) true 10 (zhd 186) [.ref 98] (znew zhC (0, 12)) _
  refine zSem.mono (zcon2W l _ hZ) ?_
  rintro r h' ⟨rfl, rfl⟩
  show zX l ((D, cT, bs, ov, L, xs, Z) : zG) true 11 zhL (zQL ((D, cT, bs, ov, L, xs, Z) : zG)) 143 13298 23 [(4, .int (Int32.ofInt 0)), (3, .ref 142), (2, .ref 98), (1, .ref 0), (0, .retAddr 10)] [] (_)
  refine zX_congr (g := zW zhC zhM 0) (by decide +kernel) (zX_al ?_)
  exact zlx l hl D cT bs ov xs Z hZ hL
