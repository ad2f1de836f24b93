set_option maxRecDepth 100000 in
set_option maxHeartbeats 4000000 in
theorem zlc4 (l : Launch) (D : va_G) (cT : Nat → ClassId) (bs : Nat) (ov : Nat → Value) (xs : Nat → Int32) (Z : Nat → Prop) (hZ : ∀ q, ¬ Z q) (hl : l.stackTraces = false) : zX l ((D, cT, bs, ov, 6, xs, Z) : zG) false 11 zhL (zQL ((D, cT, bs, ov, 6, xs, Z) : zG)) 143 13298 384 [(4, .int (Int32.ofInt 0)), (3, .ref 142), (2, .ref 98), (1, .ref 0), (0, .retAddr 10)] [] (zW zhC zhM 0) := by
  refine zlaw (n := 1000) (stop := fun _ => false) (S := fun _ _ _ _ _ _ => False) (fun _ _ _ _ _ _ h _ => by cases h) ?_
  show zSemW l ((D, cT, bs, ov, 6, xs, Z) : zG) false 10 [.ref 0, .int (xs 1), .int (xs 2), .ref 142] (zW zhC zhM 0) _
  refine zSemW.mono (zglassW l hl _ (xs 1) (xs 2)) ?_
  rintro r h' ⟨rfl, rfl⟩
  show zSem l ((D, cT, bs, ov, 6, xs, Z) : zG) false 10 (zhd 229) (([.ref 0, .int (xs 1), .int (xs 2)] : List Value).map (zsft 98)) (zW zhC zhM 0) _
  refine zcallM hZ rfl rfl (zf_m4 l _ (xs 1) (xs 2)) (fun r f hk => by rw [hk.2]; rfl) (fun r f2 hf2 hk2 => ?_)
  obtain ⟨rfl, rfl⟩ := hk2
  show zSem l ((D, cT, bs, ov, 6, xs, Z) : zG) false 10 (zhd 193) (([.ref 0] : List Value).map (zsft 98)) (zW zhC zhMt 0) _
  refine zcallM hZ rfl rfl (zf_mt l _) (fun r f hk => hk.2) (fun r f3 hf3 hk3 => ?_)
  obtain ⟨rfl, -⟩ := hk3
  refine zdecT (show Int32.ofNat 6 - Int32.ofInt 6 < Int32.ofInt 0 + Int32.ofInt 6 by decide +kernel) (fun h10 => ?_)
  refine zsvI (Eq.refl _) ?_
  decide +kernel
