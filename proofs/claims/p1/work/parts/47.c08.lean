set_option maxRecDepth 100000 in
set_option maxHeartbeats 4000000 in
theorem zlc8 (l : Launch) (D : va_G) (cT : Nat → ClassId) (bs : Nat) (ov : Nat → Value) (xs : Nat → Int32) (Z : Nat → Prop) (hZ : ∀ q, ¬ Z q) : zX l ((D, cT, bs, ov, 6, xs, Z) : zG) false 11 zhL (zQL ((D, cT, bs, ov, 6, xs, Z) : zG)) 143 13298 564 [(4, .int (Int32.ofInt 0)), (3, .ref 142), (2, .ref 98), (1, .ref 0), (0, .retAddr 10)] [] (zW zhC zhM 0) := by
  obtain ⟨a, hc, hm⟩ : ∃ a : Int32, (∀ Γ : zG, zSem l Γ false 10 (zhd 91) [.ref 0, .int (xs 1)] zhC (fun r f => r = some (.int a) ∧ f.1 = zshC)) ∧ (∀ Γ : zG, zSem l Γ false 10 (zhd 246) [.ref 0, .int (xs 1)] zhM (fun r f => r = some (.int a) ∧ f.1 = zshM)) := ⟨_, fun Γ => zf_c8 l Γ (xs 1), fun Γ => zf_m8 l Γ (xs 1)⟩
  refine zlaw (n := 1000) (stop := fun _ => false) (S := fun _ _ _ _ _ _ => False) (fun _ _ _ _ _ _ h _ => by cases h) ?_
  show zSem l ((D, cT, bs, ov, 6, xs, Z) : zG) false 10 (zhd 91) (([.ref 0, .int (xs 1)] : List Value).map (zsft 0)) (zW zhC zhM 0) _
  refine zcallC hZ rfl rfl (hc _) (fun r f hk => hk.2) (fun r f hf hk => ?_)
  obtain ⟨rfl, -⟩ := hk
  obtain ⟨s1, f⟩ := f
  have hf : s1 = zshC := hf
  subst hf
  show zSem l ((D, cT, bs, ov, 6, xs, Z) : zG) false 10 (zhd 246) (([.ref 0, .int (xs 1)] : List Value).map (zsft 98)) (zW (zshC, f) zhM 0) _
  refine zcallM hZ rfl rfl (hm _) (fun r f hk => hk.2) (fun r f2 hf2 hk2 => ?_)
  obtain ⟨rfl, -⟩ := hk2
  refine zdecT rfl (fun h9 => ?_)
  refine zdecT (show Int32.ofNat 6 - Int32.ofInt 6 < Int32.ofInt 0 + Int32.ofInt 6 by decide +kernel) (fun h10 => ?_)
  refine zsvI (Eq.refl _) ?_
  decide +kernel
