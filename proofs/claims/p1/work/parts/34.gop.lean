set_option maxRecDepth 100000 in
set_option maxHeartbeats 400000 in
theorem zf_m11 (l : Launch) (Γ : zG) (x1 : Int32) : zSem l Γ false 10 (zhd 253) [.ref 0, .int x1] zhM (fun r f => r = some (.int (zF11 x1)) ∧ f.1 = zshM) := by
  show zSem l Γ false 10 zh253 _ _ _
  refine zbody (by decide +kernel) (show 2 ≤ 3 by decide) ?_
  refine zit_ok (ρ := Prop) (bad := False) (tr := fun P => P) (M := (zh253, zc253)) (sc := none) (G := zrun False false (fun _ => false) (zno False) 1000 9) (K := (fun r f => r = some (.int (zF11 x1)) ∧ f.1 = zshM)) (stop := fun p => Nat.beq p 43) (S := fun cs ss pc lo st h => zX l Γ false 10 zh253 (zMQ' Γ false zh253 (fun r f => r = some (.int (zF11 x1)) ∧ f.1 = zshM)) cs ss pc lo st h) (fun h => h) zckm253 (fun mi args h K' _ h1 => zrun_ok (ρ := Prop) (bad := False) (tr := fun P => P) (sp := fun _ => false) (S := zno False) (fun h => h) rfl (fun _ _ _ _ _ h => by cases h) 1000 9 mi args h K' h1) (fun args h K' h1 => False.elim (by rw [zrun_GL rfl] at h1; exact h1)) (fun _ h => by cases h) (fun _ _ _ _ h => h) (fun cs ss pc lo st h _ h1 => h1) 1000 0 0 0 _ [] _ ?_
  refine zdec (fun h0 => ?_) (fun h0 => ?_)
  · have g0 : ¬ x1 < 0 := zeLn h0 rfl (by decide +kernel)
    refine zdec (fun h1 => ?_) (fun h1 => ?_)
    · have g1 : x1 ≤ 200 := Int32.not_lt.mp (zeLn h1 (by decide +kernel) rfl)
      have e : zF11 x1 = x1 := by rw [zF11, if_neg g0, if_pos g1]
      rw [e]
      refine zdecT ?_ (fun h2 => ?_)
      · exact zeM (z9000 g0 g1) (congrArg (· + x1) (by decide +kernel)) (by decide +kernel)
      have h0' := Int32.le_iff_toInt_le.mp (Int32.not_lt.mp g0)
      have e0 : (0 : Int32).toInt = 0 := by decide
      rw [e0] at h0'
      refine zX_congr (g := zsI zgM 36 0 0) (by decide +kernel) ?_
      exact zgoMX (n := x1) (mf := x1) (fun _ _ _ _ h => h) x1.toInt.toNat (Int32.ofInt 0) 0 (by rw [show (Int32.ofInt 0).toInt = 0 from by decide]; omega) (by rw [show Int32.ofInt 0 = 0 from by decide]; grind)
    · have g1 : ¬ x1 ≤ 200 := Int32.not_le.mpr (zeL h1 (by decide +kernel) rfl)
      refine And.intro (zsvI (Eq.refl _) ?_) rfl
      rw [zF11, if_neg g0, if_neg g1]
      decide +kernel
  · have g0 : x1 < 0 := zeL h0 rfl (by decide +kernel)
    refine And.intro (zsvI (Eq.refl _) ?_) rfl
    rw [zF11, if_pos g0]
    decide +kernel
