set_option maxRecDepth 100000 in
set_option maxHeartbeats 4000000 in
theorem zpassGS (l : Launch) (Γ : zG) (n m : Int32) (hn : 0 ≤ n) : zSem l Γ false 9 (zhd 100) [.ref 61, .ref 43, .int n] (zsI zgG 43 0 m) (fun r h' => r = none ∧ h' = zsI zgG 43 0 (m + n)) := by
  show zSem l Γ false 9 zh100 _ _ _
  refine zbody (by decide +kernel) (show 3 ≤ 4 by decide) ?_
  refine zit_ok (ρ := Prop) (bad := False) (tr := fun P => P) (M := (zh100, zc100)) (sc := none) (G := zrun False false (fun _ => false) (zno False) 1000 8) (K := (fun r h' => r = none ∧ h' = zsI zgG 43 0 (m + n))) (stop := fun p => Nat.beq p 2) (S := fun cs ss pc lo st h => zX l Γ false 9 zh100 (zMQ' Γ false zh100 (fun r h' => r = none ∧ h' = zsI zgG 43 0 (m + n))) cs ss pc lo st h) (fun h => h) zckm100 (fun mi args h K' _ h1 => zrun_ok (ρ := Prop) (bad := False) (tr := fun P => P) (sp := fun _ => false) (S := zno False) (fun h => h) rfl (fun _ _ _ _ _ h => by cases h) 1000 8 mi args h K' h1) (fun args h K' h1 => False.elim (by rw [zrun_GL rfl] at h1; exact h1)) (fun _ h => by cases h) (fun _ _ _ _ h => h) (fun cs ss pc lo st h _ h1 => h1) 1000 0 0 0 _ [] _ ?_
  have h0 := Int32.le_iff_toInt_le.mp hn
  have e0 : (0 : Int32).toInt = 0 := by decide
  rw [e0] at h0
  exact zpassGX (n := n) (mf := m + n) (fun _ _ _ _ h => h) n.toInt.toNat (Int32.ofInt 0) m (by rw [show (Int32.ofInt 0).toInt = 0 from by decide]; omega) (by rw [show Int32.ofInt 0 = 0 from by decide]; grind)
