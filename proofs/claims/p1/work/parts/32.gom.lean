def zgM : zH := zsI zhM 0 66 1
set_option maxRecDepth 100000 in
set_option maxHeartbeats 400000 in
theorem zgoM {l : Launch} {Γ : zG} {QF : List Frame → Array Value → State → State → Prop} {K : Option Value → zH → Prop} {n k m : Int32} (hQ : ∀ below args s t, MQ below (zQ Γ false K) args s (zh253 : zHd).2.2.2.2.1 (zh253 : zHd).2.2.2.2.2 (zA Γ) t → QF below args s t) (hk : k < n) (hX : zX l Γ false 10 zh253 QF 0 0 43 [(2, .int (k + 1)), (0, .ref 0), (1, .int n)] [] (zsI (zsI zgM 36 0 m) 36 0 (m + 1))) : zX l Γ false 10 zh253 QF 0 0 43 [(2, .int k), (0, .ref 0), (1, .int n)] [] (zsI zgM 36 0 m) := by
  refine zit_ok (ρ := Prop) (bad := False) (tr := fun P => P) (M := (zh253, zc253)) (sc := none) (G := zrun False false (fun _ => false) (zno False) 1000 9) (K := K) (stop := fun p => Nat.beq p 43) (S := fun cs ss pc lo st h => zX l Γ false 10 zh253 QF cs ss pc lo st h) (fun h => h) zckm253 (fun mi args h K' _ h1 => zrun_ok (ρ := Prop) (bad := False) (tr := fun P => P) (sp := fun _ => false) (S := zno False) (fun h => h) rfl (fun _ _ _ _ _ h => by cases h) 1000 9 mi args h K' h1) (fun args h K' h1 => False.elim (by rw [zrun_GL rfl] at h1; exact h1)) (fun _ h => by cases h) hQ (fun cs ss pc lo st h _ h1 => h1) 1000 0 0 43 _ [] _ ?_
  refine zdecF ?_ (fun h0 => ?_)
  · exact Int32.not_le.mpr hk
  exact hX
