set_option maxRecDepth 100000 in
set_option maxHeartbeats 400000 in
theorem zgoMX {l : Launch} {Γ : zG} {QF : List Frame → Array Value → State → State → Prop} {n mf : Int32} (hQ : ∀ below args s t, MQ below (zQ Γ false (fun r f => r = some (.int mf) ∧ f.1 = zshM)) args s (zh253 : zHd).2.2.2.2.1 (zh253 : zHd).2.2.2.2.2 (zA Γ) t → QF below args s t) : ∀ (j : Nat) (k m : Int32), n.toInt - k.toInt = j → m + (n - k) = mf → zX l Γ false 10 zh253 QF 0 0 43 [(2, .int k), (0, .ref 0), (1, .int n)] [] (zsI zgM 36 0 m)
  | 0, k, m, hj, hm => by
    have e : k = n := Int32.toInt_inj.mp (by omega)
    have e2 : m = mf := by rw [← hm, e]; grind
    subst e
    subst e2
    refine zit_ok (ρ := Prop) (bad := False) (tr := fun P => P) (M := (zh253, zc253)) (sc := none) (G := zrun False false (fun _ => false) (zno False) 1000 9) (K := (fun r f => r = some (.int m) ∧ f.1 = zshM)) (stop := fun p => Nat.beq p 43) (S := fun cs ss pc lo st h => zX l Γ false 10 zh253 QF cs ss pc lo st h) (fun h => h) zckm253 (fun mi args h K' _ h1 => zrun_ok (ρ := Prop) (bad := False) (tr := fun P => P) (sp := fun _ => false) (S := zno False) (fun h => h) rfl (fun _ _ _ _ _ h => by cases h) 1000 9 mi args h K' h1) (fun args h K' h1 => False.elim (by rw [zrun_GL rfl] at h1; exact h1)) (fun _ h => by cases h) hQ (fun cs ss pc lo st h _ h1 => h1) 1000 0 0 43 _ [] _ ?_
    refine zdecT ?_ (fun h0 => ?_)
    · exact Int32.le_refl _
    refine zdec (fun h1 => ?_) (fun h1 => ?_)
    · exact And.intro rfl rfl
    · exact And.intro rfl rfl
  | j + 1, k, m, hj, hm => by
    have hk : k < n := Int32.lt_iff_toInt_lt.mpr (by omega)
    refine zgoM hQ hk ?_
    rw [zsI_sI]
    exact zgoMX hQ j (k + 1) (m + 1) (by rw [zi_succ hk]; omega) (by rw [zi_mv]; exact hm)
