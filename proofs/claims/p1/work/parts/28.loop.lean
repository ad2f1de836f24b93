theorem zi_succ {k n : Int32} (h : k < n) : (k + 1).toInt = k.toInt + 1 := by
  have h1 := Int32.lt_iff_toInt_lt.mp h
  have h2 := Int32.toInt_lt n
  have h3 := Int32.le_toInt k
  rw [Int32.toInt_add, show (1 : Int32).toInt = 1 from by decide]
  rw [Int.bmod_eq_of_le] <;> omega
theorem zi_mv (m n k : Int32) : m + 1 + (n - (k + 1)) = m + (n - k) := by
  grind
set_option maxRecDepth 100000 in
set_option maxHeartbeats 4000000 in
theorem zpassGX {l : Launch} {Γ : zG} {QF : List Frame → Array Value → State → State → Prop} {n mf : Int32} (hQ : ∀ below args s t, MQ below (zQ Γ false (fun r h' => r = none ∧ h' = zsI zgG 43 0 mf)) args s (zh100 : zHd).2.2.2.2.1 (zh100 : zHd).2.2.2.2.2 (zA Γ) t → QF below args s t) : ∀ (j : Nat) (k m : Int32), n.toInt - k.toInt = j → m + (n - k) = mf → zX l Γ false 9 zh100 QF 0 0 2 [(3, .int k), (0, .ref 61), (1, .ref 43), (2, .int n)] [] (zsI zgG 43 0 m)
  | 0, k, m, hj, hm => by
    have e : k = n := Int32.toInt_inj.mp (by omega)
    have e2 : m = mf := by rw [← hm, e]; grind
    subst e
    subst e2
    refine zit_ok (ρ := Prop) (bad := False) (tr := fun P => P) (M := (zh100, zc100)) (sc := none) (G := zrun False false (fun _ => false) (zno False) 1000 8) (K := (fun r h' => r = none ∧ h' = zsI zgG 43 0 m)) (stop := fun p => Nat.beq p 2) (S := fun cs ss pc lo st h => zX l Γ false 9 zh100 QF cs ss pc lo st h) (fun h => h) zckm100 (fun mi args h K' _ h1 => zrun_ok (ρ := Prop) (bad := False) (tr := fun P => P) (sp := fun _ => false) (S := zno False) (fun h => h) rfl (fun _ _ _ _ _ h => by cases h) 1000 8 mi args h K' h1) (fun args h K' h1 => False.elim (by rw [zrun_GL rfl] at h1; exact h1)) (fun _ h => by cases h) hQ (fun cs ss pc lo st h _ h1 => h1) 1000 0 0 2 _ [] _ ?_
    refine zdecT ?_ (fun h0 => ?_)
    · exact Int32.le_refl _
    exact And.intro rfl rfl
  | j + 1, k, m, hj, hm => by
    have hk : k < n := Int32.lt_iff_toInt_lt.mpr (by omega)
    refine zpassG (d := 0) hQ hk ?_
    rw [zsI_sI]
    exact zpassGX hQ j (k + 1) (m + 1) (by rw [zi_succ hk]; omega) (by rw [zi_mv]; exact hm)
