def zgA (lf un : Int32) : zH := zsI (zsI (zsP zhC 61 0 (some 9)) 61 2 lf) 61 3 un
set_option maxRecDepth 100000 in
set_option maxHeartbeats 4000000 in
theorem zpassA {l : Launch} {Γ : zG} {QF : List Frame → Array Value → State → State → Prop} {K : Option Value → zH → Prop} {lf un : Int32} {n k m : Int32} (hQ : ∀ below args s t, MQ below (zQ Γ false K) args s (zh100 : zHd).2.2.2.2.1 (zh100 : zHd).2.2.2.2.2 (zA Γ) t → QF below args s t) (hk : k < n) (hX : zX l Γ false 9 zh100 QF 0 0 2 [(3, .int (k + 1)), (0, .ref 61), (1, .ref 55), (2, .int n)] [] (zsI (zsI (zgA lf un) 55 0 m) 55 0 (m + 1))) : zX l Γ false 9 zh100 QF 0 0 2 [(3, .int k), (0, .ref 61), (1, .ref 55), (2, .int n)] [] (zsI (zgA lf un) 55 0 m) := by
  refine zit_ok (ρ := Prop) (bad := False) (tr := fun P => P) (M := (zh100, zc100)) (sc := none) (G := zrun False false (fun _ => false) (zno False) 1000 8) (K := K) (stop := fun p => Nat.beq p 2) (S := fun cs ss pc lo st h => zX l Γ false 9 zh100 (QF) cs ss pc lo st h) (fun h => h) zckm100 (fun mi args h K' _ h1 => zrun_ok (ρ := Prop) (bad := False) (tr := fun P => P) (sp := fun _ => false) (S := zno False) (fun h => h) rfl (fun _ _ _ _ _ h => by cases h) 1000 8 mi args h K' h1) (fun args h K' h1 => False.elim (by rw [zrun_GL rfl] at h1; exact h1)) (fun _ h => by cases h) hQ (fun cs ss pc lo st h _ h1 => h1) 1000 0 0 2 _ [] _ ?_
  refine zdecF ?_ (fun h0 => ?_)
  · exact Int32.not_le.mpr hk
  refine zdec (fun h1 => ?_) (fun h1 => ?_)
  · refine zdec (fun h2 => ?_) (fun h2 => ?_)
    · refine zdec (fun h3 => ?_) (fun h3 => ?_)
      · refine zdec (fun h4 => ?_) (fun h4 => ?_)
        · exact hX
        · exact hX
      · exact hX
    · refine zdec (fun h3 => ?_) (fun h3 => ?_)
      · refine zdec (fun h4 => ?_) (fun h4 => ?_)
        · exact hX
        · exact hX
      · exact hX
  · refine zdec (fun h2 => ?_) (fun h2 => ?_)
    · refine zdec (fun h3 => ?_) (fun h3 => ?_)
      · refine zdec (fun h4 => ?_) (fun h4 => ?_)
        · exact hX
        · exact hX
      · exact hX
    · refine zdec (fun h3 => ?_) (fun h3 => ?_)
      · refine zdec (fun h4 => ?_) (fun h4 => ?_)
        · exact hX
        · exact hX
      · exact hX
set_option maxRecDepth 100000 in
set_option maxHeartbeats 4000000 in
theorem zpassAX {l : Launch} {Γ : zG} {QF : List Frame → Array Value → State → State → Prop} {lf un : Int32} {n mf : Int32} (hQ : ∀ below args s t, MQ below (zQ Γ false (fun r h' => r = none ∧ h' = zsI (zgA lf un) 55 0 mf)) args s (zh100 : zHd).2.2.2.2.1 (zh100 : zHd).2.2.2.2.2 (zA Γ) t → QF below args s t) : ∀ (j : Nat) (k m : Int32), n.toInt - k.toInt = j → m + (n - k) = mf → zX l Γ false 9 zh100 QF 0 0 2 [(3, .int k), (0, .ref 61), (1, .ref 55), (2, .int n)] [] (zsI (zgA lf un) 55 0 m)
  | 0, k, m, hj, hm => by
    have e : k = n := Int32.toInt_inj.mp (by omega)
    have e2 : m = mf := by rw [← hm, e]; grind
    subst e
    subst e2
    refine zit_ok (ρ := Prop) (bad := False) (tr := fun P => P) (M := (zh100, zc100)) (sc := none) (G := zrun False false (fun _ => false) (zno False) 1000 8) (K := (fun r h' => r = none ∧ h' = zsI (zgA lf un) 55 0 m)) (stop := fun p => Nat.beq p 2) (S := fun cs ss pc lo st h => zX l Γ false 9 zh100 (QF) cs ss pc lo st h) (fun h => h) zckm100 (fun mi args h K' _ h1 => zrun_ok (ρ := Prop) (bad := False) (tr := fun P => P) (sp := fun _ => false) (S := zno False) (fun h => h) rfl (fun _ _ _ _ _ h => by cases h) 1000 8 mi args h K' h1) (fun args h K' h1 => False.elim (by rw [zrun_GL rfl] at h1; exact h1)) (fun _ h => by cases h) hQ (fun cs ss pc lo st h _ h1 => h1) 1000 0 0 2 _ [] _ ?_
    refine zdecT ?_ (fun h0 => ?_)
    · exact Int32.le_refl _
    exact And.intro rfl rfl
  | j + 1, k, m, hj, hm => by
    have hk : k < n := Int32.lt_iff_toInt_lt.mpr (by omega)
    refine zpassA hQ hk ?_
    rw [zsI_sI]
    exact zpassAX hQ j (k + 1) (m + 1) (by rw [zi_succ hk]; omega) (by rw [zi_mv]; exact hm)
set_option maxRecDepth 100000 in
set_option maxHeartbeats 4000000 in
theorem zpassAS (l : Launch) (Γ : zG) (lf un : Int32) (n m : Int32) (hn : 0 ≤ n) : zSem l Γ false 9 (zhd 100) [.ref 61, .ref 55, .int n] (zsI (zgA lf un) 55 0 m) (fun r h' => r = none ∧ h' = zsI (zgA lf un) 55 0 (m + n)) := by
  show zSem l Γ false 9 zh100 _ _ _
  refine zbody (by decide +kernel) (show 3 ≤ 4 by decide) ?_
  refine zit_ok (ρ := Prop) (bad := False) (tr := fun P => P) (M := (zh100, zc100)) (sc := none) (G := zrun False false (fun _ => false) (zno False) 1000 8) (K := (fun r h' => r = none ∧ h' = zsI (zgA lf un) 55 0 (m + n))) (stop := fun p => Nat.beq p 2) (S := fun cs ss pc lo st h => zX l Γ false 9 zh100 (zMQ' Γ false zh100 (fun r h' => r = none ∧ h' = zsI (zgA lf un) 55 0 (m + n))) cs ss pc lo st h) (fun h => h) zckm100 (fun mi args h K' _ h1 => zrun_ok (ρ := Prop) (bad := False) (tr := fun P => P) (sp := fun _ => false) (S := zno False) (fun h => h) rfl (fun _ _ _ _ _ h => by cases h) 1000 8 mi args h K' h1) (fun args h K' h1 => False.elim (by rw [zrun_GL rfl] at h1; exact h1)) (fun _ h => by cases h) (fun _ _ _ _ h => h) (fun cs ss pc lo st h _ h1 => h1) 1000 0 0 0 _ [] _ ?_
  have h0 := Int32.le_iff_toInt_le.mp hn
  have e0 : (0 : Int32).toInt = 0 := by decide
  rw [e0] at h0
  exact zpassAX (n := n) (mf := m + n) (fun _ _ _ _ h => h) n.toInt.toNat (Int32.ofInt 0) m (by rw [show (Int32.ofInt 0).toInt = 0 from by decide]; omega) (by rw [show Int32.ofInt 0 = 0 from by decide]; grind)
