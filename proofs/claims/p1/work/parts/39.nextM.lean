set_option maxRecDepth 100000 in
set_option maxHeartbeats 4000000 in
theorem znsM1 {l : Launch} {Γ : zG} {QF : List Frame → Array Value → State → State → Prop} {K : Option Value → zH → Prop} {w k m v : Int32} (hQ : ∀ below args s t, MQ below (zQ Γ false K) args s (zh290 : zHd).2.2.2.2.1 (zh290 : zHd).2.2.2.2.2 (zA Γ) t → QF below args s t) (hk : ¬ 200 < k) (hX : ∀ v, zX l Γ false 10 zh290 QF 0 0 22 [(2, .int (k + 1)), (3, .int v), (0, .ref 0), (1, .int w)] [] (zsI (zsI (zgB 0 0 0 0 (-1)) 36 1 m) 36 1 (m + 1))) : zX l Γ false 10 zh290 QF 0 0 22 [(2, .int k), (0, .ref 0), (1, .int w)] [] (zsI (zgB 0 0 0 0 (-1)) 36 1 m) := by
  refine zpcF (M := (zh290, zc290)) (K := K) 265 22 rfl zckm290 hQ ?_
  refine zdecF ?_ (fun h0 => ?_)
  · exact zeLn hk (by first | with_reducible rfl | decide +kernel) (by first | with_reducible rfl | decide +kernel)
  exact hX _
set_option maxRecDepth 100000 in
set_option maxHeartbeats 4000000 in
theorem znsM2 {l : Launch} {Γ : zG} {QF : List Frame → Array Value → State → State → Prop} {K : Option Value → zH → Prop} {w k m v : Int32} (hQ : ∀ below args s t, MQ below (zQ Γ false K) args s (zh290 : zHd).2.2.2.2.1 (zh290 : zHd).2.2.2.2.2 (zA Γ) t → QF below args s t) (hk : ¬ 200 < k) (hX : ∀ v, zX l Γ false 10 zh290 QF 0 0 22 [(2, .int (k + 1)), (3, .int v), (0, .ref 0), (1, .int w)] [] (zsI (zsI (zgB 0 0 0 0 (-1)) 36 1 m) 36 1 (m + 1))) : zX l Γ false 10 zh290 QF 0 0 22 [(2, .int k), (3, .int v), (0, .ref 0), (1, .int w)] [] (zsI (zgB 0 0 0 0 (-1)) 36 1 m) := by
  refine zpcF (M := (zh290, zc290)) (K := K) 265 22 rfl zckm290 hQ ?_
  refine zdecF ?_ (fun h0 => ?_)
  · exact zeLn hk (by first | with_reducible rfl | decide +kernel) (by first | with_reducible rfl | decide +kernel)
  exact hX _
set_option maxRecDepth 100000 in
set_option maxHeartbeats 4000000 in
theorem znsMX {l : Launch} {Γ : zG} {QF : List Frame → Array Value → State → State → Prop} {w : Int32} (hQ : ∀ below args s t, MQ below (zQ Γ false (fun r f => r = some (.int (-2)) ∧ f.1 = zshM)) args s (zh290 : zHd).2.2.2.2.1 (zh290 : zHd).2.2.2.2.2 (zA Γ) t → QF below args s t) : ∀ (j : Nat) (k m v : Int32), 201 - k.toInt = j → zX l Γ false 10 zh290 QF 0 0 22 [(2, .int k), (3, .int v), (0, .ref 0), (1, .int w)] [] (zsI (zgB 0 0 0 0 (-1)) 36 1 m)
  | 0, k, m, v, hj => by
    have e : k = 201 := Int32.toInt_inj.mp (by rw [show (201 : Int32).toInt = 201 from by decide]; omega)
    subst e
    refine zpcF (M := (zh290, zc290)) (K := (fun r f => r = some (.int (-2)) ∧ f.1 = zshM)) 265 22 rfl zckm290 hQ ?_
    refine And.intro (zsvI (Eq.refl _) ?_) (by simp only [zsI_1, zgA_1, zgB_1])
    decide +kernel
  | j + 1, k, m, v, hj => by
    have hk : ¬ 200 < k := fun h => by
      have h' := Int32.lt_iff_toInt_lt.mp h
      rw [show (200 : Int32).toInt = 200 from by decide] at h'
      omega
    have hk2 : k < 201 := by grind
    refine znsM2 hQ hk (fun v => ?_)
    rw [zsI_sI]
    exact znsMX hQ j (k + 1) _ v (by rw [zi_succ hk2]; omega)
set_option maxRecDepth 100000 in
set_option maxHeartbeats 4000000 in
theorem zf_m25 (l : Launch) (Γ : zG) (x1 : Int32) : zSem l Γ false 10 (zhd 290) [.ref 0, .int x1] zhM (fun r f => r = some (.int (zF25 x1)) ∧ f.1 = zshM) := by
  show zSem l Γ false 10 zh290 _ _ _
  refine zbody (by decide +kernel) (show 2 ≤ 4 by decide) ?_
  refine zpcF (M := (zh290, zc290)) (K := (fun r f => r = some (.int (zF25 x1)) ∧ f.1 = zshM)) 264 22 rfl zckm290 (fun _ _ _ _ h => h) ?_
  refine zdec (fun h0 => ?_) (fun h0 => ?_)
  · have g0 : ¬ x1 < 0 := zeLn h0 (by first | with_reducible rfl | decide +kernel) (by first | with_reducible rfl | decide +kernel)
    refine zdec (fun h1 => ?_) (fun h1 => ?_)
    · have g1 : ¬ 1 < x1 := zeLn h1 (by first | with_reducible rfl | decide +kernel) (by first | with_reducible rfl | decide +kernel)
      have ef : zF25 x1 = -2 := by unfold zF25 ; clear h0 h1 ; grind
      rw [ef]
      show zSem l Γ false 9 (zhd 264) [.ref 0] _ _
      refine zSem.congr (g := zhM) (by decide +kernel) (zSem.mono (zlay l Γ) ?_)
      rintro r h' ⟨rfl, rfl⟩
      show zX l Γ false 10 zh290 _ 0 0 22 [(2, .int (Int32.ofInt 1)), (0, .ref 0), (1, .int x1)] [] _
      refine zX_congr (g := zsI (zgB 0 0 0 0 (-1)) 36 1 0) (by decide +kernel) ?_
      refine znsM1 (v := 0) (fun _ _ _ _ h => h) (by decide) (fun v => ?_)
      rw [zsI_sI]
      exact znsMX (fun _ _ _ _ h => h) 199 _ _ v (by decide)
    · have g1 : 1 < x1 := zeL h1 (by first | with_reducible rfl | decide +kernel) (by first | with_reducible rfl | decide +kernel)
      have ef : zF25 x1 = -1 := by unfold zF25 ; clear h0 h1 ; grind
      rw [ef]
      refine And.intro (zsvI (Eq.refl _) ?_) rfl
      decide +kernel
  · have g0 : x1 < 0 := zeL h0 (by first | with_reducible rfl | decide +kernel) (by first | with_reducible rfl | decide +kernel)
    have ef : zF25 x1 = -1 := by unfold zF25 ; clear h0 ; grind
    rw [ef]
    refine And.intro (zsvI (Eq.refl _) ?_) rfl
    decide +kernel
