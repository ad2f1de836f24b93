set_option maxRecDepth 100000 in
set_option maxHeartbeats 4000000 in
theorem znsC1 {l : Launch} {Γ : zG} {QF : List Frame → Array Value → State → State → Prop} {K : Option Value → zH → Prop} {w k m v : Int32} (hQ : ∀ below args s t, MQ below (zQ Γ false K) args s (zh150 : zHd).2.2.2.2.1 (zh150 : zHd).2.2.2.2.2 (zA Γ) t → QF below args s t) (hk : ¬ 200 < k) (hX : ∀ v, zX l Γ false 10 zh150 QF 0 0 25 [(3, .int (k + 1)), (4, .int v), (2, .int (Int32.ofInt 0)), (0, .ref 0), (1, .int w)] [] (zsI (zgA (-1) (-1)) 55 0 (m + Int32.ofInt 1))) : zX l Γ false 10 zh150 QF 0 0 25 [(3, .int k), (2, .int (Int32.ofInt 0)), (0, .ref 0), (1, .int w)] [] (zsI (zgA (-1) (-1)) 55 0 m) := by
  refine zpcF (M := (zh150, zc150)) (K := K) 100 25 rfl zckm150 hQ ?_
  refine zdecF ?_ (fun h0 => ?_)
  · exact zeLn hk (by first | with_reducible rfl | decide +kernel) (by first | with_reducible rfl | decide +kernel)
  show zSem l Γ false 9 (zhd 100) [.ref 61, .ref 55, .int (Int32.ofInt 1)] _ _
  refine zSem.mono (zpassAS l Γ (-1) (-1) (Int32.ofInt 1) m (by decide)) ?_
  rintro r h' ⟨rfl, rfl⟩
  exact hX _
set_option maxRecDepth 100000 in
set_option maxHeartbeats 4000000 in
theorem znsC2 {l : Launch} {Γ : zG} {QF : List Frame → Array Value → State → State → Prop} {K : Option Value → zH → Prop} {w k m v : Int32} (hQ : ∀ below args s t, MQ below (zQ Γ false K) args s (zh150 : zHd).2.2.2.2.1 (zh150 : zHd).2.2.2.2.2 (zA Γ) t → QF below args s t) (hk : ¬ 200 < k) (hX : ∀ v, zX l Γ false 10 zh150 QF 0 0 25 [(3, .int (k + 1)), (4, .int v), (2, .int (Int32.ofInt 0)), (0, .ref 0), (1, .int w)] [] (zsI (zgA (-1) (-1)) 55 0 (m + Int32.ofInt 1))) : zX l Γ false 10 zh150 QF 0 0 25 [(3, .int k), (4, .int v), (2, .int (Int32.ofInt 0)), (0, .ref 0), (1, .int w)] [] (zsI (zgA (-1) (-1)) 55 0 m) := by
  refine zpcF (M := (zh150, zc150)) (K := K) 100 25 rfl zckm150 hQ ?_
  refine zdecF ?_ (fun h0 => ?_)
  · exact zeLn hk (by first | with_reducible rfl | decide +kernel) (by first | with_reducible rfl | decide +kernel)
  show zSem l Γ false 9 (zhd 100) [.ref 61, .ref 55, .int (Int32.ofInt 1)] _ _
  refine zSem.mono (zpassAS l Γ (-1) (-1) (Int32.ofInt 1) m (by decide)) ?_
  rintro r h' ⟨rfl, rfl⟩
  exact hX _
set_option maxRecDepth 100000 in
set_option maxHeartbeats 4000000 in
theorem znsCX {l : Launch} {Γ : zG} {QF : List Frame → Array Value → State → State → Prop} {w : Int32} (hQ : ∀ below args s t, MQ below (zQ Γ false (fun r f => r = some (.int (-2)) ∧ f.1 = zshC)) args s (zh150 : zHd).2.2.2.2.1 (zh150 : zHd).2.2.2.2.2 (zA Γ) t → QF below args s t) : ∀ (j : Nat) (k m v : Int32), 201 - k.toInt = j → zX l Γ false 10 zh150 QF 0 0 25 [(3, .int k), (4, .int v), (2, .int (Int32.ofInt 0)), (0, .ref 0), (1, .int w)] [] (zsI (zgA (-1) (-1)) 55 0 m)
  | 0, k, m, v, hj => by
    have e : k = 201 := Int32.toInt_inj.mp (by rw [show (201 : Int32).toInt = 201 from by decide]; omega)
    subst e
    refine zpcF (M := (zh150, zc150)) (K := (fun r f => r = some (.int (-2)) ∧ f.1 = zshC)) 100 25 rfl zckm150 hQ ?_
    refine And.intro (zsvI (Eq.refl _) ?_) (by simp only [zsI_1, zgA_1, zgB_1])
    decide +kernel
  | j + 1, k, m, v, hj => by
    have hk : ¬ 200 < k := fun h => by
      have h' := Int32.lt_iff_toInt_lt.mp h
      rw [show (200 : Int32).toInt = 200 from by decide] at h'
      omega
    have hk2 : k < 201 := by grind
    refine znsC2 hQ hk (fun v => ?_)
    exact znsCX hQ j (k + 1) _ v (by rw [zi_succ hk2]; omega)
set_option maxRecDepth 100000 in
set_option maxHeartbeats 4000000 in
theorem zf_c25 (l : Launch) (Γ : zG) (x1 : Int32) : zSem l Γ false 10 (zhd 150) [.ref 0, .int x1] zhC (fun r f => r = some (.int (zF25 x1)) ∧ f.1 = zshC) := by
  show zSem l Γ false 10 zh150 _ _ _
  refine zbody (by decide +kernel) (show 2 ≤ 5 by decide) ?_
  refine zpcF (M := (zh150, zc150)) (K := (fun r f => r = some (.int (zF25 x1)) ∧ f.1 = zshC)) 100 25 rfl zckm150 (fun _ _ _ _ h => h) ?_
  refine zdec (fun h0 => ?_) (fun h0 => ?_)
  · have g0 : ¬ x1 < 0 := zeLn h0 (by first | with_reducible rfl | decide +kernel) (by first | with_reducible rfl | decide +kernel)
    refine zdec (fun h1 => ?_) (fun h1 => ?_)
    · have g1 : ¬ x1 ≤ 1 := zeMn h1 (by first | with_reducible rfl | decide +kernel) (by first | with_reducible rfl | decide +kernel)
      have ef : zF25 x1 = -1 := by unfold zF25 ; clear h0 h1 ; grind
      rw [ef]
      refine And.intro (zsvI (Eq.refl _) ?_) rfl
      decide +kernel
    · have g1 : x1 ≤ 1 := zeM h1 (by first | with_reducible rfl | decide +kernel) (by first | with_reducible rfl | decide +kernel)
      have ef : zF25 x1 = -2 := by unfold zF25 ; clear h0 h1 ; grind
      rw [ef]
      show zX l Γ false 10 zh150 _ 0 0 25 [(3, .int (Int32.ofInt 1)), (2, .int (Int32.ofInt 0)), (0, .ref 0), (1, .int x1)] [] _
      refine zX_congr (g := zsI (zgA (-1) (-1)) 55 0 0) (by decide +kernel) ?_
      refine znsC1 (v := 0) (fun _ _ _ _ h => h) (by decide) (fun v => ?_)
      exact znsCX (fun _ _ _ _ h => h) 199 _ _ v (by decide)
  · have g0 : x1 < 0 := zeL h0 (by first | with_reducible rfl | decide +kernel) (by first | with_reducible rfl | decide +kernel)
    have ef : zF25 x1 = -1 := by unfold zF25 ; clear h0 ; grind
    rw [ef]
    refine And.intro (zsvI (Eq.refl _) ?_) rfl
    decide +kernel
