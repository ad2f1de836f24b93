def zF29 (x1 : Int32) : Int32 := if x1 < 1 then (-1) else if x1 ≤ 9 then 0 else (-1)
set_option maxRecDepth 100000 in
set_option maxHeartbeats 4000000 in
theorem zf_c29 (l : Launch) (Γ : zG) (x1 : Int32) : zSem l Γ false 10 (zhd 155) [.ref 0, .int x1] zhC (fun r f => r = some (.int (zF29 x1)) ∧ f.1 = zshC) := by
  refine zr1 ?_
  refine zdec (fun h0 => ?_) (fun h0 => ?_)
  · refine zdec (fun h1 => ?_) (fun h1 => ?_)
    · (have g0 : ¬ x1 < 1 := (zeLn h0 (by first | with_reducible rfl | decide +kernel) (by first | with_reducible rfl | decide +kernel)) ; have g1 : ¬ x1 ≤ 9 := (zeMn h1 (by first | with_reducible rfl | decide +kernel) (by first | with_reducible rfl | decide +kernel)) ; refine And.intro (zsvI (Eq.refl _) ?_) rfl ; rw [zF29, if_neg g0, if_neg g1] ; decide +kernel)
    · (have g0 : ¬ x1 < 1 := (zeLn h0 (by first | with_reducible rfl | decide +kernel) (by first | with_reducible rfl | decide +kernel)) ; have g1 : x1 ≤ 9 := (zeM h1 (by first | with_reducible rfl | decide +kernel) (by first | with_reducible rfl | decide +kernel)) ; refine And.intro (zsvI (Eq.refl _) ?_) rfl ; rw [zF29, if_neg g0, if_pos g1] ; decide +kernel)
  · (have g0 : x1 < 1 := (zeL h0 (by first | with_reducible rfl | decide +kernel) (by first | with_reducible rfl | decide +kernel)) ; refine And.intro (zsvI (Eq.refl _) ?_) rfl ; rw [zF29, if_pos g0] ; decide +kernel)
set_option maxRecDepth 100000 in
set_option maxHeartbeats 4000000 in
theorem zf_m29 (l : Launch) (Γ : zG) (x1 : Int32) : zSem l Γ false 10 (zhd 294) [.ref 0, .int x1] zhM (fun r f => r = some (.int (zF29 x1)) ∧ f.1 = zshM) := by
  refine zr1 ?_
  refine zdec (fun h0 => ?_) (fun h0 => ?_)
  · refine zdec (fun h1 => ?_) (fun h1 => ?_)
    · (have g0 : ¬ x1 < 1 := (zeLn h0 (by first | with_reducible rfl | decide +kernel) (by first | with_reducible rfl | decide +kernel)) ; have g1 : x1 ≤ 9 := (Int32.not_lt.mp (zeLn h1 (by first | with_reducible rfl | decide +kernel) (by first | with_reducible rfl | decide +kernel))) ; refine And.intro (zsvI (Eq.refl _) ?_) rfl ; rw [zF29, if_neg g0, if_pos g1] ; decide +kernel)
    · (have g0 : ¬ x1 < 1 := (zeLn h0 (by first | with_reducible rfl | decide +kernel) (by first | with_reducible rfl | decide +kernel)) ; have g1 : ¬ x1 ≤ 9 := (Int32.not_le.mpr (zeL h1 (by first | with_reducible rfl | decide +kernel) (by first | with_reducible rfl | decide +kernel))) ; refine And.intro (zsvI (Eq.refl _) ?_) rfl ; rw [zF29, if_neg g0, if_neg g1] ; decide +kernel)
  · (have g0 : x1 < 1 := (zeL h0 (by first | with_reducible rfl | decide +kernel) (by first | with_reducible rfl | decide +kernel)) ; refine And.intro (zsvI (Eq.refl _) ?_) rfl ; rw [zF29, if_pos g0] ; decide +kernel)
