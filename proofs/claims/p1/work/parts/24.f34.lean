def zF34 (x1 : Int32) : Int32 := if x1 < (-1) then 0 else if x1 ≤ 0 then 1 else 0
set_option maxRecDepth 100000 in
set_option maxHeartbeats 4000000 in
theorem zf_c34 (l : Launch) (Γ : zG) (x1 : Int32) : zSem l Γ false 10 (zhd 162) [.ref 0, .int x1] zhC (fun r f => r = some (.int (zF34 x1)) ∧ f.1 = zshC) := by
  refine zr1 ?_
  refine zdec (fun h0 => ?_) (fun h0 => ?_)
  · refine zdec (fun h1 => ?_) (fun h1 => ?_)
    · (have g0 : ¬ x1 < (-1) := (zeLn h0 (by first | with_reducible rfl | decide +kernel) (by first | with_reducible rfl | decide +kernel)) ; have g1 : ¬ x1 ≤ 0 := (zeMn h1 (by first | with_reducible rfl | decide +kernel) (by first | with_reducible rfl | decide +kernel)) ; refine And.intro (zsvI (Eq.refl _) ?_) rfl ; rw [zF34, if_neg g0, if_neg g1] ; decide +kernel)
    · (have g0 : ¬ x1 < (-1) := (zeLn h0 (by first | with_reducible rfl | decide +kernel) (by first | with_reducible rfl | decide +kernel)) ; have g1 : x1 ≤ 0 := (zeM h1 (by first | with_reducible rfl | decide +kernel) (by first | with_reducible rfl | decide +kernel)) ; refine And.intro (zsvI (Eq.refl _) ?_) rfl ; rw [zF34, if_neg g0, if_pos g1] ; decide +kernel)
  · (have g0 : x1 < (-1) := (zeL h0 (by first | with_reducible rfl | decide +kernel) (by first | with_reducible rfl | decide +kernel)) ; refine And.intro (zsvI (Eq.refl _) ?_) rfl ; rw [zF34, if_pos g0] ; decide +kernel)
set_option maxRecDepth 100000 in
set_option maxHeartbeats 4000000 in
theorem zf_m34 (l : Launch) (Γ : zG) (x1 : Int32) : zSem l Γ false 10 (zhd 299) [.ref 0, .int x1] zhM (fun r f => r = some (.int (zF34 x1)) ∧ f.1 = zshM) := by
  refine zr1 ?_
  refine zdec (fun h0 => ?_) (fun h0 => ?_)
  · refine zdec (fun h1 => ?_) (fun h1 => ?_)
    · (have g0 : ¬ x1 < (-1) := (zeLn h0 (by first | with_reducible rfl | decide +kernel) (by first | with_reducible rfl | decide +kernel)) ; have g1 : x1 ≤ 0 := (Int32.not_lt.mp (zeLn h1 (by first | with_reducible rfl | decide +kernel) (by first | with_reducible rfl | decide +kernel))) ; refine And.intro (zsvI (Eq.refl _) ?_) rfl ; rw [zF34, if_neg g0, if_pos g1] ; decide +kernel)
    · (have g0 : ¬ x1 < (-1) := (zeLn h0 (by first | with_reducible rfl | decide +kernel) (by first | with_reducible rfl | decide +kernel)) ; have g1 : ¬ x1 ≤ 0 := (Int32.not_le.mpr (zeL h1 (by first | with_reducible rfl | decide +kernel) (by first | with_reducible rfl | decide +kernel))) ; refine And.intro (zsvI (Eq.refl _) ?_) rfl ; rw [zF34, if_neg g0, if_neg g1] ; decide +kernel)
  · (have g0 : x1 < (-1) := (zeL h0 (by first | with_reducible rfl | decide +kernel) (by first | with_reducible rfl | decide +kernel)) ; refine And.intro (zsvI (Eq.refl _) ?_) rfl ; rw [zF34, if_pos g0] ; decide +kernel)
