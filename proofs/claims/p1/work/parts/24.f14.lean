set_option maxRecDepth 100000 in
set_option maxHeartbeats 4000000 in
theorem zf_c14 (l : Launch) (Γ : zG) (x1 : Int32) (x2 : Int32) : zSem l Γ false 10 (zhd 119) [.ref 0, .int x1, .int x2] zhC (fun r f => r = some (.int (-1)) ∧ f.1 = zshC) := by
  refine zr1 ?_
  refine zdec (fun h0 => ?_) (fun h0 => ?_)
  · refine zdecF ?_ (fun h1 => ?_)
    · exact zeLn h0 (by first | with_reducible rfl | decide +kernel) (by first | with_reducible rfl | decide +kernel)
    refine And.intro (zsvI (Eq.refl _) ?_) rfl ; decide +kernel
  · refine And.intro (zsvI (Eq.refl _) ?_) rfl ; decide +kernel
set_option maxRecDepth 100000 in
set_option maxHeartbeats 4000000 in
theorem zf_m14 (l : Launch) (Γ : zG) (x1 : Int32) (x2 : Int32) : zSem l Γ false 10 (zhd 269) [.ref 0, .int x1, .int x2] zhM (fun r f => r = some (.int (-1)) ∧ f.1 = zshM) := by
  refine zr1 ?_
  refine zdec (fun h0 => ?_) (fun h0 => ?_)
  · refine zdecT ?_ (fun h1 => ?_)
    · exact zeM (Int32.not_lt.mp h0) (by first | with_reducible rfl | decide +kernel) (by first | with_reducible rfl | decide +kernel)
    refine And.intro (zsvI (Eq.refl _) ?_) rfl ; decide +kernel
  · refine And.intro (zsvI (Eq.refl _) ?_) rfl ; decide +kernel
