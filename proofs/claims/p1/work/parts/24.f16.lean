set_option maxRecDepth 100000 in
set_option maxHeartbeats 4000000 in
theorem zf_c16 (l : Launch) (Γ : zG) : zSem l Γ false 10 (zhd 126) [.ref 0] zhC (fun r f => r = some (.int 0) ∧ f.1 = zshC) := by
  refine zr1 ?_
  refine And.intro (zsvI (Eq.refl _) ?_) rfl ; decide +kernel
set_option maxRecDepth 100000 in
set_option maxHeartbeats 4000000 in
theorem zf_m16 (l : Launch) (Γ : zG) : zSem l Γ false 10 (zhd 274) [.ref 0] zhM (fun r f => r = some (.int 0) ∧ f.1 = zshM) := by
  refine zr1 ?_
  refine And.intro (zsvI (Eq.refl _) ?_) rfl ; decide +kernel
