set_option maxRecDepth 100000 in
set_option maxHeartbeats 40000 in
theorem zf_m8 (l : Launch) (Γ : zG) (x1 : Int32) : zSem l Γ false 10 (zhd 246) [.ref 0, .int x1] zhM (fun r f => r = some (.int (-1)) ∧ f.1 = zshM) := by
  refine zr1 ?_
  refine zdec (fun h0 => ?_) (fun h0 => ?_)
  · have hh : ∀ h1 : ¬(zsI zhM 0 2 (Int32.ofInt 0)).snd.fst 0 13 ≤ x1, False := fun h1 => zdL h0 (Int32.not_le.mp h1) rfl (by decide +kernel)
    refine zdec (fun h1 => ?_) (fun h1 => ?_)
    · exfalso
      fail "a"
    · sorry
  · sorry
