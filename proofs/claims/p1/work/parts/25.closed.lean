theorem zf_c39 (l : Launch) (Γ : zG) : zSem l Γ false 10 (zhd 173) [.ref 0] zhC (fun r f => r = some (.int 0) ∧ f.1 = zshC) := zrB (by decide +kernel)
theorem zf_m39 (l : Launch) (Γ : zG) : zSem l Γ false 10 (zhd 309) [.ref 0] zhM (fun r f => r = some (.int 0) ∧ f.1 = zshM) := zrB (by decide +kernel)
set_option maxRecDepth 100000 in
set_option maxHeartbeats 4000000 in
theorem zf_c7 (l : Launch) (Γ : zG) (x1 : Int32) (x2 : Int32) : zSem l Γ false 10 (zhd 83) [.ref 0, .int x1, .int x2] zhC (fun r f => r = some (.long (-9223372036854775808)) ∧ f.1 = zshC) := by
  refine zr1 ?_
  refine zdec (fun h0 => ?_) (fun h0 => ?_)
  · refine zdec (fun h1 => ?_) (fun h1 => ?_)
    · refine And.intro (zsvJ (Eq.refl _) ?_) rfl ; decide +kernel
    · refine zdec (fun h2 => ?_) (fun h2 => ?_)
      · refine zdec (fun h3 => ?_) (fun h3 => ?_)
        · refine zdecF ?_ (fun h4 => ?_)
          · exact zeLn h2 (by first | with_reducible rfl | decide +kernel) (by first | with_reducible rfl | decide +kernel)
          refine And.intro (zsvJ (Eq.refl _) ?_) rfl ; decide +kernel
        · refine And.intro (zsvJ (Eq.refl _) ?_) rfl ; decide +kernel
      · refine And.intro (zsvJ (Eq.refl _) ?_) rfl ; decide +kernel
  · refine And.intro (zsvJ (Eq.refl _) ?_) rfl ; decide +kernel
set_option maxRecDepth 100000 in
set_option maxHeartbeats 4000000 in
theorem zf_m7_0 (l : Launch) (Γ : zG) (x2 : Int32) : zSem l Γ false 10 (zhd 238) [.ref 0, .int 0, .int x2] zhM (fun r f => r = some (.long (-9223372036854775808)) ∧ f.1 = zshM) := by
  refine zr1 ?_
  refine And.intro (zsvJ (Eq.refl _) ?_) rfl ; decide +kernel
set_option maxRecDepth 100000 in
set_option maxHeartbeats 4000000 in
theorem zf_m7_1 (l : Launch) (Γ : zG) (x2 : Int32) : zSem l Γ false 10 (zhd 238) [.ref 0, .int 1, .int x2] zhM (fun r f => r = some (.long (-9223372036854775808)) ∧ f.1 = zshM) := by
  refine zr1 ?_
  refine And.intro (zsvJ (Eq.refl _) ?_) rfl ; decide +kernel
set_option maxRecDepth 100000 in
set_option maxHeartbeats 4000000 in
theorem zf_m7_2 (l : Launch) (Γ : zG) (x2 : Int32) : zSem l Γ false 10 (zhd 238) [.ref 0, .int 2, .int x2] zhM (fun r f => r = some (.long (-9223372036854775808)) ∧ f.1 = zshM) := by
  refine zr1 ?_
  refine And.intro (zsvJ (Eq.refl _) ?_) rfl ; decide +kernel
set_option maxRecDepth 100000 in
set_option maxHeartbeats 4000000 in
theorem zf_m7 (l : Launch) (Γ : zG) (x1 : Int32) (x2 : Int32) : zSem l Γ false 10 (zhd 238) [.ref 0, .int x1, .int x2] zhM (fun r f => r = some (.long (-9223372036854775808)) ∧ f.1 = zshM) := by
  by_cases e0 : x1 = 0
  · subst e0
    exact zf_m7_0 l Γ x2
  by_cases e1 : x1 = 1
  · subst e1
    exact zf_m7_1 l Γ x2
  by_cases e2 : x1 = 2
  · subst e2
    exact zf_m7_2 l Γ x2
  refine zr1 ?_
  refine zdec (fun h0 => ?_) (fun h0 => ?_)
  · refine zdecT ?_ (fun h1 => ?_)
    · exact Int32.not_le.mp (zeMn (zne012 h0 e0 e1 e2) (by first | with_reducible rfl | decide +kernel) (by first | with_reducible rfl | decide +kernel))
    refine And.intro (zsvJ (Eq.refl _) ?_) rfl ; decide +kernel
  · refine And.intro (zsvJ (Eq.refl _) ?_) rfl ; decide +kernel
