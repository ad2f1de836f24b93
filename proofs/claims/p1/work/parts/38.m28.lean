set_option maxRecDepth 100000 in
set_option maxHeartbeats 4000000 in
theorem zf_m28 (l : Launch) (Γ : zG) (x1 : Int32) : zSem l Γ false 10 (zhd 282) [.ref 0, .int x1] zhM (fun r f => r = some (.int (zF28 x1)) ∧ f.1 = zshM) := by
  refine zr3F 265 264 rfl ?_
  refine zdec (fun h0 => ?_) (fun h0 => ?_)
  · have g0 : ¬ x1 < 0 := zeLn h0 (by first | with_reducible rfl | decide +kernel) (by first | with_reducible rfl | decide +kernel)
    refine zdec (fun h1 => ?_) (fun h1 => ?_)
    · have g1 : ¬ 200 < x1 := zeLn h1 (by first | with_reducible rfl | decide +kernel) (by first | with_reducible rfl | decide +kernel)
      show zSem l Γ false 9 (zhd 264) [.ref 0] _ _
      refine zSem.congr (g := zhM) (by decide +kernel) (zSem.mono (zlay l Γ) ?_)
      rintro r h' ⟨rfl, rfl⟩
      show zSem l Γ false 9 (zhd 265) [.ref 0, .int x1] _ _
      have hn : 0 ≤ x1 := by clear h0 h1 ; grind
      refine zSem.congr (g := zsI (zgB 0 0 0 0 (-1)) 36 1 0) (by decide +kernel) (zSem.mono (zgoAS l Γ 0 0 0 0 (-1) x1 0 hn) ?_)
      rintro r h' ⟨rfl, rfl⟩
      have ef : zF28 x1 = (-1) := by clear h0 h1 ; unfold zF28 ; grind
      refine And.intro (zsvI (Eq.refl _) ?_) (by simp only [zsI_1, zgA_1, zgB_1])
      rw [ef]
      try simp only [zsI_row (show (46 : Nat) ≠ 55 by decide), zsI_row (show (58 : Nat) ≠ 55 by decide), zsI_row (show (48 : Nat) ≠ 55 by decide), zsI_row (show (60 : Nat) ≠ 55 by decide)]
      decide +kernel
    · have g1 : 200 < x1 := zeL h1 (by first | with_reducible rfl | decide +kernel) (by first | with_reducible rfl | decide +kernel)
      have ef : zF28 x1 = (-1) := by clear h0 h1 ; unfold zF28 ; grind
      rw [ef]
      refine And.intro (zsvI (Eq.refl _) ?_) rfl
      decide +kernel
  · have g0 : x1 < 0 := zeL h0 (by first | with_reducible rfl | decide +kernel) (by first | with_reducible rfl | decide +kernel)
    have ef : zF28 x1 = (-1) := by clear h0 ; unfold zF28 ; grind
    rw [ef]
    refine And.intro (zsvI (Eq.refl _) ?_) rfl
    decide +kernel
