def zF28 (x1 : Int32) : Int32 := if x1 = x1 then -1 else -1
set_option maxRecDepth 100000 in
set_option maxHeartbeats 4000000 in
theorem zf_c28 (l : Launch) (Γ : zG) (x1 : Int32) : zSem l Γ false 10 (zhd 154) [.ref 0, .int x1] zhC (fun r f => r = some (.int (zF28 x1)) ∧ f.1 = zshC) := by
  refine zr2F 100 rfl ?_
  refine zdec (fun h0 => ?_) (fun h0 => ?_)
  · have g0 : ¬ x1 < 0 := zeLn h0 (by first | with_reducible rfl | decide +kernel) (by first | with_reducible rfl | decide +kernel)
    refine zdec (fun h1 => ?_) (fun h1 => ?_)
    · have g1 : ¬ x1 ≤ 200 := zeMn h1 (by first | with_reducible rfl | decide +kernel) (by first | with_reducible rfl | decide +kernel)
      have ef : zF28 x1 = (-1) := by clear h0 h1 ; unfold zF28 ; grind
      rw [ef]
      refine And.intro (zsvI (Eq.refl _) ?_) rfl
      decide +kernel
    · have g1 : x1 ≤ 200 := zeM h1 (by first | with_reducible rfl | decide +kernel) (by first | with_reducible rfl | decide +kernel)
      show zSem l Γ false 9 (zhd 100) [.ref 61, .ref 55, .int x1] _ _
      have hn : 0 ≤ x1 := by clear h0 h1 ; grind
      refine zSem.congr (g := zsI (zgA (-1) (-1)) 55 0 0) (by decide +kernel) (zSem.mono (zpassAS l Γ (-1) (-1) x1 0 hn) ?_)
      rintro r h' ⟨rfl, rfl⟩
      have ef : zF28 x1 = (-1) := by clear h0 h1 ; unfold zF28 ; grind
      refine And.intro (zsvI (Eq.refl _) ?_) (by simp only [zsI_1, zgA_1, zgB_1])
      rw [ef]
      try simp only [zsI_row (show (46 : Nat) ≠ 55 by decide), zsI_row (show (58 : Nat) ≠ 55 by decide), zsI_row (show (48 : Nat) ≠ 55 by decide), zsI_row (show (60 : Nat) ≠ 55 by decide)]
      decide +kernel
  · have g0 : x1 < 0 := zeL h0 (by first | with_reducible rfl | decide +kernel) (by first | with_reducible rfl | decide +kernel)
    have ef : zF28 x1 = (-1) := by clear h0 ; unfold zF28 ; grind
    rw [ef]
    refine And.intro (zsvI (Eq.refl _) ?_) rfl
    decide +kernel
