set_option maxRecDepth 100000 in
set_option maxHeartbeats 4000000 in
theorem zf_m12 (l : Launch) (Γ : zG) (x1 : Int32) (x2 : Int32) (x3 : Int32) : zSem l Γ false 10 (zhd 263) [.ref 0, .int x1, .int x2, .int x3] zhM (fun r f => r = some (.int (zF12 x1 x2 x3)) ∧ f.1 = zshM) := by
  refine zr3F 265 264 rfl ?_
  refine zdec (fun h0 => ?_) (fun h0 => ?_)
  · have g0 : ¬ x1 < 0 := zeLn h0 (by first | with_reducible rfl | decide +kernel) (by first | with_reducible rfl | decide +kernel)
    refine zdec (fun h1 => ?_) (fun h1 => ?_)
    · have g1 : ¬ 200 < x1 := zeLn h1 (by first | with_reducible rfl | decide +kernel) (by first | with_reducible rfl | decide +kernel)
      refine zdec (fun h2 => ?_) (fun h2 => ?_)
      · have g2 : ¬ x2 < 0 := zeLn h2 (by first | with_reducible rfl | decide +kernel) (by first | with_reducible rfl | decide +kernel)
        refine zdec (fun h3 => ?_) (fun h3 => ?_)
        · have g3 : ¬ 4 < x2 := zeLn h3 (by first | with_reducible rfl | decide +kernel) (by first | with_reducible rfl | decide +kernel)
          refine zdec (fun h4 => ?_) (fun h4 => ?_)
          · have g4 : ¬ 2 ≤ x2 := zeMn h4 (by first | with_reducible rfl | decide +kernel) (by first | with_reducible rfl | decide +kernel)
            refine zdec (fun h5 => ?_) (fun h5 => ?_)
            · have g5 : ¬ x3 < 0 := zeLn h5 (by first | with_reducible rfl | decide +kernel) (by first | with_reducible rfl | decide +kernel)
              refine zdecT ?_ (fun h6 => ?_)
              · have gd : 0 ≤ x3 := by clear h0 h1 h2 h3 h4 h5 ; grind
                exact zeM gd (by first | with_reducible rfl | decide +kernel) (by first | with_reducible rfl | decide +kernel)
              have ef : zF12 x1 x2 x3 = (-1) := by clear h0 h1 h2 h3 h4 h5 h6 ; unfold zF12 ; grind
              rw [ef]
              refine And.intro (zsvI (Eq.refl _) ?_) rfl
              decide +kernel
            · have g5 : x3 < 0 := zeL h5 (by first | with_reducible rfl | decide +kernel) (by first | with_reducible rfl | decide +kernel)
              have ef : zF12 x1 x2 x3 = (-1) := by clear h0 h1 h2 h3 h4 h5 ; unfold zF12 ; grind
              rw [ef]
              refine And.intro (zsvI (Eq.refl _) ?_) rfl
              decide +kernel
          · have g4 : 2 ≤ x2 := zeM h4 (by first | with_reducible rfl | decide +kernel) (by first | with_reducible rfl | decide +kernel)
            refine zdec (fun h5 => ?_) (fun h5 => ?_)
            · have g5 : ¬ x2 = 3 := zeEn h5 (by first | with_reducible rfl | decide +kernel) (by first | with_reducible rfl | decide +kernel)
              show zSem l Γ false 9 (zhd 264) [.ref 0] _ _
              refine zSem.congr (g := zhM) (by decide +kernel) (zSem.mono (zlay l Γ) ?_)
              rintro r h' ⟨rfl, rfl⟩
              show zSem l Γ false 9 (zhd 265) [.ref 0, .int x1] _ _
              have hn : 0 ≤ x1 := by clear h0 h1 h2 h3 h4 h5 ; grind
              refine zSem.congr (g := zsI (zgB 0 0 0 0 (-1)) 36 1 0) (by decide +kernel) (zSem.mono (zgoAS l Γ 0 0 0 0 (-1) x1 0 hn) ?_)
              rintro r h' ⟨rfl, rfl⟩
              refine zdecF ?_ (fun h6 => ?_)
              · have gd : ¬ x2 = 0 := by clear h0 h1 h2 h3 h4 h5 ; grind
                exact zeEn gd (by first | with_reducible rfl | decide +kernel) (by first | with_reducible rfl | decide +kernel)
              refine zdecF ?_ (fun h7 => ?_)
              · have gd : ¬ x2 = 1 := by clear h0 h1 h2 h3 h4 h5 h6 ; grind
                exact zeEn gd (by first | with_reducible rfl | decide +kernel) (by first | with_reducible rfl | decide +kernel)
              refine zdec (fun h8 => ?_) (fun h8 => ?_)
              · have g8 : ¬ x2 = 2 := zeEn h8 (by first | with_reducible rfl | decide +kernel) (by first | with_reducible rfl | decide +kernel)
                refine zdecF ?_ (fun h9 => ?_)
                · have gd : ¬ x2 = 3 := by clear h0 h1 h2 h3 h4 h5 h6 h7 h8 ; grind
                  exact zeEn gd (by first | with_reducible rfl | decide +kernel) (by first | with_reducible rfl | decide +kernel)
                have ef : zF12 x1 x2 x3 = 0 := by clear h0 h1 h2 h3 h4 h5 h6 h7 h8 h9 ; unfold zF12 ; grind
                refine And.intro (zsvI (Eq.refl _) ?_) (by simp only [zsI_1, zgA_1, zgB_1])
                rw [ef]
                try simp only [zsI_row (show (46 : Nat) ≠ 55 by decide), zsI_row (show (58 : Nat) ≠ 55 by decide), zsI_row (show (48 : Nat) ≠ 55 by decide), zsI_row (show (60 : Nat) ≠ 55 by decide)]
                decide +kernel
              · have g8 : x2 = 2 := zeE h8 (by first | with_reducible rfl | decide +kernel) (by first | with_reducible rfl | decide +kernel)
                have ef : zF12 x1 x2 x3 = 0 := by clear h0 h1 h2 h3 h4 h5 h6 h7 h8 ; unfold zF12 ; grind
                refine And.intro (zsvI (Eq.refl _) ?_) (by simp only [zsI_1, zgA_1, zgB_1])
                rw [ef]
                try simp only [zsI_row (show (46 : Nat) ≠ 55 by decide), zsI_row (show (58 : Nat) ≠ 55 by decide), zsI_row (show (48 : Nat) ≠ 55 by decide), zsI_row (show (60 : Nat) ≠ 55 by decide)]
                decide +kernel
            · have g5 : x2 = 3 := zeE h5 (by first | with_reducible rfl | decide +kernel) (by first | with_reducible rfl | decide +kernel)
              refine zdec (fun h6 => ?_) (fun h6 => ?_)
              · have g6 : ¬ x3 < 0 := zeLn h6 (by first | with_reducible rfl | decide +kernel) (by first | with_reducible rfl | decide +kernel)
                refine zdecT ?_ (fun h7 => ?_)
                · have gd : 0 ≤ x3 := by clear h0 h1 h2 h3 h4 h5 h6 ; grind
                  exact zeM gd (by first | with_reducible rfl | decide +kernel) (by first | with_reducible rfl | decide +kernel)
                have ef : zF12 x1 x2 x3 = (-1) := by clear h0 h1 h2 h3 h4 h5 h6 h7 ; unfold zF12 ; grind
                rw [ef]
                refine And.intro (zsvI (Eq.refl _) ?_) rfl
                decide +kernel
              · have g6 : x3 < 0 := zeL h6 (by first | with_reducible rfl | decide +kernel) (by first | with_reducible rfl | decide +kernel)
                have ef : zF12 x1 x2 x3 = (-1) := by clear h0 h1 h2 h3 h4 h5 h6 ; unfold zF12 ; grind
                rw [ef]
                refine And.intro (zsvI (Eq.refl _) ?_) rfl
                decide +kernel
        · have g3 : 4 < x2 := zeL h3 (by first | with_reducible rfl | decide +kernel) (by first | with_reducible rfl | decide +kernel)
          have ef : zF12 x1 x2 x3 = (-1) := by clear h0 h1 h2 h3 ; unfold zF12 ; grind
          rw [ef]
          refine And.intro (zsvI (Eq.refl _) ?_) rfl
          decide +kernel
      · have g2 : x2 < 0 := zeL h2 (by first | with_reducible rfl | decide +kernel) (by first | with_reducible rfl | decide +kernel)
        have ef : zF12 x1 x2 x3 = (-1) := by clear h0 h1 h2 ; unfold zF12 ; grind
        rw [ef]
        refine And.intro (zsvI (Eq.refl _) ?_) rfl
        decide +kernel
    · have g1 : 200 < x1 := zeL h1 (by first | with_reducible rfl | decide +kernel) (by first | with_reducible rfl | decide +kernel)
      have ef : zF12 x1 x2 x3 = (-1) := by clear h0 h1 ; unfold zF12 ; grind
      rw [ef]
      refine And.intro (zsvI (Eq.refl _) ?_) rfl
      decide +kernel
  · have g0 : x1 < 0 := zeL h0 (by first | with_reducible rfl | decide +kernel) (by first | with_reducible rfl | decide +kernel)
    have ef : zF12 x1 x2 x3 = (-1) := by clear h0 ; unfold zF12 ; grind
    rw [ef]
    refine And.intro (zsvI (Eq.refl _) ?_) rfl
    decide +kernel
