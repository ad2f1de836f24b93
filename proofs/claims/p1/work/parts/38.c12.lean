def zF12 (x1 x2 x3 : Int32) : Int32 := if x1 < 0 then -1 else if 200 < x1 then -1 else if x2 = 2 then 0 else if x2 = 4 then 0 else if x3 = x3 then -1 else -1
set_option maxRecDepth 100000 in
set_option maxHeartbeats 4000000 in
theorem zf_c12 (l : Launch) (Γ : zG) (x1 : Int32) (x2 : Int32) (x3 : Int32) : zSem l Γ false 10 (zhd 110) [.ref 0, .int x1, .int x2, .int x3] zhC (fun r f => r = some (.int (zF12 x1 x2 x3)) ∧ f.1 = zshC) := by
  refine zr2F 100 rfl ?_
  refine zdec (fun h0 => ?_) (fun h0 => ?_)
  · have g0 : ¬ x2 = 0 := zeEn h0 (by first | with_reducible rfl | decide +kernel) (by first | with_reducible rfl | decide +kernel)
    refine zdec (fun h1 => ?_) (fun h1 => ?_)
    · have g1 : ¬ x2 = 1 := zeEn h1 (by first | with_reducible rfl | decide +kernel) (by first | with_reducible rfl | decide +kernel)
      refine zdec (fun h2 => ?_) (fun h2 => ?_)
      · have g2 : ¬ x1 < 0 := zeLn h2 (by first | with_reducible rfl | decide +kernel) (by first | with_reducible rfl | decide +kernel)
        refine zdec (fun h3 => ?_) (fun h3 => ?_)
        · have g3 : ¬ x1 ≤ 200 := zeMn h3 (by first | with_reducible rfl | decide +kernel) (by first | with_reducible rfl | decide +kernel)
          have ef : zF12 x1 x2 x3 = (-1) := by clear h0 h1 h2 h3 ; unfold zF12 ; grind
          rw [ef]
          refine And.intro (zsvI (Eq.refl _) ?_) rfl
          decide +kernel
        · have g3 : x1 ≤ 200 := zeM h3 (by first | with_reducible rfl | decide +kernel) (by first | with_reducible rfl | decide +kernel)
          refine zdec (fun h4 => ?_) (fun h4 => ?_)
          · have g4 : ¬ x2 < 0 := zeLn h4 (by first | with_reducible rfl | decide +kernel) (by first | with_reducible rfl | decide +kernel)
            refine zdec (fun h5 => ?_) (fun h5 => ?_)
            · have g5 : ¬ x2 ≤ 4 := zeMn h5 (by first | with_reducible rfl | decide +kernel) (by first | with_reducible rfl | decide +kernel)
              have ef : zF12 x1 x2 x3 = (-1) := by clear h0 h1 h2 h3 h4 h5 ; unfold zF12 ; grind
              rw [ef]
              refine And.intro (zsvI (Eq.refl _) ?_) rfl
              decide +kernel
            · have g5 : x2 ≤ 4 := zeM h5 (by first | with_reducible rfl | decide +kernel) (by first | with_reducible rfl | decide +kernel)
              refine zdec (fun h6 => ?_) (fun h6 => ?_)
              · have g6 : ¬ x2 = 3 := zeEn h6 (by first | with_reducible rfl | decide +kernel) (by first | with_reducible rfl | decide +kernel)
                show zSem l Γ false 9 (zhd 100) [.ref 61, .ref 55, .int x1] _ _
                have hn : 0 ≤ x1 := by clear h0 h1 h2 h3 h4 h5 h6 ; grind
                refine zSem.congr (g := zsI (zgA (-1) (-1)) 55 0 0) (by decide +kernel) (zSem.mono (zpassAS l Γ (-1) (-1) x1 0 hn) ?_)
                rintro r h' ⟨rfl, rfl⟩
                refine zdecF ?_ (fun h7 => ?_)
                · have gd : ¬ x2 = 0 := by clear h0 h1 h2 h3 h4 h5 h6 ; grind
                  exact zeEn gd (by first | with_reducible rfl | decide +kernel) (by first | with_reducible rfl | decide +kernel)
                refine zdecF ?_ (fun h8 => ?_)
                · have gd : ¬ x2 = 1 := by clear h0 h1 h2 h3 h4 h5 h6 h7 ; grind
                  exact zeEn gd (by first | with_reducible rfl | decide +kernel) (by first | with_reducible rfl | decide +kernel)
                refine zdec (fun h9 => ?_) (fun h9 => ?_)
                · have g9 : ¬ x2 = 2 := zeEn h9 (by first | with_reducible rfl | decide +kernel) (by first | with_reducible rfl | decide +kernel)
                  refine zdecF ?_ (fun h10 => ?_)
                  · have gd : ¬ x2 = 3 := by clear h0 h1 h2 h3 h4 h5 h6 h7 h8 h9 ; grind
                    exact zeEn gd (by first | with_reducible rfl | decide +kernel) (by first | with_reducible rfl | decide +kernel)
                  have ef : zF12 x1 x2 x3 = 0 := by clear h0 h1 h2 h3 h4 h5 h6 h7 h8 h9 h10 ; unfold zF12 ; grind
                  refine And.intro (zsvI (Eq.refl _) ?_) (by simp only [zsI_1, zgA_1, zgB_1])
                  rw [ef]
                  try simp only [zsI_row (show (46 : Nat) ≠ 55 by decide), zsI_row (show (58 : Nat) ≠ 55 by decide), zsI_row (show (48 : Nat) ≠ 55 by decide), zsI_row (show (60 : Nat) ≠ 55 by decide)]
                  decide +kernel
                · have g9 : x2 = 2 := zeE h9 (by first | with_reducible rfl | decide +kernel) (by first | with_reducible rfl | decide +kernel)
                  have ef : zF12 x1 x2 x3 = 0 := by clear h0 h1 h2 h3 h4 h5 h6 h7 h8 h9 ; unfold zF12 ; grind
                  refine And.intro (zsvI (Eq.refl _) ?_) (by simp only [zsI_1, zgA_1, zgB_1])
                  rw [ef]
                  try simp only [zsI_row (show (46 : Nat) ≠ 55 by decide), zsI_row (show (58 : Nat) ≠ 55 by decide), zsI_row (show (48 : Nat) ≠ 55 by decide), zsI_row (show (60 : Nat) ≠ 55 by decide)]
                  decide +kernel
              · have g6 : x2 = 3 := zeE h6 (by first | with_reducible rfl | decide +kernel) (by first | with_reducible rfl | decide +kernel)
                refine zdec (fun h7 => ?_) (fun h7 => ?_)
                · have g7 : ¬ x3 < 0 := zeLn h7 (by first | with_reducible rfl | decide +kernel) (by first | with_reducible rfl | decide +kernel)
                  refine zdecF ?_ (fun h8 => ?_)
                  · have gd : ¬ x3 < 0 := by clear h0 h1 h2 h3 h4 h5 h6 h7 ; grind
                    exact zeLn gd (by first | with_reducible rfl | decide +kernel) (by first | with_reducible rfl | decide +kernel)
                  have ef : zF12 x1 x2 x3 = (-1) := by clear h0 h1 h2 h3 h4 h5 h6 h7 h8 ; unfold zF12 ; grind
                  rw [ef]
                  refine And.intro (zsvI (Eq.refl _) ?_) rfl
                  decide +kernel
                · have g7 : x3 < 0 := zeL h7 (by first | with_reducible rfl | decide +kernel) (by first | with_reducible rfl | decide +kernel)
                  have ef : zF12 x1 x2 x3 = (-1) := by clear h0 h1 h2 h3 h4 h5 h6 h7 ; unfold zF12 ; grind
                  rw [ef]
                  refine And.intro (zsvI (Eq.refl _) ?_) rfl
                  decide +kernel
          · have g4 : x2 < 0 := zeL h4 (by first | with_reducible rfl | decide +kernel) (by first | with_reducible rfl | decide +kernel)
            have ef : zF12 x1 x2 x3 = (-1) := by clear h0 h1 h2 h3 h4 ; unfold zF12 ; grind
            rw [ef]
            refine And.intro (zsvI (Eq.refl _) ?_) rfl
            decide +kernel
      · have g2 : x1 < 0 := zeL h2 (by first | with_reducible rfl | decide +kernel) (by first | with_reducible rfl | decide +kernel)
        have ef : zF12 x1 x2 x3 = (-1) := by clear h0 h1 h2 ; unfold zF12 ; grind
        rw [ef]
        refine And.intro (zsvI (Eq.refl _) ?_) rfl
        decide +kernel
    · have g1 : x2 = 1 := zeE h1 (by first | with_reducible rfl | decide +kernel) (by first | with_reducible rfl | decide +kernel)
      refine zdec (fun h2 => ?_) (fun h2 => ?_)
      · have g2 : ¬ x1 < 0 := zeLn h2 (by first | with_reducible rfl | decide +kernel) (by first | with_reducible rfl | decide +kernel)
        refine zdec (fun h3 => ?_) (fun h3 => ?_)
        · have g3 : ¬ x1 ≤ 200 := zeMn h3 (by first | with_reducible rfl | decide +kernel) (by first | with_reducible rfl | decide +kernel)
          have ef : zF12 x1 x2 x3 = (-1) := by clear h0 h1 h2 h3 ; unfold zF12 ; grind
          rw [ef]
          refine And.intro (zsvI (Eq.refl _) ?_) rfl
          decide +kernel
        · have g3 : x1 ≤ 200 := zeM h3 (by first | with_reducible rfl | decide +kernel) (by first | with_reducible rfl | decide +kernel)
          refine zdecF ?_ (fun h4 => ?_)
          · have gd : ¬ x2 < 0 := by clear h0 h1 h2 h3 ; grind
            exact zeLn gd (by first | with_reducible rfl | decide +kernel) (by first | with_reducible rfl | decide +kernel)
          refine zdecT ?_ (fun h5 => ?_)
          · have gd : x2 ≤ 4 := by clear h0 h1 h2 h3 h4 ; grind
            exact zeM gd (by first | with_reducible rfl | decide +kernel) (by first | with_reducible rfl | decide +kernel)
          refine zdec (fun h6 => ?_) (fun h6 => ?_)
          · have g6 : ¬ x3 < 0 := zeLn h6 (by first | with_reducible rfl | decide +kernel) (by first | with_reducible rfl | decide +kernel)
            refine zdec (fun h7 => ?_) (fun h7 => ?_)
            · have g7 : ¬ 8 ≤ x3 := zeMn h7 (by first | with_reducible rfl | decide +kernel) (by first | with_reducible rfl | decide +kernel)
              refine zdecF ?_ (fun h8 => ?_)
              · have gd : ¬ x3 < 0 := by clear h0 h1 h2 h3 h4 h5 h6 h7 ; grind
                exact zeLn gd (by first | with_reducible rfl | decide +kernel) (by first | with_reducible rfl | decide +kernel)
              have ef : zF12 x1 x2 x3 = (-1) := by clear h0 h1 h2 h3 h4 h5 h6 h7 h8 ; unfold zF12 ; grind
              rw [ef]
              refine And.intro (zsvI (Eq.refl _) ?_) rfl
              decide +kernel
            · have g7 : 8 ≤ x3 := zeM h7 (by first | with_reducible rfl | decide +kernel) (by first | with_reducible rfl | decide +kernel)
              have ef : zF12 x1 x2 x3 = (-1) := by clear h0 h1 h2 h3 h4 h5 h6 h7 ; unfold zF12 ; grind
              rw [ef]
              refine And.intro (zsvI (Eq.refl _) ?_) rfl
              decide +kernel
          · have g6 : x3 < 0 := zeL h6 (by first | with_reducible rfl | decide +kernel) (by first | with_reducible rfl | decide +kernel)
            have ef : zF12 x1 x2 x3 = (-1) := by clear h0 h1 h2 h3 h4 h5 h6 ; unfold zF12 ; grind
            rw [ef]
            refine And.intro (zsvI (Eq.refl _) ?_) rfl
            decide +kernel
      · have g2 : x1 < 0 := zeL h2 (by first | with_reducible rfl | decide +kernel) (by first | with_reducible rfl | decide +kernel)
        have ef : zF12 x1 x2 x3 = (-1) := by clear h0 h1 h2 ; unfold zF12 ; grind
        rw [ef]
        refine And.intro (zsvI (Eq.refl _) ?_) rfl
        decide +kernel
  · have g0 : x2 = 0 := zeE h0 (by first | with_reducible rfl | decide +kernel) (by first | with_reducible rfl | decide +kernel)
    refine zdec (fun h1 => ?_) (fun h1 => ?_)
    · have g1 : ¬ x1 < 0 := zeLn h1 (by first | with_reducible rfl | decide +kernel) (by first | with_reducible rfl | decide +kernel)
      refine zdec (fun h2 => ?_) (fun h2 => ?_)
      · have g2 : ¬ x1 ≤ 200 := zeMn h2 (by first | with_reducible rfl | decide +kernel) (by first | with_reducible rfl | decide +kernel)
        have ef : zF12 x1 x2 x3 = (-1) := by clear h0 h1 h2 ; unfold zF12 ; grind
        rw [ef]
        refine And.intro (zsvI (Eq.refl _) ?_) rfl
        decide +kernel
      · have g2 : x1 ≤ 200 := zeM h2 (by first | with_reducible rfl | decide +kernel) (by first | with_reducible rfl | decide +kernel)
        refine zdecF ?_ (fun h3 => ?_)
        · have gd : ¬ x2 < 0 := by clear h0 h1 h2 ; grind
          exact zeLn gd (by first | with_reducible rfl | decide +kernel) (by first | with_reducible rfl | decide +kernel)
        refine zdecT ?_ (fun h4 => ?_)
        · have gd : x2 ≤ 4 := by clear h0 h1 h2 h3 ; grind
          exact zeM gd (by first | with_reducible rfl | decide +kernel) (by first | with_reducible rfl | decide +kernel)
        refine zdec (fun h5 => ?_) (fun h5 => ?_)
        · have g5 : ¬ x3 < 0 := zeLn h5 (by first | with_reducible rfl | decide +kernel) (by first | with_reducible rfl | decide +kernel)
          refine zdec (fun h6 => ?_) (fun h6 => ?_)
          · have g6 : ¬ 8 ≤ x3 := zeMn h6 (by first | with_reducible rfl | decide +kernel) (by first | with_reducible rfl | decide +kernel)
            refine zdecF ?_ (fun h7 => ?_)
            · have gd : ¬ x3 < 0 := by clear h0 h1 h2 h3 h4 h5 h6 ; grind
              exact zeLn gd (by first | with_reducible rfl | decide +kernel) (by first | with_reducible rfl | decide +kernel)
            have ef : zF12 x1 x2 x3 = (-1) := by clear h0 h1 h2 h3 h4 h5 h6 h7 ; unfold zF12 ; grind
            rw [ef]
            refine And.intro (zsvI (Eq.refl _) ?_) rfl
            decide +kernel
          · have g6 : 8 ≤ x3 := zeM h6 (by first | with_reducible rfl | decide +kernel) (by first | with_reducible rfl | decide +kernel)
            have ef : zF12 x1 x2 x3 = (-1) := by clear h0 h1 h2 h3 h4 h5 h6 ; unfold zF12 ; grind
            rw [ef]
            refine And.intro (zsvI (Eq.refl _) ?_) rfl
            decide +kernel
        · have g5 : x3 < 0 := zeL h5 (by first | with_reducible rfl | decide +kernel) (by first | with_reducible rfl | decide +kernel)
          have ef : zF12 x1 x2 x3 = (-1) := by clear h0 h1 h2 h3 h4 h5 ; unfold zF12 ; grind
          rw [ef]
          refine And.intro (zsvI (Eq.refl _) ?_) rfl
          decide +kernel
    · have g1 : x1 < 0 := zeL h1 (by first | with_reducible rfl | decide +kernel) (by first | with_reducible rfl | decide +kernel)
      have ef : zF12 x1 x2 x3 = (-1) := by clear h0 h1 ; unfold zF12 ; grind
      rw [ef]
      refine And.intro (zsvI (Eq.refl _) ?_) rfl
      decide +kernel
