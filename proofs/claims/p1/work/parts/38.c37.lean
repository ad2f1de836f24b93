def zF37 (x1 x2 x3 : Int32) : Int32 := if x1 < 0 then -1 else if 4 < x1 then -1 else if x1 = 2 then -1 else if x3 < 0 then -1 else if 200 < x3 then -1 else if x2 = 0 then 0 else -1
set_option maxRecDepth 100000 in
set_option maxHeartbeats 4000000 in
theorem zf_c37 (l : Launch) (Γ : zG) (x1 : Int32) (x2 : Int32) (x3 : Int32) : zSem l Γ false 10 (zhd 169) [.ref 0, .int x1, .int x2, .int x3] zhC (fun r f => r = some (.int (zF37 x1 x2 x3)) ∧ f.1 = zshC) := by
  refine zr2F 100 rfl ?_
  refine zdec (fun h0 => ?_) (fun h0 => ?_)
  · have g0 : ¬ x1 < 0 := zeLn h0 (by first | with_reducible rfl | decide +kernel) (by first | with_reducible rfl | decide +kernel)
    refine zdec (fun h1 => ?_) (fun h1 => ?_)
    · have g1 : ¬ x1 ≤ 4 := zeMn h1 (by first | with_reducible rfl | decide +kernel) (by first | with_reducible rfl | decide +kernel)
      have ef : zF37 x1 x2 x3 = (-1) := by clear h0 h1 ; unfold zF37 ; grind
      rw [ef]
      refine And.intro (zsvI (Eq.refl _) ?_) rfl
      decide +kernel
    · have g1 : x1 ≤ 4 := zeM h1 (by first | with_reducible rfl | decide +kernel) (by first | with_reducible rfl | decide +kernel)
      refine zdec (fun h2 => ?_) (fun h2 => ?_)
      · have g2 : ¬ x3 < 0 := zeLn h2 (by first | with_reducible rfl | decide +kernel) (by first | with_reducible rfl | decide +kernel)
        refine zdec (fun h3 => ?_) (fun h3 => ?_)
        · have g3 : ¬ x3 ≤ 200 := zeMn h3 (by first | with_reducible rfl | decide +kernel) (by first | with_reducible rfl | decide +kernel)
          have ef : zF37 x1 x2 x3 = (-1) := by clear h0 h1 h2 h3 ; unfold zF37 ; grind
          rw [ef]
          refine And.intro (zsvI (Eq.refl _) ?_) rfl
          decide +kernel
        · have g3 : x3 ≤ 200 := zeM h3 (by first | with_reducible rfl | decide +kernel) (by first | with_reducible rfl | decide +kernel)
          refine zdec (fun h4 => ?_) (fun h4 => ?_)
          · have g4 : ¬ x1 = 2 := zeEn h4 (by first | with_reducible rfl | decide +kernel) (by first | with_reducible rfl | decide +kernel)
            refine zdecF ?_ (fun h5 => ?_)
            · have gd : ¬ x1 = 2 := by clear h0 h1 h2 h3 h4 ; grind
              exact zeEn gd (by first | with_reducible rfl | decide +kernel) (by first | with_reducible rfl | decide +kernel)
            refine zdec (fun h6 => ?_) (fun h6 => ?_)
            · have g6 : ¬ x2 = 0 := zeEn h6 (by first | with_reducible rfl | decide +kernel) (by first | with_reducible rfl | decide +kernel)
              have ef : zF37 x1 x2 x3 = (-1) := by clear h0 h1 h2 h3 h4 h5 h6 ; unfold zF37 ; grind
              rw [ef]
              refine And.intro (zsvI (Eq.refl _) ?_) rfl
              decide +kernel
            · have g6 : x2 = 0 := zeE h6 (by first | with_reducible rfl | decide +kernel) (by first | with_reducible rfl | decide +kernel)
              have e2 : x2 = 0 := by clear h0 h1 h2 h3 h4 h5 h6 ; grind
              have e1 : x1 = 0 ∨ x1 = 1 ∨ x1 = 3 ∨ x1 = 4 := by clear h0 h1 h2 h3 h4 h5 h6 ; grind
              subst e2
              show zSem l Γ false 9 (zhd 100) [.ref 61, .ref 55, .int x3] _ _
              have hn : 0 ≤ x3 := by clear h0 h1 h2 h3 h4 h5 h6 ; grind
              rcases e1 with rfl | rfl | rfl | rfl
              · refine zSem.congr (g := zsI (zgA 0 0) 55 0 0) (by decide +kernel) (zSem.mono (zpassAS l Γ 0 0 x3 0 hn) ?_)
                rintro r h' ⟨rfl, rfl⟩
                have ef : zF37 0 0 x3 = 0 := by clear h0 h1 h2 h3 h4 h5 h6 ; unfold zF37 ; grind
                refine And.intro (zsvI (Eq.refl _) ?_) (by simp only [zsI_1, zgA_1, zgB_1])
                rw [ef]
                try simp only [zsI_row (show (56 : Nat) ≠ 55 by decide), zsI_row (show (57 : Nat) ≠ 55 by decide)]
                decide +kernel
              · refine zSem.congr (g := zsI (zgA 1 0) 55 0 0) (by decide +kernel) (zSem.mono (zpassAS l Γ 1 0 x3 0 hn) ?_)
                rintro r h' ⟨rfl, rfl⟩
                have ef : zF37 1 0 x3 = 0 := by clear h0 h1 h2 h3 h4 h5 h6 ; unfold zF37 ; grind
                refine And.intro (zsvI (Eq.refl _) ?_) (by simp only [zsI_1, zgA_1, zgB_1])
                rw [ef]
                try simp only [zsI_row (show (56 : Nat) ≠ 55 by decide), zsI_row (show (57 : Nat) ≠ 55 by decide)]
                decide +kernel
              · refine zSem.congr (g := zsI (zgA 3 0) 55 0 0) (by decide +kernel) (zSem.mono (zpassAS l Γ 3 0 x3 0 hn) ?_)
                rintro r h' ⟨rfl, rfl⟩
                have ef : zF37 3 0 x3 = 0 := by clear h0 h1 h2 h3 h4 h5 h6 ; unfold zF37 ; grind
                refine And.intro (zsvI (Eq.refl _) ?_) (by simp only [zsI_1, zgA_1, zgB_1])
                rw [ef]
                try simp only [zsI_row (show (56 : Nat) ≠ 55 by decide), zsI_row (show (57 : Nat) ≠ 55 by decide)]
                decide +kernel
              · refine zSem.congr (g := zsI (zgA 4 0) 55 0 0) (by decide +kernel) (zSem.mono (zpassAS l Γ 4 0 x3 0 hn) ?_)
                rintro r h' ⟨rfl, rfl⟩
                have ef : zF37 4 0 x3 = 0 := by clear h0 h1 h2 h3 h4 h5 h6 ; unfold zF37 ; grind
                refine And.intro (zsvI (Eq.refl _) ?_) (by simp only [zsI_1, zgA_1, zgB_1])
                rw [ef]
                try simp only [zsI_row (show (56 : Nat) ≠ 55 by decide), zsI_row (show (57 : Nat) ≠ 55 by decide)]
                decide +kernel
          · have g4 : x1 = 2 := zeE h4 (by first | with_reducible rfl | decide +kernel) (by first | with_reducible rfl | decide +kernel)
            refine zdec (fun h5 => ?_) (fun h5 => ?_)
            · have g5 : ¬ x2 < 0 := zeLn h5 (by first | with_reducible rfl | decide +kernel) (by first | with_reducible rfl | decide +kernel)
              refine zdec (fun h6 => ?_) (fun h6 => ?_)
              · have g6 : ¬ 8 ≤ x2 := zeMn h6 (by first | with_reducible rfl | decide +kernel) (by first | with_reducible rfl | decide +kernel)
                refine zdecF ?_ (fun h7 => ?_)
                · have gd : ¬ x2 < 0 := by clear h0 h1 h2 h3 h4 h5 h6 ; grind
                  exact zeLn gd (by first | with_reducible rfl | decide +kernel) (by first | with_reducible rfl | decide +kernel)
                have ef : zF37 x1 x2 x3 = (-1) := by clear h0 h1 h2 h3 h4 h5 h6 h7 ; unfold zF37 ; grind
                rw [ef]
                refine And.intro (zsvI (Eq.refl _) ?_) rfl
                decide +kernel
              · have g6 : 8 ≤ x2 := zeM h6 (by first | with_reducible rfl | decide +kernel) (by first | with_reducible rfl | decide +kernel)
                have ef : zF37 x1 x2 x3 = (-1) := by clear h0 h1 h2 h3 h4 h5 h6 ; unfold zF37 ; grind
                rw [ef]
                refine And.intro (zsvI (Eq.refl _) ?_) rfl
                decide +kernel
            · have g5 : x2 < 0 := zeL h5 (by first | with_reducible rfl | decide +kernel) (by first | with_reducible rfl | decide +kernel)
              have ef : zF37 x1 x2 x3 = (-1) := by clear h0 h1 h2 h3 h4 h5 ; unfold zF37 ; grind
              rw [ef]
              refine And.intro (zsvI (Eq.refl _) ?_) rfl
              decide +kernel
      · have g2 : x3 < 0 := zeL h2 (by first | with_reducible rfl | decide +kernel) (by first | with_reducible rfl | decide +kernel)
        have ef : zF37 x1 x2 x3 = (-1) := by clear h0 h1 h2 ; unfold zF37 ; grind
        rw [ef]
        refine And.intro (zsvI (Eq.refl _) ?_) rfl
        decide +kernel
  · have g0 : x1 < 0 := zeL h0 (by first | with_reducible rfl | decide +kernel) (by first | with_reducible rfl | decide +kernel)
    have ef : zF37 x1 x2 x3 = (-1) := by clear h0 ; unfold zF37 ; grind
    rw [ef]
    refine And.intro (zsvI (Eq.refl _) ?_) rfl
    decide +kernel
