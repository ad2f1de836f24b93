theorem z9000 {x : Int32} (h0 : ¬ x < 0) (h1 : x ≤ 200) : (0 : Int32) + x ≤ 9000 := by
  rw [Int32.zero_add]
  exact Int32.le_trans h1 (by decide)
set_option maxRecDepth 100000 in
set_option maxHeartbeats 400000 in
theorem zf_c11 (l : Launch) (Γ : zG) (x1 : Int32) : zSem l Γ false 10 (zhd 98) [.ref 0, .int x1] zhC (fun r f => r = some (.int (zF11 x1)) ∧ f.1 = zshC) := by
  refine zr2 100 rfl ?_
  refine zdec (fun h0 => ?_) (fun h0 => ?_)
  · have g0 : ¬ x1 < 0 := zeLn h0 rfl (by decide +kernel)
    refine zdec (fun h1 => ?_) (fun h1 => ?_)
    · have g1 : ¬ x1 ≤ 200 := zeMn h1 rfl (by decide +kernel)
      refine And.intro (zsvI (Eq.refl _) ?_) rfl
      rw [zF11, if_neg g0, if_neg g1]
      decide +kernel
    · have g1 : x1 ≤ 200 := zeM h1 rfl (by decide +kernel)
      have e : zF11 x1 = x1 := by rw [zF11, if_neg g0, if_pos g1]
      rw [e]
      refine zdecT ?_ (fun h2 => ?_)
      · exact zeM (z9000 g0 g1) (congrArg (· + x1) (by decide +kernel)) (by decide +kernel)
      refine zdec (fun h3 => ?_) (fun h3 => ?_)
      · show zSem l Γ false 9 (zhd 100) [.ref 61, .ref 43, .int x1] _ _
        refine zSem.congr (g := zsI zgG 43 0 0) (by decide +kernel) (zSem.mono (zpassGS l Γ x1 0 (Int32.not_lt.mp g0)) ?_)
        rintro r h' ⟨rfl, rfl⟩
        refine And.intro (zsvI (Eq.refl _) ?_) rfl
        exact Int32.zero_add x1
      · show zSem l Γ false 9 (zhd 100) [.ref 61, .ref 43, .int x1] _ _
        refine zSem.congr (g := zsI zgG 43 0 0) (by decide +kernel) (zSem.mono (zpassGS l Γ x1 0 (Int32.not_lt.mp g0)) ?_)
        rintro r h' ⟨rfl, rfl⟩
        refine And.intro (zsvI (Eq.refl _) ?_) rfl
        exact Int32.zero_add x1
  · have g0 : x1 < 0 := zeL h0 rfl (by decide +kernel)
    refine And.intro (zsvI (Eq.refl _) ?_) rfl
    rw [zF11, if_pos g0]
    decide +kernel
