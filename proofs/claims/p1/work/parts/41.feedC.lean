set_option maxRecDepth 100000 in
set_option maxHeartbeats 4000000 in
theorem zf_c0 (l : Launch) (Γ : zG) (x1 x2 x3 x4 x5 : Int32) : zSem l Γ false 10 (zhd 26) [.ref 0, .int x1, .int x2, .int x3, .int x4, .int x5] zhC (fun r f => r = some (.int 20) ∧ f.1 = zshC) := by
  refine zr2F 27 rfl ?_
  show zSem l Γ false 9 (zhd 27) [.ref 0, .int x1] _ _
  refine zSem.congr (g := zsI (zrI zhC 1 (fun _ => 0)) 0 1 (Int32.ofInt 0)) (by decide +kernel) (zSem.mono (zputS0 l Γ (fun _ => 0) x1) ?_)
  rintro r h' ⟨rfl, row1, rfl⟩
  show zSem l Γ false 9 (zhd 27) [.ref 0, .int x2] _ _
  refine zSem.mono (zputS4 l Γ row1 x2) ?_
  rintro r h' ⟨rfl, row2, rfl⟩
  show zSem l Γ false 9 (zhd 27) [.ref 0, .int x3] _ _
  refine zSem.mono (zputS8 l Γ row2 x3) ?_
  rintro r h' ⟨rfl, row3, rfl⟩
  show zSem l Γ false 9 (zhd 27) [.ref 0, .int x4] _ _
  refine zSem.mono (zputS12 l Γ row3 x4) ?_
  rintro r h' ⟨rfl, row4, rfl⟩
  show zSem l Γ false 9 (zhd 27) [.ref 0, .int x5] _ _
  refine zSem.mono (zputS16 l Γ row4 x5) ?_
  rintro r h' ⟨rfl, row5, rfl⟩
  refine And.intro (zsvI (Eq.refl _) ?_) (by simp only [zsI_1, zrI_1] ; rfl)
  rw [zsI_at]
  decide +kernel
