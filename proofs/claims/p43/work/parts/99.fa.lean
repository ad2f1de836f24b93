/-! the law: what stands at its loop's head -/
theorem zSemW.mono {l : Launch} {Γ : zG} {al : Bool} {d : Nat} {args : List Value} {h : zH} {K K' : Option Value → zH → Prop} (hs : zSemW l Γ al d args h K) (hk : ∀ r h', K r h' → K' r h') : zSemW l Γ al d args h K' := by
  intro p e ha hc hcl s m args' below hf happ hP hK
  obtain ⟨k, o, h1, h2, h3, ⟨⟨⟨r, h', e1, e2, e3⟩, e4⟩, h5⟩⟩ := hs p e ha hc hcl s m args' below hf happ hP hK
  exact ⟨k, o, h1, h2, h3, ⟨⟨r, h', e1, hk r h' e2, e3⟩, e4⟩, h5⟩
def zOK (k : Nat) (f1 f2 : zH) : Prop := ∃ A : zGb, zGC A f1 ∧ zGM A f2 ∧ zGB (400000 * (k : Int)) A
theorem zOK.le {k : Nat} {f1 f2 : zH} (h : zOK k f1 f2) : zOK (k + 1) f1 f2 := by
  obtain ⟨A, a, b, c⟩ := h
  exact ⟨A, a, b, c.le (by omega)⟩
def zIx (L : Nat) (i : Int32) (j : Int) : Prop := ¬ (i + Int32.ofInt j < 0 ∨ L ≤ (i + Int32.ofInt j).toNatClampNeg)
def zNx (l : Launch) (Γ : zG) (i : Int32) (cs ss k : Nat) : Prop := ∀ f1 f2 u cs' ss', zOK (k + 1) f1 f2 → cs' ≤ cs + 1 → ss' ≤ ss + 6 → zX l Γ false 11 zhL (zQL Γ) cs' ss' 23 [(4, .int (i + Int32.ofInt 6)), (3, .ref 142), (2, .ref 98), (1, .ref 0), (0, .retAddr 10)] [] (zW f1 f2 u)
