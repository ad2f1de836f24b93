theorem zSemW.mono {l : Launch} {Γ : zG} {al : Bool} {d : Nat} {args : List Value} {h : zH} {K K' : Option Value → zH → Prop} (hs : zSemW l Γ al d args h K) (hk : ∀ r h', K r h' → K' r h') : zSemW l Γ al d args h K' := by
  intro p e ha hc hcl s m args' below hf happ hP hK
  obtain ⟨k, o, h1, h2, h3, ⟨⟨⟨r, h', e1, e2, e3⟩, e4⟩, h5⟩⟩ := hs p e ha hc hcl s m args' below hf happ hP hK
  exact ⟨k, o, h1, h2, h3, ⟨⟨r, h', e1, hk r h' e2, e3⟩, e4⟩, h5⟩
theorem zcmp (a : Int64) : lg_cmp a a = Int32.ofInt 0 := by
  have h : ¬ a < a := Int64.lt_irrefl
  simp [lg_cmp, h]
  try decide
