theorem zcv_out {Γ : zG} (ho : ∀ j, Γ.2.2.2.1 j = .null ∨ ∃ a, Γ.2.2.2.1 j = .ref a) (x : Nat) : (∃ a, zcv Γ (.retAddr x) = .ref a) ∨ zcv Γ (.retAddr x) = .null := by
  rcases ho x with h | h
  · exact Or.inr h
  · exact Or.inl h
section ZI
variable {ρ : Type} {bad : ρ} {tr : ρ → Prop} {l : Launch} {Γ : zG} {al : Bool} {d : Nat} {M : zHd} {G : Nat → List Value → zH → (Option Value → zH → ρ) → ρ} {K : Option Value → zH → ρ} {QF : List Frame → Array Value → State → State → Prop} {sc : Option (Nat × (Nat → Int32))} {C : Nat → Nat → Nat → zL → List Value → zH → ρ}
  {cs ss pc len : Nat} {lo : zL} {st : List Value} {h : zH} {ex : List Nat}

theorem zi_iconst {n : Int} (hbad : ¬ tr bad) (hC : ∀ cs ss pc lo st h, tr (C cs ss pc lo st h) → zX l Γ al (d + 1) M QF cs ss pc lo st h) (hd : decode M.2.1 pc = .ok (.iconst n, len)) (hl : zlkB M.1.cls M.1.name pc (.iconst n) len ex = true) (ht : tr (zins bad M al sc G K C cs ss pc lo st h ex (.iconst n))) : zX l Γ al (d + 1) M QF cs ss pc lo st h := by
  intro hcs hss p e s m args below meth c hctx H locs ls hlv hrep hS
  obtain ⟨hx, hb, hml, hr, hown, hlk, hnm, hev⟩ := id hctx
  obtain ⟨hTb, hKn, hbs, ho, hstr, hz1, hz2, hscr, hthr⟩ := id hev
  have e : len = 1 := by simpa [zlkB] using hl
  subst e
  exact lv_iconst hx hb hd rfl (hC _ _ _ _ _ _ ht hcs hss p e s m args below meth c hctx H locs ls hlv hrep hS)
theorem zi_bipush {n : Int} (hbad : ¬ tr bad) (hC : ∀ cs ss pc lo st h, tr (C cs ss pc lo st h) → zX l Γ al (d + 1) M QF cs ss pc lo st h) (hd : decode M.2.1 pc = .ok (.bipush n, len)) (hl : zlkB M.1.cls M.1.name pc (.bipush n) len ex = true) (ht : tr (zins bad M al sc G K C cs ss pc lo st h ex (.bipush n))) : zX l Γ al (d + 1) M QF cs ss pc lo st h := by
  intro hcs hss p e s m args below meth c hctx H locs ls hlv hrep hS
  obtain ⟨hx, hb, hml, hr, hown, hlk, hnm, hev⟩ := id hctx
  obtain ⟨hTb, hKn, hbs, ho, hstr, hz1, hz2, hscr, hthr⟩ := id hev
  have e : len = 2 := by simpa [zlkB] using hl
  subst e
  exact lv_bipush hx hb hd rfl (hC _ _ _ _ _ _ ht hcs hss p e s m args below meth c hctx H locs ls hlv hrep hS)
theorem zi_sipush {n : Int} (hbad : ¬ tr bad) (hC : ∀ cs ss pc lo st h, tr (C cs ss pc lo st h) → zX l Γ al (d + 1) M QF cs ss pc lo st h) (hd : decode M.2.1 pc = .ok (.sipush n, len)) (hl : zlkB M.1.cls M.1.name pc (.sipush n) len ex = true) (ht : tr (zins bad M al sc G K C cs ss pc lo st h ex (.sipush n))) : zX l Γ al (d + 1) M QF cs ss pc lo st h := by
  intro hcs hss p e s m args below meth c hctx H locs ls hlv hrep hS
  obtain ⟨hx, hb, hml, hr, hown, hlk, hnm, hev⟩ := id hctx
  obtain ⟨hTb, hKn, hbs, ho, hstr, hz1, hz2, hscr, hthr⟩ := id hev
  have e : len = 3 := by simpa [zlkB] using hl
  subst e
  exact lv_sipush hx hb hd rfl (hC _ _ _ _ _ _ ht hcs hss p e s m args below meth c hctx H locs ls hlv hrep hS)
theorem zi_lconst {n : Fin 2} (hbad : ¬ tr bad) (hC : ∀ cs ss pc lo st h, tr (C cs ss pc lo st h) → zX l Γ al (d + 1) M QF cs ss pc lo st h) (hd : decode M.2.1 pc = .ok (.lconst n, len)) (hl : zlkB M.1.cls M.1.name pc (.lconst n) len ex = true) (ht : tr (zins bad M al sc G K C cs ss pc lo st h ex (.lconst n))) : zX l Γ al (d + 1) M QF cs ss pc lo st h := by
  intro hcs hss p e s m args below meth c hctx H locs ls hlv hrep hS
  obtain ⟨hx, hb, hml, hr, hown, hlk, hnm, hev⟩ := id hctx
  obtain ⟨hTb, hKn, hbs, ho, hstr, hz1, hz2, hscr, hthr⟩ := id hev
  have e : len = 1 := by simpa [zlkB] using hl
  subst e
  exact lv_lconst hx hb hd rfl (hC _ _ _ _ _ _ ht hcs hss p e s m args below meth c hctx H locs ls hlv hrep hS)
theorem zi_iload {j : Nat} (hbad : ¬ tr bad) (hC : ∀ cs ss pc lo st h, tr (C cs ss pc lo st h) → zX l Γ al (d + 1) M QF cs ss pc lo st h) (hd : decode M.2.1 pc = .ok (.iload j, len)) (hl : zlkB M.1.cls M.1.name pc (.iload j) len ex = true) (ht : tr (zins bad M al sc G K C cs ss pc lo st h ex (.iload j))) : zX l Γ al (d + 1) M QF cs ss pc lo st h := by
  intro hcs hss p e s m args below meth c hctx H locs ls hlv hrep hS
  obtain ⟨hx, hb, hml, hr, hown, hlk, hnm, hev⟩ := id hctx
  obtain ⟨hTb, hKn, hbs, ho, hstr, hz1, hz2, hscr, hthr⟩ := id hev
  have e : len = 2 := by simpa [zlkB] using hl
  subst e
  simp only [zins] at ht
  split at ht
  · rename_i x hg
    exact lv_iload hx hb hd (zlv_at hlv hg) (hC _ _ _ _ _ _ ht hcs hss p e s m args below meth c hctx H locs ls hlv hrep hS)
  · exact absurd ht hbad
theorem zi_iload_n {j : Fin 4} (hbad : ¬ tr bad) (hC : ∀ cs ss pc lo st h, tr (C cs ss pc lo st h) → zX l Γ al (d + 1) M QF cs ss pc lo st h) (hd : decode M.2.1 pc = .ok (.iload_n j, len)) (hl : zlkB M.1.cls M.1.name pc (.iload_n j) len ex = true) (ht : tr (zins bad M al sc G K C cs ss pc lo st h ex (.iload_n j))) : zX l Γ al (d + 1) M QF cs ss pc lo st h := by
  intro hcs hss p e s m args below meth c hctx H locs ls hlv hrep hS
  obtain ⟨hx, hb, hml, hr, hown, hlk, hnm, hev⟩ := id hctx
  obtain ⟨hTb, hKn, hbs, ho, hstr, hz1, hz2, hscr, hthr⟩ := id hev
  have e : len = 1 := by simpa [zlkB] using hl
  subst e
  simp only [zins] at ht
  split at ht
  · rename_i x hg
    exact lv_iload_n hx hb hd rfl (zlv_at hlv hg) (hC _ _ _ _ _ _ ht hcs hss p e s m args below meth c hctx H locs ls hlv hrep hS)
  · exact absurd ht hbad
theorem zi_lload {j : Nat} (hbad : ¬ tr bad) (hC : ∀ cs ss pc lo st h, tr (C cs ss pc lo st h) → zX l Γ al (d + 1) M QF cs ss pc lo st h) (hd : decode M.2.1 pc = .ok (.lload j, len)) (hl : zlkB M.1.cls M.1.name pc (.lload j) len ex = true) (ht : tr (zins bad M al sc G K C cs ss pc lo st h ex (.lload j))) : zX l Γ al (d + 1) M QF cs ss pc lo st h := by
  intro hcs hss p e s m args below meth c hctx H locs ls hlv hrep hS
  obtain ⟨hx, hb, hml, hr, hown, hlk, hnm, hev⟩ := id hctx
  obtain ⟨hTb, hKn, hbs, ho, hstr, hz1, hz2, hscr, hthr⟩ := id hev
  have e : len = 2 := by simpa [zlkB] using hl
  subst e
  simp only [zins] at ht
  split at ht
  · rename_i x hg
    exact lv_lload hx hb hd (zlv_at hlv hg) (hC _ _ _ _ _ _ ht hcs hss p e s m args below meth c hctx H locs ls hlv hrep hS)
  · exact absurd ht hbad
theorem zi_lload_n {j : Fin 4} (hbad : ¬ tr bad) (hC : ∀ cs ss pc lo st h, tr (C cs ss pc lo st h) → zX l Γ al (d + 1) M QF cs ss pc lo st h) (hd : decode M.2.1 pc = .ok (.lload_n j, len)) (hl : zlkB M.1.cls M.1.name pc (.lload_n j) len ex = true) (ht : tr (zins bad M al sc G K C cs ss pc lo st h ex (.lload_n j))) : zX l Γ al (d + 1) M QF cs ss pc lo st h := by
  intro hcs hss p e s m args below meth c hctx H locs ls hlv hrep hS
  obtain ⟨hx, hb, hml, hr, hown, hlk, hnm, hev⟩ := id hctx
  obtain ⟨hTb, hKn, hbs, ho, hstr, hz1, hz2, hscr, hthr⟩ := id hev
  have e : len = 1 := by simpa [zlkB] using hl
  subst e
  simp only [zins] at ht
  split at ht
  · rename_i x hg
    exact lv_lload_n hx hb hd rfl (zlv_at hlv hg) (hC _ _ _ _ _ _ ht hcs hss p e s m args below meth c hctx H locs ls hlv hrep hS)
  · exact absurd ht hbad
theorem zi_aload {j : Nat} (hbad : ¬ tr bad) (hC : ∀ cs ss pc lo st h, tr (C cs ss pc lo st h) → zX l Γ al (d + 1) M QF cs ss pc lo st h) (hd : decode M.2.1 pc = .ok (.aload j, len)) (hl : zlkB M.1.cls M.1.name pc (.aload j) len ex = true) (ht : tr (zins bad M al sc G K C cs ss pc lo st h ex (.aload j))) : zX l Γ al (d + 1) M QF cs ss pc lo st h := by
  intro hcs hss p e s m args below meth c hctx H locs ls hlv hrep hS
  obtain ⟨hx, hb, hml, hr, hown, hlk, hnm, hev⟩ := id hctx
  obtain ⟨hTb, hKn, hbs, ho, hstr, hz1, hz2, hscr, hthr⟩ := id hev
  have e : len = 2 := by simpa [zlkB] using hl
  subst e
  simp only [zins] at ht
  split at ht
  · rename_i x hg
    exact lv_aload hx hb hd (zlv_at hlv hg) (hC _ _ _ _ _ _ ht hcs hss p e s m args below meth c hctx H locs ls hlv hrep hS)
  · rename_i x hg
    have h1 := zlv_at hlv hg
    have k := hC _ _ _ _ _ _ ht hcs hss p e s m args below meth c hctx H locs ls hlv hrep hS
    rw [List.map_cons] at k
    have hc : (∃ a, zcv Γ (.retAddr x) = .ref a) ∨ zcv Γ (.retAddr x) = .null := zcv_out ho x
    generalize zcv Γ (.retAddr x) = v at h1 k hc
    rcases hc with ⟨a, rfl⟩ | rfl
    · exact lv_aload hx hb hd h1 k
    · exact lv_aloadN hx hb hd h1 k
  · exact absurd ht hbad
theorem zi_aload_n {j : Fin 4} (hbad : ¬ tr bad) (hC : ∀ cs ss pc lo st h, tr (C cs ss pc lo st h) → zX l Γ al (d + 1) M QF cs ss pc lo st h) (hd : decode M.2.1 pc = .ok (.aload_n j, len)) (hl : zlkB M.1.cls M.1.name pc (.aload_n j) len ex = true) (ht : tr (zins bad M al sc G K C cs ss pc lo st h ex (.aload_n j))) : zX l Γ al (d + 1) M QF cs ss pc lo st h := by
  intro hcs hss p e s m args below meth c hctx H locs ls hlv hrep hS
  obtain ⟨hx, hb, hml, hr, hown, hlk, hnm, hev⟩ := id hctx
  obtain ⟨hTb, hKn, hbs, ho, hstr, hz1, hz2, hscr, hthr⟩ := id hev
  have e : len = 1 := by simpa [zlkB] using hl
  subst e
  simp only [zins] at ht
  split at ht
  · rename_i x hg
    exact lv_aload_n hx hb hd rfl (zlv_at hlv hg) (hC _ _ _ _ _ _ ht hcs hss p e s m args below meth c hctx H locs ls hlv hrep hS)
  · rename_i x hg
    have h1 := zlv_at hlv hg
    have k := hC _ _ _ _ _ _ ht hcs hss p e s m args below meth c hctx H locs ls hlv hrep hS
    rw [List.map_cons] at k
    have hc : (∃ a, zcv Γ (.retAddr x) = .ref a) ∨ zcv Γ (.retAddr x) = .null := zcv_out ho x
    generalize zcv Γ (.retAddr x) = v at h1 k hc
    rcases hc with ⟨a, rfl⟩ | rfl
    · exact lv_aload_n hx hb hd rfl h1 k
    · exact lv_aload_nN hx hb hd rfl h1 k
  · exact absurd ht hbad
theorem zi_istore {j : Nat} (hbad : ¬ tr bad) (hC : ∀ cs ss pc lo st h, tr (C cs ss pc lo st h) → zX l Γ al (d + 1) M QF cs ss pc lo st h) (hd : decode M.2.1 pc = .ok (.istore j, len)) (hl : zlkB M.1.cls M.1.name pc (.istore j) len ex = true) (ht : tr (zins bad M al sc G K C cs ss pc lo st h ex (.istore j))) : zX l Γ al (d + 1) M QF cs ss pc lo st h := by
  intro hcs hss p e s m args below meth c hctx H locs ls hlv hrep hS
  obtain ⟨hx, hb, hml, hr, hown, hlk, hnm, hev⟩ := id hctx
  obtain ⟨hTb, hKn, hbs, ho, hstr, hz1, hz2, hscr, hthr⟩ := id hev
  have e : len = 2 := by simpa [zlkB] using hl
  subst e
  simp only [zins] at ht
  split at ht
  · rename_i x st'
    split at ht
    · rename_i hj
      exact lv_istore hx hb hd hlv hj (zlv_set ho lo _ (.int x)) (fun ls hlv => hC _ _ _ _ _ _ ht hcs hss p e s m args below meth c hctx H locs ls hlv hrep hS)
    · exact absurd ht hbad
  · exact absurd ht hbad
theorem zi_istore_n {j : Fin 4} (hbad : ¬ tr bad) (hC : ∀ cs ss pc lo st h, tr (C cs ss pc lo st h) → zX l Γ al (d + 1) M QF cs ss pc lo st h) (hd : decode M.2.1 pc = .ok (.istore_n j, len)) (hl : zlkB M.1.cls M.1.name pc (.istore_n j) len ex = true) (ht : tr (zins bad M al sc G K C cs ss pc lo st h ex (.istore_n j))) : zX l Γ al (d + 1) M QF cs ss pc lo st h := by
  intro hcs hss p e s m args below meth c hctx H locs ls hlv hrep hS
  obtain ⟨hx, hb, hml, hr, hown, hlk, hnm, hev⟩ := id hctx
  obtain ⟨hTb, hKn, hbs, ho, hstr, hz1, hz2, hscr, hthr⟩ := id hev
  have e : len = 1 := by simpa [zlkB] using hl
  subst e
  simp only [zins] at ht
  split at ht
  · rename_i x st'
    split at ht
    · rename_i hj
      exact lv_istore_n hx hb hd rfl hlv hj (zlv_set ho lo _ (.int x)) (fun ls hlv => hC _ _ _ _ _ _ ht hcs hss p e s m args below meth c hctx H locs ls hlv hrep hS)
    · exact absurd ht hbad
  · exact absurd ht hbad
theorem zi_lstore {j : Nat} (hbad : ¬ tr bad) (hC : ∀ cs ss pc lo st h, tr (C cs ss pc lo st h) → zX l Γ al (d + 1) M QF cs ss pc lo st h) (hd : decode M.2.1 pc = .ok (.lstore j, len)) (hl : zlkB M.1.cls M.1.name pc (.lstore j) len ex = true) (ht : tr (zins bad M al sc G K C cs ss pc lo st h ex (.lstore j))) : zX l Γ al (d + 1) M QF cs ss pc lo st h := by
  intro hcs hss p e s m args below meth c hctx H locs ls hlv hrep hS
  obtain ⟨hx, hb, hml, hr, hown, hlk, hnm, hev⟩ := id hctx
  obtain ⟨hTb, hKn, hbs, ho, hstr, hz1, hz2, hscr, hthr⟩ := id hev
  have e : len = 2 := by simpa [zlkB] using hl
  subst e
  simp only [zins] at ht
  split at ht
  · rename_i x st'
    split at ht
    · rename_i hj
      exact lv_lstore hx hb hd hlv hj (zlv_set2 ho lo _ (.long x)) (fun ls hlv => hC _ _ _ _ _ _ ht hcs hss p e s m args below meth c hctx H locs ls hlv hrep hS)
    · exact absurd ht hbad
  · exact absurd ht hbad
theorem zi_lstore_n {j : Fin 4} (hbad : ¬ tr bad) (hC : ∀ cs ss pc lo st h, tr (C cs ss pc lo st h) → zX l Γ al (d + 1) M QF cs ss pc lo st h) (hd : decode M.2.1 pc = .ok (.lstore_n j, len)) (hl : zlkB M.1.cls M.1.name pc (.lstore_n j) len ex = true) (ht : tr (zins bad M al sc G K C cs ss pc lo st h ex (.lstore_n j))) : zX l Γ al (d + 1) M QF cs ss pc lo st h := by
  intro hcs hss p e s m args below meth c hctx H locs ls hlv hrep hS
  obtain ⟨hx, hb, hml, hr, hown, hlk, hnm, hev⟩ := id hctx
  obtain ⟨hTb, hKn, hbs, ho, hstr, hz1, hz2, hscr, hthr⟩ := id hev
  have e : len = 1 := by simpa [zlkB] using hl
  subst e
  simp only [zins] at ht
  split at ht
  · rename_i x st'
    split at ht
    · rename_i hj
      exact lv_lstore_n hx hb hd rfl hlv hj (zlv_set2 ho lo _ (.long x)) (fun ls hlv => hC _ _ _ _ _ _ ht hcs hss p e s m args below meth c hctx H locs ls hlv hrep hS)
    · exact absurd ht hbad
  · exact absurd ht hbad
theorem zi_astore {j : Nat} (hbad : ¬ tr bad) (hC : ∀ cs ss pc lo st h, tr (C cs ss pc lo st h) → zX l Γ al (d + 1) M QF cs ss pc lo st h) (hd : decode M.2.1 pc = .ok (.astore j, len)) (hl : zlkB M.1.cls M.1.name pc (.astore j) len ex = true) (ht : tr (zins bad M al sc G K C cs ss pc lo st h ex (.astore j))) : zX l Γ al (d + 1) M QF cs ss pc lo st h := by
  intro hcs hss p e s m args below meth c hctx H locs ls hlv hrep hS
  obtain ⟨hx, hb, hml, hr, hown, hlk, hnm, hev⟩ := id hctx
  obtain ⟨hTb, hKn, hbs, ho, hstr, hz1, hz2, hscr, hthr⟩ := id hev
  have e : len = 2 := by simpa [zlkB] using hl
  subst e
  simp only [zins] at ht
  split at ht
  · rename_i x st'
    split at ht
    · rename_i hj
      exact lv_astore hx hb hd hlv hj (zlv_set ho lo _ (.ref x)) (fun ls hlv => hC _ _ _ _ _ _ ht hcs hss p e s m args below meth c hctx H locs ls hlv hrep hS)
    · exact absurd ht hbad
  · rename_i x st'
    split at ht
    · rename_i hj
      have k : ∀ ls : Array Slot, lv_has ls M.2.2.1 (zlv Γ (zset lo j (.retAddr x))) → _ := (fun ls hlv => hC _ _ _ _ _ _ ht hcs hss p e s m args below meth c hctx H locs ls hlv hrep hS)
      have h1 := zlv_set (Γ := Γ) ho lo j (.retAddr x)
      rw [List.map_cons]
      have hc : (∃ a, zcv Γ (.retAddr x) = .ref a) ∨ zcv Γ (.retAddr x) = .null := zcv_out ho x
      generalize zcv Γ (.retAddr x) = v at h1 hc
      rcases hc with ⟨a, rfl⟩ | rfl
      · exact lv_astore hx hb hd hlv hj h1 k
      · exact lv_astoreN hx hb hd hlv hj h1 k
    · exact absurd ht hbad
  · exact absurd ht hbad
theorem zi_astore_n {j : Fin 4} (hbad : ¬ tr bad) (hC : ∀ cs ss pc lo st h, tr (C cs ss pc lo st h) → zX l Γ al (d + 1) M QF cs ss pc lo st h) (hd : decode M.2.1 pc = .ok (.astore_n j, len)) (hl : zlkB M.1.cls M.1.name pc (.astore_n j) len ex = true) (ht : tr (zins bad M al sc G K C cs ss pc lo st h ex (.astore_n j))) : zX l Γ al (d + 1) M QF cs ss pc lo st h := by
  intro hcs hss p e s m args below meth c hctx H locs ls hlv hrep hS
  obtain ⟨hx, hb, hml, hr, hown, hlk, hnm, hev⟩ := id hctx
  obtain ⟨hTb, hKn, hbs, ho, hstr, hz1, hz2, hscr, hthr⟩ := id hev
  have e : len = 1 := by simpa [zlkB] using hl
  subst e
  simp only [zins] at ht
  split at ht
  · rename_i x st'
    split at ht
    · rename_i hj
      exact lv_astore_n hx hb hd rfl hlv hj (zlv_set ho lo _ (.ref x)) (fun ls hlv => hC _ _ _ _ _ _ ht hcs hss p e s m args below meth c hctx H locs ls hlv hrep hS)
    · exact absurd ht hbad
  · rename_i x st'
    split at ht
    · rename_i hj
      have k : ∀ ls : Array Slot, lv_has ls M.2.2.1 (zlv Γ (zset lo j (.retAddr x))) → _ := (fun ls hlv => hC _ _ _ _ _ _ ht hcs hss p e s m args below meth c hctx H locs ls hlv hrep hS)
      have h1 := zlv_set (Γ := Γ) ho lo j (.retAddr x)
      rw [List.map_cons]
      have hc : (∃ a, zcv Γ (.retAddr x) = .ref a) ∨ zcv Γ (.retAddr x) = .null := zcv_out ho x
      generalize zcv Γ (.retAddr x) = v at h1 hc
      rcases hc with ⟨a, rfl⟩ | rfl
      · exact lv_astore_n hx hb hd rfl hlv hj h1 k
      · exact lv_astore_nN hx hb hd rfl hlv hj h1 k
    · exact absurd ht hbad
  · exact absurd ht hbad
theorem zi_iinc {j : Nat} {n : Int} (hbad : ¬ tr bad) (hC : ∀ cs ss pc lo st h, tr (C cs ss pc lo st h) → zX l Γ al (d + 1) M QF cs ss pc lo st h) (hd : decode M.2.1 pc = .ok (.iinc j n, len)) (hl : zlkB M.1.cls M.1.name pc (.iinc j n) len ex = true) (ht : tr (zins bad M al sc G K C cs ss pc lo st h ex (.iinc j n))) : zX l Γ al (d + 1) M QF cs ss pc lo st h := by
  intro hcs hss p e s m args below meth c hctx H locs ls hlv hrep hS
  obtain ⟨hx, hb, hml, hr, hown, hlk, hnm, hev⟩ := id hctx
  obtain ⟨hTb, hKn, hbs, ho, hstr, hz1, hz2, hscr, hthr⟩ := id hev
  have e : len = 3 := by simpa [zlkB] using hl
  subst e
  simp only [zins] at ht
  split at ht
  · rename_i x hg
    split at ht
    · rename_i hj
      obtain ⟨k, hk⟩ := zlv_ix (Γ := Γ) hg
      exact lv_iinc hx hb hd hlv hk rfl hj (zlv_set ho lo j (.int (x + Int32.ofInt n))) (fun ls hlv => hC _ _ _ _ _ _ ht hcs hss p e s m args below meth c hctx H locs ls hlv hrep hS)
    · exact absurd ht hbad
  · exact absurd ht hbad
theorem zi_iadd (hbad : ¬ tr bad) (hC : ∀ cs ss pc lo st h, tr (C cs ss pc lo st h) → zX l Γ al (d + 1) M QF cs ss pc lo st h) (hd : decode M.2.1 pc = .ok (.iadd, len)) (hl : zlkB M.1.cls M.1.name pc (.iadd) len ex = true) (ht : tr (zins bad M al sc G K C cs ss pc lo st h ex (.iadd))) : zX l Γ al (d + 1) M QF cs ss pc lo st h := by
  intro hcs hss p e s m args below meth c hctx H locs ls hlv hrep hS
  obtain ⟨hx, hb, hml, hr, hown, hlk, hnm, hev⟩ := id hctx
  obtain ⟨hTb, hKn, hbs, ho, hstr, hz1, hz2, hscr, hthr⟩ := id hev
  have e : len = 1 := by simpa [zlkB] using hl
  subst e
  simp only [zins] at ht
  split at ht
  · exact lv_iadd hx hb hd (hC _ _ _ _ _ _ ht hcs hss p e s m args below meth c hctx H locs ls hlv hrep hS)
  · exact absurd ht hbad
theorem zi_isub (hbad : ¬ tr bad) (hC : ∀ cs ss pc lo st h, tr (C cs ss pc lo st h) → zX l Γ al (d + 1) M QF cs ss pc lo st h) (hd : decode M.2.1 pc = .ok (.isub, len)) (hl : zlkB M.1.cls M.1.name pc (.isub) len ex = true) (ht : tr (zins bad M al sc G K C cs ss pc lo st h ex (.isub))) : zX l Γ al (d + 1) M QF cs ss pc lo st h := by
  intro hcs hss p e s m args below meth c hctx H locs ls hlv hrep hS
  obtain ⟨hx, hb, hml, hr, hown, hlk, hnm, hev⟩ := id hctx
  obtain ⟨hTb, hKn, hbs, ho, hstr, hz1, hz2, hscr, hthr⟩ := id hev
  have e : len = 1 := by simpa [zlkB] using hl
  subst e
  simp only [zins] at ht
  split at ht
  · exact lv_isub hx hb hd (hC _ _ _ _ _ _ ht hcs hss p e s m args below meth c hctx H locs ls hlv hrep hS)
  · exact absurd ht hbad
theorem zi_imul (hbad : ¬ tr bad) (hC : ∀ cs ss pc lo st h, tr (C cs ss pc lo st h) → zX l Γ al (d + 1) M QF cs ss pc lo st h) (hd : decode M.2.1 pc = .ok (.imul, len)) (hl : zlkB M.1.cls M.1.name pc (.imul) len ex = true) (ht : tr (zins bad M al sc G K C cs ss pc lo st h ex (.imul))) : zX l Γ al (d + 1) M QF cs ss pc lo st h := by
  intro hcs hss p e s m args below meth c hctx H locs ls hlv hrep hS
  obtain ⟨hx, hb, hml, hr, hown, hlk, hnm, hev⟩ := id hctx
  obtain ⟨hTb, hKn, hbs, ho, hstr, hz1, hz2, hscr, hthr⟩ := id hev
  have e : len = 1 := by simpa [zlkB] using hl
  subst e
  simp only [zins] at ht
  split at ht
  · exact lv_imul hx hb hd (hC _ _ _ _ _ _ ht hcs hss p e s m args below meth c hctx H locs ls hlv hrep hS)
  · exact absurd ht hbad
theorem zi_iand (hbad : ¬ tr bad) (hC : ∀ cs ss pc lo st h, tr (C cs ss pc lo st h) → zX l Γ al (d + 1) M QF cs ss pc lo st h) (hd : decode M.2.1 pc = .ok (.iand, len)) (hl : zlkB M.1.cls M.1.name pc (.iand) len ex = true) (ht : tr (zins bad M al sc G K C cs ss pc lo st h ex (.iand))) : zX l Γ al (d + 1) M QF cs ss pc lo st h := by
  intro hcs hss p e s m args below meth c hctx H locs ls hlv hrep hS
  obtain ⟨hx, hb, hml, hr, hown, hlk, hnm, hev⟩ := id hctx
  obtain ⟨hTb, hKn, hbs, ho, hstr, hz1, hz2, hscr, hthr⟩ := id hev
  have e : len = 1 := by simpa [zlkB] using hl
  subst e
  simp only [zins] at ht
  split at ht
  · exact lv_iand hx hb hd (hC _ _ _ _ _ _ ht hcs hss p e s m args below meth c hctx H locs ls hlv hrep hS)
  · exact absurd ht hbad
theorem zi_ior (hbad : ¬ tr bad) (hC : ∀ cs ss pc lo st h, tr (C cs ss pc lo st h) → zX l Γ al (d + 1) M QF cs ss pc lo st h) (hd : decode M.2.1 pc = .ok (.ior, len)) (hl : zlkB M.1.cls M.1.name pc (.ior) len ex = true) (ht : tr (zins bad M al sc G K C cs ss pc lo st h ex (.ior))) : zX l Γ al (d + 1) M QF cs ss pc lo st h := by
  intro hcs hss p e s m args below meth c hctx H locs ls hlv hrep hS
  obtain ⟨hx, hb, hml, hr, hown, hlk, hnm, hev⟩ := id hctx
  obtain ⟨hTb, hKn, hbs, ho, hstr, hz1, hz2, hscr, hthr⟩ := id hev
  have e : len = 1 := by simpa [zlkB] using hl
  subst e
  simp only [zins] at ht
  split at ht
  · exact lv_ior hx hb hd (hC _ _ _ _ _ _ ht hcs hss p e s m args below meth c hctx H locs ls hlv hrep hS)
  · exact absurd ht hbad
theorem zi_ixor (hbad : ¬ tr bad) (hC : ∀ cs ss pc lo st h, tr (C cs ss pc lo st h) → zX l Γ al (d + 1) M QF cs ss pc lo st h) (hd : decode M.2.1 pc = .ok (.ixor, len)) (hl : zlkB M.1.cls M.1.name pc (.ixor) len ex = true) (ht : tr (zins bad M al sc G K C cs ss pc lo st h ex (.ixor))) : zX l Γ al (d + 1) M QF cs ss pc lo st h := by
  intro hcs hss p e s m args below meth c hctx H locs ls hlv hrep hS
  obtain ⟨hx, hb, hml, hr, hown, hlk, hnm, hev⟩ := id hctx
  obtain ⟨hTb, hKn, hbs, ho, hstr, hz1, hz2, hscr, hthr⟩ := id hev
  have e : len = 1 := by simpa [zlkB] using hl
  subst e
  simp only [zins] at ht
  split at ht
  · exact lv_ixor hx hb hd (hC _ _ _ _ _ _ ht hcs hss p e s m args below meth c hctx H locs ls hlv hrep hS)
  · exact absurd ht hbad
theorem zi_ineg (hbad : ¬ tr bad) (hC : ∀ cs ss pc lo st h, tr (C cs ss pc lo st h) → zX l Γ al (d + 1) M QF cs ss pc lo st h) (hd : decode M.2.1 pc = .ok (.ineg, len)) (hl : zlkB M.1.cls M.1.name pc (.ineg) len ex = true) (ht : tr (zins bad M al sc G K C cs ss pc lo st h ex (.ineg))) : zX l Γ al (d + 1) M QF cs ss pc lo st h := by
  intro hcs hss p e s m args below meth c hctx H locs ls hlv hrep hS
  obtain ⟨hx, hb, hml, hr, hown, hlk, hnm, hev⟩ := id hctx
  obtain ⟨hTb, hKn, hbs, ho, hstr, hz1, hz2, hscr, hthr⟩ := id hev
  have e : len = 1 := by simpa [zlkB] using hl
  subst e
  simp only [zins] at ht
  split at ht
  · exact lv_ineg hx hb hd (hC _ _ _ _ _ _ ht hcs hss p e s m args below meth c hctx H locs ls hlv hrep hS)
  · exact absurd ht hbad
theorem zi_ishl (hbad : ¬ tr bad) (hC : ∀ cs ss pc lo st h, tr (C cs ss pc lo st h) → zX l Γ al (d + 1) M QF cs ss pc lo st h) (hd : decode M.2.1 pc = .ok (.ishl, len)) (hl : zlkB M.1.cls M.1.name pc (.ishl) len ex = true) (ht : tr (zins bad M al sc G K C cs ss pc lo st h ex (.ishl))) : zX l Γ al (d + 1) M QF cs ss pc lo st h := by
  intro hcs hss p e s m args below meth c hctx H locs ls hlv hrep hS
  obtain ⟨hx, hb, hml, hr, hown, hlk, hnm, hev⟩ := id hctx
  obtain ⟨hTb, hKn, hbs, ho, hstr, hz1, hz2, hscr, hthr⟩ := id hev
  have e : len = 1 := by simpa [zlkB] using hl
  subst e
  simp only [zins] at ht
  split at ht
  · exact lv_ishl hx hb hd (hC _ _ _ _ _ _ ht hcs hss p e s m args below meth c hctx H locs ls hlv hrep hS)
  · exact absurd ht hbad
theorem zi_ishr (hbad : ¬ tr bad) (hC : ∀ cs ss pc lo st h, tr (C cs ss pc lo st h) → zX l Γ al (d + 1) M QF cs ss pc lo st h) (hd : decode M.2.1 pc = .ok (.ishr, len)) (hl : zlkB M.1.cls M.1.name pc (.ishr) len ex = true) (ht : tr (zins bad M al sc G K C cs ss pc lo st h ex (.ishr))) : zX l Γ al (d + 1) M QF cs ss pc lo st h := by
  intro hcs hss p e s m args below meth c hctx H locs ls hlv hrep hS
  obtain ⟨hx, hb, hml, hr, hown, hlk, hnm, hev⟩ := id hctx
  obtain ⟨hTb, hKn, hbs, ho, hstr, hz1, hz2, hscr, hthr⟩ := id hev
  have e : len = 1 := by simpa [zlkB] using hl
  subst e
  simp only [zins] at ht
  split at ht
  · exact lv_ishr hx hb hd (hC _ _ _ _ _ _ ht hcs hss p e s m args below meth c hctx H locs ls hlv hrep hS)
  · exact absurd ht hbad
theorem zi_ladd (hbad : ¬ tr bad) (hC : ∀ cs ss pc lo st h, tr (C cs ss pc lo st h) → zX l Γ al (d + 1) M QF cs ss pc lo st h) (hd : decode M.2.1 pc = .ok (.ladd, len)) (hl : zlkB M.1.cls M.1.name pc (.ladd) len ex = true) (ht : tr (zins bad M al sc G K C cs ss pc lo st h ex (.ladd))) : zX l Γ al (d + 1) M QF cs ss pc lo st h := by
  intro hcs hss p e s m args below meth c hctx H locs ls hlv hrep hS
  obtain ⟨hx, hb, hml, hr, hown, hlk, hnm, hev⟩ := id hctx
  obtain ⟨hTb, hKn, hbs, ho, hstr, hz1, hz2, hscr, hthr⟩ := id hev
  have e : len = 1 := by simpa [zlkB] using hl
  subst e
  simp only [zins] at ht
  split at ht
  · exact lv_ladd hx hb hd (hC _ _ _ _ _ _ ht hcs hss p e s m args below meth c hctx H locs ls hlv hrep hS)
  · exact absurd ht hbad
theorem zi_lsub (hbad : ¬ tr bad) (hC : ∀ cs ss pc lo st h, tr (C cs ss pc lo st h) → zX l Γ al (d + 1) M QF cs ss pc lo st h) (hd : decode M.2.1 pc = .ok (.lsub, len)) (hl : zlkB M.1.cls M.1.name pc (.lsub) len ex = true) (ht : tr (zins bad M al sc G K C cs ss pc lo st h ex (.lsub))) : zX l Γ al (d + 1) M QF cs ss pc lo st h := by
  intro hcs hss p e s m args below meth c hctx H locs ls hlv hrep hS
  obtain ⟨hx, hb, hml, hr, hown, hlk, hnm, hev⟩ := id hctx
  obtain ⟨hTb, hKn, hbs, ho, hstr, hz1, hz2, hscr, hthr⟩ := id hev
  have e : len = 1 := by simpa [zlkB] using hl
  subst e
  simp only [zins] at ht
  split at ht
  · exact lv_lsub hx hb hd (hC _ _ _ _ _ _ ht hcs hss p e s m args below meth c hctx H locs ls hlv hrep hS)
  · exact absurd ht hbad
theorem zi_lmul (hbad : ¬ tr bad) (hC : ∀ cs ss pc lo st h, tr (C cs ss pc lo st h) → zX l Γ al (d + 1) M QF cs ss pc lo st h) (hd : decode M.2.1 pc = .ok (.lmul, len)) (hl : zlkB M.1.cls M.1.name pc (.lmul) len ex = true) (ht : tr (zins bad M al sc G K C cs ss pc lo st h ex (.lmul))) : zX l Γ al (d + 1) M QF cs ss pc lo st h := by
  intro hcs hss p e s m args below meth c hctx H locs ls hlv hrep hS
  obtain ⟨hx, hb, hml, hr, hown, hlk, hnm, hev⟩ := id hctx
  obtain ⟨hTb, hKn, hbs, ho, hstr, hz1, hz2, hscr, hthr⟩ := id hev
  have e : len = 1 := by simpa [zlkB] using hl
  subst e
  simp only [zins] at ht
  split at ht
  · exact lv_lmul hx hb hd (hC _ _ _ _ _ _ ht hcs hss p e s m args below meth c hctx H locs ls hlv hrep hS)
  · exact absurd ht hbad
theorem zi_land (hbad : ¬ tr bad) (hC : ∀ cs ss pc lo st h, tr (C cs ss pc lo st h) → zX l Γ al (d + 1) M QF cs ss pc lo st h) (hd : decode M.2.1 pc = .ok (.land, len)) (hl : zlkB M.1.cls M.1.name pc (.land) len ex = true) (ht : tr (zins bad M al sc G K C cs ss pc lo st h ex (.land))) : zX l Γ al (d + 1) M QF cs ss pc lo st h := by
  intro hcs hss p e s m args below meth c hctx H locs ls hlv hrep hS
  obtain ⟨hx, hb, hml, hr, hown, hlk, hnm, hev⟩ := id hctx
  obtain ⟨hTb, hKn, hbs, ho, hstr, hz1, hz2, hscr, hthr⟩ := id hev
  have e : len = 1 := by simpa [zlkB] using hl
  subst e
  simp only [zins] at ht
  split at ht
  · exact lv_land hx hb hd (hC _ _ _ _ _ _ ht hcs hss p e s m args below meth c hctx H locs ls hlv hrep hS)
  · exact absurd ht hbad
theorem zi_lneg (hbad : ¬ tr bad) (hC : ∀ cs ss pc lo st h, tr (C cs ss pc lo st h) → zX l Γ al (d + 1) M QF cs ss pc lo st h) (hd : decode M.2.1 pc = .ok (.lneg, len)) (hl : zlkB M.1.cls M.1.name pc (.lneg) len ex = true) (ht : tr (zins bad M al sc G K C cs ss pc lo st h ex (.lneg))) : zX l Γ al (d + 1) M QF cs ss pc lo st h := by
  intro hcs hss p e s m args below meth c hctx H locs ls hlv hrep hS
  obtain ⟨hx, hb, hml, hr, hown, hlk, hnm, hev⟩ := id hctx
  obtain ⟨hTb, hKn, hbs, ho, hstr, hz1, hz2, hscr, hthr⟩ := id hev
  have e : len = 1 := by simpa [zlkB] using hl
  subst e
  simp only [zins] at ht
  split at ht
  · exact lv_lneg hx hb hd (hC _ _ _ _ _ _ ht hcs hss p e s m args below meth c hctx H locs ls hlv hrep hS)
  · exact absurd ht hbad
theorem zi_iushr (hbad : ¬ tr bad) (hC : ∀ cs ss pc lo st h, tr (C cs ss pc lo st h) → zX l Γ al (d + 1) M QF cs ss pc lo st h) (hd : decode M.2.1 pc = .ok (.iushr, len)) (hl : zlkB M.1.cls M.1.name pc (.iushr) len ex = true) (ht : tr (zins bad M al sc G K C cs ss pc lo st h ex (.iushr))) : zX l Γ al (d + 1) M QF cs ss pc lo st h := by
  intro hcs hss p e s m args below meth c hctx H locs ls hlv hrep hS
  obtain ⟨hx, hb, hml, hr, hown, hlk, hnm, hev⟩ := id hctx
  obtain ⟨hTb, hKn, hbs, ho, hstr, hz1, hz2, hscr, hthr⟩ := id hev
  have e : len = 1 := by simpa [zlkB] using hl
  subst e
  simp only [zins] at ht
  split at ht
  · exact lv_iushr hx hb hd rfl (hC _ _ _ _ _ _ ht hcs hss p e s m args below meth c hctx H locs ls hlv hrep hS)
  · exact absurd ht hbad
theorem zi_i2l (hbad : ¬ tr bad) (hC : ∀ cs ss pc lo st h, tr (C cs ss pc lo st h) → zX l Γ al (d + 1) M QF cs ss pc lo st h) (hd : decode M.2.1 pc = .ok (.i2l, len)) (hl : zlkB M.1.cls M.1.name pc (.i2l) len ex = true) (ht : tr (zins bad M al sc G K C cs ss pc lo st h ex (.i2l))) : zX l Γ al (d + 1) M QF cs ss pc lo st h := by
  intro hcs hss p e s m args below meth c hctx H locs ls hlv hrep hS
  obtain ⟨hx, hb, hml, hr, hown, hlk, hnm, hev⟩ := id hctx
  obtain ⟨hTb, hKn, hbs, ho, hstr, hz1, hz2, hscr, hthr⟩ := id hev
  have e : len = 1 := by simpa [zlkB] using hl
  subst e
  simp only [zins] at ht
  split at ht
  · exact lv_i2l hx hb hd rfl (hC _ _ _ _ _ _ ht hcs hss p e s m args below meth c hctx H locs ls hlv hrep hS)
  · exact absurd ht hbad
theorem zi_l2i (hbad : ¬ tr bad) (hC : ∀ cs ss pc lo st h, tr (C cs ss pc lo st h) → zX l Γ al (d + 1) M QF cs ss pc lo st h) (hd : decode M.2.1 pc = .ok (.l2i, len)) (hl : zlkB M.1.cls M.1.name pc (.l2i) len ex = true) (ht : tr (zins bad M al sc G K C cs ss pc lo st h ex (.l2i))) : zX l Γ al (d + 1) M QF cs ss pc lo st h := by
  intro hcs hss p e s m args below meth c hctx H locs ls hlv hrep hS
  obtain ⟨hx, hb, hml, hr, hown, hlk, hnm, hev⟩ := id hctx
  obtain ⟨hTb, hKn, hbs, ho, hstr, hz1, hz2, hscr, hthr⟩ := id hev
  have e : len = 1 := by simpa [zlkB] using hl
  subst e
  simp only [zins] at ht
  split at ht
  · exact lv_l2i hx hb hd rfl (hC _ _ _ _ _ _ ht hcs hss p e s m args below meth c hctx H locs ls hlv hrep hS)
  · exact absurd ht hbad
theorem zi_i2b (hbad : ¬ tr bad) (hC : ∀ cs ss pc lo st h, tr (C cs ss pc lo st h) → zX l Γ al (d + 1) M QF cs ss pc lo st h) (hd : decode M.2.1 pc = .ok (.i2b, len)) (hl : zlkB M.1.cls M.1.name pc (.i2b) len ex = true) (ht : tr (zins bad M al sc G K C cs ss pc lo st h ex (.i2b))) : zX l Γ al (d + 1) M QF cs ss pc lo st h := by
  intro hcs hss p e s m args below meth c hctx H locs ls hlv hrep hS
  obtain ⟨hx, hb, hml, hr, hown, hlk, hnm, hev⟩ := id hctx
  obtain ⟨hTb, hKn, hbs, ho, hstr, hz1, hz2, hscr, hthr⟩ := id hev
  have e : len = 1 := by simpa [zlkB] using hl
  subst e
  simp only [zins] at ht
  split at ht
  · exact lv_i2b hx hb hd rfl (hC _ _ _ _ _ _ ht hcs hss p e s m args below meth c hctx H locs ls hlv hrep hS)
  · exact absurd ht hbad
theorem zi_i2c (hbad : ¬ tr bad) (hC : ∀ cs ss pc lo st h, tr (C cs ss pc lo st h) → zX l Γ al (d + 1) M QF cs ss pc lo st h) (hd : decode M.2.1 pc = .ok (.i2c, len)) (hl : zlkB M.1.cls M.1.name pc (.i2c) len ex = true) (ht : tr (zins bad M al sc G K C cs ss pc lo st h ex (.i2c))) : zX l Γ al (d + 1) M QF cs ss pc lo st h := by
  intro hcs hss p e s m args below meth c hctx H locs ls hlv hrep hS
  obtain ⟨hx, hb, hml, hr, hown, hlk, hnm, hev⟩ := id hctx
  obtain ⟨hTb, hKn, hbs, ho, hstr, hz1, hz2, hscr, hthr⟩ := id hev
  have e : len = 1 := by simpa [zlkB] using hl
  subst e
  simp only [zins] at ht
  split at ht
  · exact lv_i2c hx hb hd rfl (hC _ _ _ _ _ _ ht hcs hss p e s m args below meth c hctx H locs ls hlv hrep hS)
  · exact absurd ht hbad
theorem zi_lcmp (hbad : ¬ tr bad) (hC : ∀ cs ss pc lo st h, tr (C cs ss pc lo st h) → zX l Γ al (d + 1) M QF cs ss pc lo st h) (hd : decode M.2.1 pc = .ok (.lcmp, len)) (hl : zlkB M.1.cls M.1.name pc (.lcmp) len ex = true) (ht : tr (zins bad M al sc G K C cs ss pc lo st h ex (.lcmp))) : zX l Γ al (d + 1) M QF cs ss pc lo st h := by
  intro hcs hss p e s m args below meth c hctx H locs ls hlv hrep hS
  obtain ⟨hx, hb, hml, hr, hown, hlk, hnm, hev⟩ := id hctx
  obtain ⟨hTb, hKn, hbs, ho, hstr, hz1, hz2, hscr, hthr⟩ := id hev
  have e : len = 1 := by simpa [zlkB] using hl
  subst e
  simp only [zins] at ht
  split at ht
  · exact W.lcmp hx hb hd (hC _ _ _ _ _ _ ht hcs hss p e s m args below meth c hctx H locs ls hlv hrep hS)
  · exact absurd ht hbad
theorem zi_idiv (hbad : ¬ tr bad) (hC : ∀ cs ss pc lo st h, tr (C cs ss pc lo st h) → zX l Γ al (d + 1) M QF cs ss pc lo st h) (hd : decode M.2.1 pc = .ok (.idiv, len)) (hl : zlkB M.1.cls M.1.name pc (.idiv) len ex = true) (ht : tr (zins bad M al sc G K C cs ss pc lo st h ex (.idiv))) : zX l Γ al (d + 1) M QF cs ss pc lo st h := by
  intro hcs hss p e s m args below meth c hctx H locs ls hlv hrep hS
  obtain ⟨hx, hb, hml, hr, hown, hlk, hnm, hev⟩ := id hctx
  obtain ⟨hTb, hKn, hbs, ho, hstr, hz1, hz2, hscr, hthr⟩ := id hev
  have e : len = 1 := by simpa [zlkB] using hl
  subst e
  simp only [zins] at ht
  split at ht
  · split at ht
    · exact absurd ht hbad
    · rename_i hy
      exact lv_idiv hx hb hd hy (hC _ _ _ _ _ _ ht hcs hss p e s m args below meth c hctx H locs ls hlv hrep hS)
  · exact absurd ht hbad
theorem zi_irem (hbad : ¬ tr bad) (hC : ∀ cs ss pc lo st h, tr (C cs ss pc lo st h) → zX l Γ al (d + 1) M QF cs ss pc lo st h) (hd : decode M.2.1 pc = .ok (.irem, len)) (hl : zlkB M.1.cls M.1.name pc (.irem) len ex = true) (ht : tr (zins bad M al sc G K C cs ss pc lo st h ex (.irem))) : zX l Γ al (d + 1) M QF cs ss pc lo st h := by
  intro hcs hss p e s m args below meth c hctx H locs ls hlv hrep hS
  obtain ⟨hx, hb, hml, hr, hown, hlk, hnm, hev⟩ := id hctx
  obtain ⟨hTb, hKn, hbs, ho, hstr, hz1, hz2, hscr, hthr⟩ := id hev
  have e : len = 1 := by simpa [zlkB] using hl
  subst e
  simp only [zins] at ht
  split at ht
  · split at ht
    · exact absurd ht hbad
    · rename_i hy
      exact lv_irem hx hb hd hy (hC _ _ _ _ _ _ ht hcs hss p e s m args below meth c hctx H locs ls hlv hrep hS)
  · exact absurd ht hbad
theorem zi_ldiv (hbad : ¬ tr bad) (hC : ∀ cs ss pc lo st h, tr (C cs ss pc lo st h) → zX l Γ al (d + 1) M QF cs ss pc lo st h) (hd : decode M.2.1 pc = .ok (.ldiv, len)) (hl : zlkB M.1.cls M.1.name pc (.ldiv) len ex = true) (ht : tr (zins bad M al sc G K C cs ss pc lo st h ex (.ldiv))) : zX l Γ al (d + 1) M QF cs ss pc lo st h := by
  intro hcs hss p e s m args below meth c hctx H locs ls hlv hrep hS
  obtain ⟨hx, hb, hml, hr, hown, hlk, hnm, hev⟩ := id hctx
  obtain ⟨hTb, hKn, hbs, ho, hstr, hz1, hz2, hscr, hthr⟩ := id hev
  have e : len = 1 := by simpa [zlkB] using hl
  subst e
  simp only [zins] at ht
  split at ht
  · split at ht
    · exact absurd ht hbad
    · rename_i hy
      exact lv_ldiv hx hb hd hy (hC _ _ _ _ _ _ ht hcs hss p e s m args below meth c hctx H locs ls hlv hrep hS)
  · exact absurd ht hbad
theorem zi_lrem (hbad : ¬ tr bad) (hC : ∀ cs ss pc lo st h, tr (C cs ss pc lo st h) → zX l Γ al (d + 1) M QF cs ss pc lo st h) (hd : decode M.2.1 pc = .ok (.lrem, len)) (hl : zlkB M.1.cls M.1.name pc (.lrem) len ex = true) (ht : tr (zins bad M al sc G K C cs ss pc lo st h ex (.lrem))) : zX l Γ al (d + 1) M QF cs ss pc lo st h := by
  intro hcs hss p e s m args below meth c hctx H locs ls hlv hrep hS
  obtain ⟨hx, hb, hml, hr, hown, hlk, hnm, hev⟩ := id hctx
  obtain ⟨hTb, hKn, hbs, ho, hstr, hz1, hz2, hscr, hthr⟩ := id hev
  have e : len = 1 := by simpa [zlkB] using hl
  subst e
  simp only [zins] at ht
  split at ht
  · split at ht
    · exact absurd ht hbad
    · rename_i hy
      exact lv_lrem hx hb hd hy (hC _ _ _ _ _ _ ht hcs hss p e s m args below meth c hctx H locs ls hlv hrep hS)
  · exact absurd ht hbad
theorem zi_dup (hbad : ¬ tr bad) (hC : ∀ cs ss pc lo st h, tr (C cs ss pc lo st h) → zX l Γ al (d + 1) M QF cs ss pc lo st h) (hd : decode M.2.1 pc = .ok (.dup, len)) (hl : zlkB M.1.cls M.1.name pc (.dup) len ex = true) (ht : tr (zins bad M al sc G K C cs ss pc lo st h ex (.dup))) : zX l Γ al (d + 1) M QF cs ss pc lo st h := by
  intro hcs hss p e s m args below meth c hctx H locs ls hlv hrep hS
  obtain ⟨hx, hb, hml, hr, hown, hlk, hnm, hev⟩ := id hctx
  obtain ⟨hTb, hKn, hbs, ho, hstr, hz1, hz2, hscr, hthr⟩ := id hev
  have e : len = 1 := by simpa [zlkB] using hl
  subst e
  simp only [zins] at ht
  split at ht
  · split at ht
    · rename_i hv
      exact lv_dup hx hb hd (by rw [zcv_cat ho]; exact hv) (hC _ _ _ _ _ _ ht hcs hss p e s m args below meth c hctx H locs ls hlv hrep hS)
    · exact absurd ht hbad
  · exact absurd ht hbad
theorem zi_pop (hbad : ¬ tr bad) (hC : ∀ cs ss pc lo st h, tr (C cs ss pc lo st h) → zX l Γ al (d + 1) M QF cs ss pc lo st h) (hd : decode M.2.1 pc = .ok (.pop, len)) (hl : zlkB M.1.cls M.1.name pc (.pop) len ex = true) (ht : tr (zins bad M al sc G K C cs ss pc lo st h ex (.pop))) : zX l Γ al (d + 1) M QF cs ss pc lo st h := by
  intro hcs hss p e s m args below meth c hctx H locs ls hlv hrep hS
  obtain ⟨hx, hb, hml, hr, hown, hlk, hnm, hev⟩ := id hctx
  obtain ⟨hTb, hKn, hbs, ho, hstr, hz1, hz2, hscr, hthr⟩ := id hev
  have e : len = 1 := by simpa [zlkB] using hl
  subst e
  simp only [zins] at ht
  split at ht
  · split at ht
    · rename_i hv
      exact lv_pop hx hb hd (by rw [zcv_cat ho]; exact hv) (hC _ _ _ _ _ _ ht hcs hss p e s m args below meth c hctx H locs ls hlv hrep hS)
    · exact absurd ht hbad
  · exact absurd ht hbad
theorem zi_pop2 (hbad : ¬ tr bad) (hC : ∀ cs ss pc lo st h, tr (C cs ss pc lo st h) → zX l Γ al (d + 1) M QF cs ss pc lo st h) (hd : decode M.2.1 pc = .ok (.pop2, len)) (hl : zlkB M.1.cls M.1.name pc (.pop2) len ex = true) (ht : tr (zins bad M al sc G K C cs ss pc lo st h ex (.pop2))) : zX l Γ al (d + 1) M QF cs ss pc lo st h := by
  intro hcs hss p e s m args below meth c hctx H locs ls hlv hrep hS
  obtain ⟨hx, hb, hml, hr, hown, hlk, hnm, hev⟩ := id hctx
  obtain ⟨hTb, hKn, hbs, ho, hstr, hz1, hz2, hscr, hthr⟩ := id hev
  have e : len = 1 := by simpa [zlkB] using hl
  subst e
  simp only [zins] at ht
  split at ht
  · split at ht
    · rename_i hv
      exact lv_pop2_2 hx hb hd (by rw [zcv_cat ho]; exact hv) (hC _ _ _ _ _ _ ht hcs hss p e s m args below meth c hctx H locs ls hlv hrep hS)
    · exact absurd ht hbad
  · exact absurd ht hbad
theorem zi_dup2 (hbad : ¬ tr bad) (hC : ∀ cs ss pc lo st h, tr (C cs ss pc lo st h) → zX l Γ al (d + 1) M QF cs ss pc lo st h) (hd : decode M.2.1 pc = .ok (.dup2, len)) (hl : zlkB M.1.cls M.1.name pc (.dup2) len ex = true) (ht : tr (zins bad M al sc G K C cs ss pc lo st h ex (.dup2))) : zX l Γ al (d + 1) M QF cs ss pc lo st h := by
  intro hcs hss p e s m args below meth c hctx H locs ls hlv hrep hS
  obtain ⟨hx, hb, hml, hr, hown, hlk, hnm, hev⟩ := id hctx
  obtain ⟨hTb, hKn, hbs, ho, hstr, hz1, hz2, hscr, hthr⟩ := id hev
  have e : len = 1 := by simpa [zlkB] using hl
  subst e
  simp only [zins] at ht
  split at ht
  · split at ht
    · rename_i hv
      split at ht
      · rename_i hw
        exact lv_dup2_11 hx hb hd (by rw [zcv_cat ho]; exact hv) (by rw [zcv_cat ho]; exact hw) (hC _ _ _ _ _ _ ht hcs hss p e s m args below meth c hctx H locs ls hlv hrep hS)
      · exact absurd ht hbad
    · exact absurd ht hbad
  · exact absurd ht hbad
theorem zi_if_eq {off : Int} (hbad : ¬ tr bad) (hC : ∀ cs ss pc lo st h, tr (C cs ss pc lo st h) → zX l Γ al (d + 1) M QF cs ss pc lo st h) (hd : decode M.2.1 pc = .ok (.ifCond .eq off, len)) (hl : zlkB M.1.cls M.1.name pc (.ifCond .eq off) len ex = true) (ht : tr (zins bad M al sc G K C cs ss pc lo st h ex (.ifCond .eq off))) : zX l Γ al (d + 1) M QF cs ss pc lo st h := by
  intro hcs hss p e s m args below meth c hctx H locs ls hlv hrep hS
  obtain ⟨hx, hb, hml, hr, hown, hlk, hnm, hev⟩ := id hctx
  obtain ⟨hTb, hKn, hbs, ho, hstr, hz1, hz2, hscr, hthr⟩ := id hev
  simp only [zlkB, Bool.and_eq_true, beq_iff_eq] at hl
  obtain ⟨e, hl⟩ := hl
  subst e
  simp only [zins] at ht
  split at ht
  · rename_i t _ _
    simp only [ztg, decide_eq_true_eq] at hl
    exact lv_if_eq hx hb hd hl (fun q => by rw [if_pos q] at ht; exact hC _ _ _ _ _ _ ht hcs hss p e s m args below meth c hctx H locs ls hlv hrep hS) (fun q => by rw [if_neg q] at ht; exact hC _ _ _ _ _ _ ht hcs hss p e s m args below meth c hctx H locs ls hlv hrep hS)
  · exact absurd ht hbad
theorem zi_if_ne {off : Int} (hbad : ¬ tr bad) (hC : ∀ cs ss pc lo st h, tr (C cs ss pc lo st h) → zX l Γ al (d + 1) M QF cs ss pc lo st h) (hd : decode M.2.1 pc = .ok (.ifCond .ne off, len)) (hl : zlkB M.1.cls M.1.name pc (.ifCond .ne off) len ex = true) (ht : tr (zins bad M al sc G K C cs ss pc lo st h ex (.ifCond .ne off))) : zX l Γ al (d + 1) M QF cs ss pc lo st h := by
  intro hcs hss p e s m args below meth c hctx H locs ls hlv hrep hS
  obtain ⟨hx, hb, hml, hr, hown, hlk, hnm, hev⟩ := id hctx
  obtain ⟨hTb, hKn, hbs, ho, hstr, hz1, hz2, hscr, hthr⟩ := id hev
  simp only [zlkB, Bool.and_eq_true, beq_iff_eq] at hl
  obtain ⟨e, hl⟩ := hl
  subst e
  simp only [zins] at ht
  split at ht
  · rename_i t _ _
    simp only [ztg, decide_eq_true_eq] at hl
    exact lv_if_ne hx hb hd hl (fun q => by rw [if_neg q] at ht; exact hC _ _ _ _ _ _ ht hcs hss p e s m args below meth c hctx H locs ls hlv hrep hS) (fun q => by rw [if_pos q] at ht; exact hC _ _ _ _ _ _ ht hcs hss p e s m args below meth c hctx H locs ls hlv hrep hS)
  · exact absurd ht hbad
theorem zi_if_lt {off : Int} (hbad : ¬ tr bad) (hC : ∀ cs ss pc lo st h, tr (C cs ss pc lo st h) → zX l Γ al (d + 1) M QF cs ss pc lo st h) (hd : decode M.2.1 pc = .ok (.ifCond .lt off, len)) (hl : zlkB M.1.cls M.1.name pc (.ifCond .lt off) len ex = true) (ht : tr (zins bad M al sc G K C cs ss pc lo st h ex (.ifCond .lt off))) : zX l Γ al (d + 1) M QF cs ss pc lo st h := by
  intro hcs hss p e s m args below meth c hctx H locs ls hlv hrep hS
  obtain ⟨hx, hb, hml, hr, hown, hlk, hnm, hev⟩ := id hctx
  obtain ⟨hTb, hKn, hbs, ho, hstr, hz1, hz2, hscr, hthr⟩ := id hev
  simp only [zlkB, Bool.and_eq_true, beq_iff_eq] at hl
  obtain ⟨e, hl⟩ := hl
  subst e
  simp only [zins] at ht
  split at ht
  · rename_i t _ _
    simp only [ztg, decide_eq_true_eq] at hl
    exact lv_if_lt hx hb hd hl (fun q => by rw [if_pos q] at ht; exact hC _ _ _ _ _ _ ht hcs hss p e s m args below meth c hctx H locs ls hlv hrep hS) (fun q => by rw [if_neg q] at ht; exact hC _ _ _ _ _ _ ht hcs hss p e s m args below meth c hctx H locs ls hlv hrep hS)
  · exact absurd ht hbad
theorem zi_if_ge {off : Int} (hbad : ¬ tr bad) (hC : ∀ cs ss pc lo st h, tr (C cs ss pc lo st h) → zX l Γ al (d + 1) M QF cs ss pc lo st h) (hd : decode M.2.1 pc = .ok (.ifCond .ge off, len)) (hl : zlkB M.1.cls M.1.name pc (.ifCond .ge off) len ex = true) (ht : tr (zins bad M al sc G K C cs ss pc lo st h ex (.ifCond .ge off))) : zX l Γ al (d + 1) M QF cs ss pc lo st h := by
  intro hcs hss p e s m args below meth c hctx H locs ls hlv hrep hS
  obtain ⟨hx, hb, hml, hr, hown, hlk, hnm, hev⟩ := id hctx
  obtain ⟨hTb, hKn, hbs, ho, hstr, hz1, hz2, hscr, hthr⟩ := id hev
  simp only [zlkB, Bool.and_eq_true, beq_iff_eq] at hl
  obtain ⟨e, hl⟩ := hl
  subst e
  simp only [zins] at ht
  split at ht
  · rename_i t _ _
    simp only [ztg, decide_eq_true_eq] at hl
    exact lv_if_ge hx hb hd hl (fun q => by rw [if_pos q] at ht; exact hC _ _ _ _ _ _ ht hcs hss p e s m args below meth c hctx H locs ls hlv hrep hS) (fun q => by rw [if_neg q] at ht; exact hC _ _ _ _ _ _ ht hcs hss p e s m args below meth c hctx H locs ls hlv hrep hS)
  · exact absurd ht hbad
theorem zi_if_gt {off : Int} (hbad : ¬ tr bad) (hC : ∀ cs ss pc lo st h, tr (C cs ss pc lo st h) → zX l Γ al (d + 1) M QF cs ss pc lo st h) (hd : decode M.2.1 pc = .ok (.ifCond .gt off, len)) (hl : zlkB M.1.cls M.1.name pc (.ifCond .gt off) len ex = true) (ht : tr (zins bad M al sc G K C cs ss pc lo st h ex (.ifCond .gt off))) : zX l Γ al (d + 1) M QF cs ss pc lo st h := by
  intro hcs hss p e s m args below meth c hctx H locs ls hlv hrep hS
  obtain ⟨hx, hb, hml, hr, hown, hlk, hnm, hev⟩ := id hctx
  obtain ⟨hTb, hKn, hbs, ho, hstr, hz1, hz2, hscr, hthr⟩ := id hev
  simp only [zlkB, Bool.and_eq_true, beq_iff_eq] at hl
  obtain ⟨e, hl⟩ := hl
  subst e
  simp only [zins] at ht
  split at ht
  · rename_i t _ _
    simp only [ztg, decide_eq_true_eq] at hl
    exact lv_if_gt hx hb hd hl (fun q => by rw [if_pos q] at ht; exact hC _ _ _ _ _ _ ht hcs hss p e s m args below meth c hctx H locs ls hlv hrep hS) (fun q => by rw [if_neg q] at ht; exact hC _ _ _ _ _ _ ht hcs hss p e s m args below meth c hctx H locs ls hlv hrep hS)
  · exact absurd ht hbad
theorem zi_if_le {off : Int} (hbad : ¬ tr bad) (hC : ∀ cs ss pc lo st h, tr (C cs ss pc lo st h) → zX l Γ al (d + 1) M QF cs ss pc lo st h) (hd : decode M.2.1 pc = .ok (.ifCond .le off, len)) (hl : zlkB M.1.cls M.1.name pc (.ifCond .le off) len ex = true) (ht : tr (zins bad M al sc G K C cs ss pc lo st h ex (.ifCond .le off))) : zX l Γ al (d + 1) M QF cs ss pc lo st h := by
  intro hcs hss p e s m args below meth c hctx H locs ls hlv hrep hS
  obtain ⟨hx, hb, hml, hr, hown, hlk, hnm, hev⟩ := id hctx
  obtain ⟨hTb, hKn, hbs, ho, hstr, hz1, hz2, hscr, hthr⟩ := id hev
  simp only [zlkB, Bool.and_eq_true, beq_iff_eq] at hl
  obtain ⟨e, hl⟩ := hl
  subst e
  simp only [zins] at ht
  split at ht
  · rename_i t _ _
    simp only [ztg, decide_eq_true_eq] at hl
    exact lv_if_le hx hb hd hl (fun q => by rw [if_pos q] at ht; exact hC _ _ _ _ _ _ ht hcs hss p e s m args below meth c hctx H locs ls hlv hrep hS) (fun q => by rw [if_neg q] at ht; exact hC _ _ _ _ _ _ ht hcs hss p e s m args below meth c hctx H locs ls hlv hrep hS)
  · exact absurd ht hbad
theorem zi_icmp_eq {off : Int} (hbad : ¬ tr bad) (hC : ∀ cs ss pc lo st h, tr (C cs ss pc lo st h) → zX l Γ al (d + 1) M QF cs ss pc lo st h) (hd : decode M.2.1 pc = .ok (.if_icmp .eq off, len)) (hl : zlkB M.1.cls M.1.name pc (.if_icmp .eq off) len ex = true) (ht : tr (zins bad M al sc G K C cs ss pc lo st h ex (.if_icmp .eq off))) : zX l Γ al (d + 1) M QF cs ss pc lo st h := by
  intro hcs hss p e s m args below meth c hctx H locs ls hlv hrep hS
  obtain ⟨hx, hb, hml, hr, hown, hlk, hnm, hev⟩ := id hctx
  obtain ⟨hTb, hKn, hbs, ho, hstr, hz1, hz2, hscr, hthr⟩ := id hev
  simp only [zlkB, Bool.and_eq_true, beq_iff_eq] at hl
  obtain ⟨e, hl⟩ := hl
  subst e
  simp only [zins] at ht
  split at ht
  · rename_i t _ _
    simp only [ztg, decide_eq_true_eq] at hl
    exact lv_icmp_eq hx hb hd hl (fun q => by rw [if_pos q] at ht; exact hC _ _ _ _ _ _ ht hcs hss p e s m args below meth c hctx H locs ls hlv hrep hS) (fun q => by rw [if_neg q] at ht; exact hC _ _ _ _ _ _ ht hcs hss p e s m args below meth c hctx H locs ls hlv hrep hS)
  · exact absurd ht hbad
theorem zi_icmp_ne {off : Int} (hbad : ¬ tr bad) (hC : ∀ cs ss pc lo st h, tr (C cs ss pc lo st h) → zX l Γ al (d + 1) M QF cs ss pc lo st h) (hd : decode M.2.1 pc = .ok (.if_icmp .ne off, len)) (hl : zlkB M.1.cls M.1.name pc (.if_icmp .ne off) len ex = true) (ht : tr (zins bad M al sc G K C cs ss pc lo st h ex (.if_icmp .ne off))) : zX l Γ al (d + 1) M QF cs ss pc lo st h := by
  intro hcs hss p e s m args below meth c hctx H locs ls hlv hrep hS
  obtain ⟨hx, hb, hml, hr, hown, hlk, hnm, hev⟩ := id hctx
  obtain ⟨hTb, hKn, hbs, ho, hstr, hz1, hz2, hscr, hthr⟩ := id hev
  simp only [zlkB, Bool.and_eq_true, beq_iff_eq] at hl
  obtain ⟨e, hl⟩ := hl
  subst e
  simp only [zins] at ht
  split at ht
  · rename_i t _ _
    simp only [ztg, decide_eq_true_eq] at hl
    exact lv_icmp_ne hx hb hd hl (fun q => by rw [if_neg q] at ht; exact hC _ _ _ _ _ _ ht hcs hss p e s m args below meth c hctx H locs ls hlv hrep hS) (fun q => by rw [if_pos q] at ht; exact hC _ _ _ _ _ _ ht hcs hss p e s m args below meth c hctx H locs ls hlv hrep hS)
  · exact absurd ht hbad
theorem zi_icmp_lt {off : Int} (hbad : ¬ tr bad) (hC : ∀ cs ss pc lo st h, tr (C cs ss pc lo st h) → zX l Γ al (d + 1) M QF cs ss pc lo st h) (hd : decode M.2.1 pc = .ok (.if_icmp .lt off, len)) (hl : zlkB M.1.cls M.1.name pc (.if_icmp .lt off) len ex = true) (ht : tr (zins bad M al sc G K C cs ss pc lo st h ex (.if_icmp .lt off))) : zX l Γ al (d + 1) M QF cs ss pc lo st h := by
  intro hcs hss p e s m args below meth c hctx H locs ls hlv hrep hS
  obtain ⟨hx, hb, hml, hr, hown, hlk, hnm, hev⟩ := id hctx
  obtain ⟨hTb, hKn, hbs, ho, hstr, hz1, hz2, hscr, hthr⟩ := id hev
  simp only [zlkB, Bool.and_eq_true, beq_iff_eq] at hl
  obtain ⟨e, hl⟩ := hl
  subst e
  simp only [zins] at ht
  split at ht
  · rename_i t _ _
    simp only [ztg, decide_eq_true_eq] at hl
    exact lv_icmp_lt hx hb hd hl (fun q => by rw [if_pos q] at ht; exact hC _ _ _ _ _ _ ht hcs hss p e s m args below meth c hctx H locs ls hlv hrep hS) (fun q => by rw [if_neg q] at ht; exact hC _ _ _ _ _ _ ht hcs hss p e s m args below meth c hctx H locs ls hlv hrep hS)
  · exact absurd ht hbad
theorem zi_icmp_ge {off : Int} (hbad : ¬ tr bad) (hC : ∀ cs ss pc lo st h, tr (C cs ss pc lo st h) → zX l Γ al (d + 1) M QF cs ss pc lo st h) (hd : decode M.2.1 pc = .ok (.if_icmp .ge off, len)) (hl : zlkB M.1.cls M.1.name pc (.if_icmp .ge off) len ex = true) (ht : tr (zins bad M al sc G K C cs ss pc lo st h ex (.if_icmp .ge off))) : zX l Γ al (d + 1) M QF cs ss pc lo st h := by
  intro hcs hss p e s m args below meth c hctx H locs ls hlv hrep hS
  obtain ⟨hx, hb, hml, hr, hown, hlk, hnm, hev⟩ := id hctx
  obtain ⟨hTb, hKn, hbs, ho, hstr, hz1, hz2, hscr, hthr⟩ := id hev
  simp only [zlkB, Bool.and_eq_true, beq_iff_eq] at hl
  obtain ⟨e, hl⟩ := hl
  subst e
  simp only [zins] at ht
  split at ht
  · rename_i t _ _
    simp only [ztg, decide_eq_true_eq] at hl
    exact lv_icmp_ge hx hb hd hl (fun q => by rw [if_pos q] at ht; exact hC _ _ _ _ _ _ ht hcs hss p e s m args below meth c hctx H locs ls hlv hrep hS) (fun q => by rw [if_neg q] at ht; exact hC _ _ _ _ _ _ ht hcs hss p e s m args below meth c hctx H locs ls hlv hrep hS)
  · exact absurd ht hbad
theorem zi_icmp_gt {off : Int} (hbad : ¬ tr bad) (hC : ∀ cs ss pc lo st h, tr (C cs ss pc lo st h) → zX l Γ al (d + 1) M QF cs ss pc lo st h) (hd : decode M.2.1 pc = .ok (.if_icmp .gt off, len)) (hl : zlkB M.1.cls M.1.name pc (.if_icmp .gt off) len ex = true) (ht : tr (zins bad M al sc G K C cs ss pc lo st h ex (.if_icmp .gt off))) : zX l Γ al (d + 1) M QF cs ss pc lo st h := by
  intro hcs hss p e s m args below meth c hctx H locs ls hlv hrep hS
  obtain ⟨hx, hb, hml, hr, hown, hlk, hnm, hev⟩ := id hctx
  obtain ⟨hTb, hKn, hbs, ho, hstr, hz1, hz2, hscr, hthr⟩ := id hev
  simp only [zlkB, Bool.and_eq_true, beq_iff_eq] at hl
  obtain ⟨e, hl⟩ := hl
  subst e
  simp only [zins] at ht
  split at ht
  · rename_i t _ _
    simp only [ztg, decide_eq_true_eq] at hl
    exact lv_icmp_gt hx hb hd hl (fun q => by rw [if_pos q] at ht; exact hC _ _ _ _ _ _ ht hcs hss p e s m args below meth c hctx H locs ls hlv hrep hS) (fun q => by rw [if_neg q] at ht; exact hC _ _ _ _ _ _ ht hcs hss p e s m args below meth c hctx H locs ls hlv hrep hS)
  · exact absurd ht hbad
theorem zi_icmp_le {off : Int} (hbad : ¬ tr bad) (hC : ∀ cs ss pc lo st h, tr (C cs ss pc lo st h) → zX l Γ al (d + 1) M QF cs ss pc lo st h) (hd : decode M.2.1 pc = .ok (.if_icmp .le off, len)) (hl : zlkB M.1.cls M.1.name pc (.if_icmp .le off) len ex = true) (ht : tr (zins bad M al sc G K C cs ss pc lo st h ex (.if_icmp .le off))) : zX l Γ al (d + 1) M QF cs ss pc lo st h := by
  intro hcs hss p e s m args below meth c hctx H locs ls hlv hrep hS
  obtain ⟨hx, hb, hml, hr, hown, hlk, hnm, hev⟩ := id hctx
  obtain ⟨hTb, hKn, hbs, ho, hstr, hz1, hz2, hscr, hthr⟩ := id hev
  simp only [zlkB, Bool.and_eq_true, beq_iff_eq] at hl
  obtain ⟨e, hl⟩ := hl
  subst e
  simp only [zins] at ht
  split at ht
  · rename_i t _ _
    simp only [ztg, decide_eq_true_eq] at hl
    exact lv_icmp_le hx hb hd hl (fun q => by rw [if_pos q] at ht; exact hC _ _ _ _ _ _ ht hcs hss p e s m args below meth c hctx H locs ls hlv hrep hS) (fun q => by rw [if_neg q] at ht; exact hC _ _ _ _ _ _ ht hcs hss p e s m args below meth c hctx H locs ls hlv hrep hS)
  · exact absurd ht hbad
theorem zi_goto {off : Int} (hbad : ¬ tr bad) (hC : ∀ cs ss pc lo st h, tr (C cs ss pc lo st h) → zX l Γ al (d + 1) M QF cs ss pc lo st h) (hd : decode M.2.1 pc = .ok (.goto off, len)) (hl : zlkB M.1.cls M.1.name pc (.goto off) len ex = true) (ht : tr (zins bad M al sc G K C cs ss pc lo st h ex (.goto off))) : zX l Γ al (d + 1) M QF cs ss pc lo st h := by
  intro hcs hss p e s m args below meth c hctx H locs ls hlv hrep hS
  obtain ⟨hx, hb, hml, hr, hown, hlk, hnm, hev⟩ := id hctx
  obtain ⟨hTb, hKn, hbs, ho, hstr, hz1, hz2, hscr, hthr⟩ := id hev
  simp only [zlkB, Bool.and_eq_true, beq_iff_eq] at hl
  obtain ⟨e, hl⟩ := hl
  subst e
  simp only [zins] at ht
  split at ht
  · simp only [ztg, decide_eq_true_eq] at hl
    exact lv_goto hx hb hd hl (hC _ _ _ _ _ _ ht hcs hss p e s m args below meth c hctx H locs ls hlv hrep hS)
  · exact absurd ht hbad
end ZI
