section ZI
variable {ρ : Type} {bad : ρ} {tr : ρ → Prop} {l : Launch} {Γ : zG} {al : Bool} {d : Nat} {M : zHd} {G : Nat → List Value → zH → (Option Value → zH → ρ) → ρ} {K : Option Value → zH → ρ} {QF : List Frame → Array Value → State → State → Prop} {sc : Option (Nat × (Nat → Int32))} {C : Nat → Nat → Nat → zL → List Value → zH → ρ}
  {cs ss pc len : Nat} {lo : zL} {st : List Value} {h : zH} {ex : List Nat}

theorem zi_getfield {idx : Nat} (hbad : ¬ tr bad) (hC : ∀ cs ss pc lo st h, tr (C cs ss pc lo st h) → zX l Γ al (d + 1) M QF cs ss pc lo st h) (hd : decode M.2.1 pc = .ok (.getfield idx, len)) (hl : zlkB M.1.cls M.1.name pc (.getfield idx) len ex = true) (ht : tr (zins bad M al sc G K C cs ss pc lo st h ex (.getfield idx))) : zX l Γ al (d + 1) M QF cs ss pc lo st h := by
  intro hcs hss p e s m args below meth c hctx H locs ls hlv hrep hS
  obtain ⟨hx, hb, hml, hr, hown, hlk, hnm, hev⟩ := id hctx
  obtain ⟨hTb, hKn, hbs, ho, hstr, hz1, hz2, hscr, hthr⟩ := id hev
  simp only [zlkB, Bool.and_eq_true, beq_iff_eq] at hl
  obtain ⟨e, hl⟩ := hl
  subst e
  simp only [zins] at ht
  split at ht
  · rename_i ci k pp nest q st'
    · obtain ⟨hsh, v, hv, ht⟩ := zgetf_ok (Γ := Γ) hbad ht
      obtain ⟨r, hc, hk, hdc, hlink⟩ := zfl_ok hl
      have hws := zws_at (Γ := Γ) hsh
      rw [zcell_o] at hws
      have kk := hC _ _ _ _ _ _ ht hcs hss p e s m args below meth c hctx H locs ls hlv hrep hS
      rw [List.map_cons, hv] at kk
      have hfs : ((List.range (zNF ci)).map (zfv Γ h ci q))[k]? = some (zfv Γ h ci q k) := by
        have := (zcl_ok hc).1
        simp [this, hk]
      have hsame : ∀ x, s.fieldFound? (r.2.1 k).1 (r.2.1 k).2.1 (r.2.1 k).2.2.1 = some x → s.fieldFound? r.1 (r.2.1 k).2.1 (r.2.1 k).2.2.1 = some x := fun x hx => by rw [hdc] at hx; exact hx
      rcases hlink with ⟨-, hw⟩ | ⟨-, hw⟩
      · exact va_get (C := r.1) (T := r.2.1) (N := r.2.2) hx hb (zTb_u hTb hc args) (fun _ h => h) hown hKn hrep.1 q hws hc k hk (zTb_at hTb hw rfl args) hsame hfs hd kk
      · exact va_getN (C := r.1) (T := r.2.1) (N := r.2.2) hx hb (zTb_u hTb hc args) (fun _ h => h) hown hKn hrep.1 q hws hc k hk (zTb_at hTb hw rfl args) hsame hfs hd kk
  · rename_i fk q st'
    split at ht
    · rename_i v hv
      simp only [Bool.and_eq_true, decide_eq_true_eq] at hl
      obtain ⟨ho1, hl⟩ := hl
      rw [ho1] at hown
      obtain ⟨a0, a1, e0, e1, hvs, -⟩ := hstr
      have hvs0 := hvs.1 0 (by decide)
      have kk := hC _ _ _ _ _ _ ht hcs hss p e s m args below meth c hctx H locs ls hlv hrep hS
      unfold zof at hv
      split at hv
      · rename_i hq
        subst hq
        rw [List.map_cons, show zcv Γ (.retAddr 0) = .ref a0 from e0]
        split at hv
        · rename_i hf
          cases hv
          rw [if_pos hf, decide_eq_true_eq] at hl
          rw [List.map_cons, show zcv Γ (.retAddr 1) = .ref a1 from e1] at kk
          exact vk_getf hx hb hvs0.2.2.1 hS hown (zTb_at hTb hl rfl args) (fun _ h => h) hd kk
        · rename_i hf
          cases hv
          rw [if_neg hf, decide_eq_true_eq] at hl
          exact vk_getf hx hb hvs0.2.1 hS hown (zTb_at hTb hl rfl args) (fun _ h => h) hd kk
      · cases hv
    · exact absurd ht hbad
  · exact absurd ht hbad
theorem zi_putfield {idx : Nat} (hbad : ¬ tr bad) (hC : ∀ cs ss pc lo st h, tr (C cs ss pc lo st h) → zX l Γ al (d + 1) M QF cs ss pc lo st h) (hd : decode M.2.1 pc = .ok (.putfield idx, len)) (hl : zlkB M.1.cls M.1.name pc (.putfield idx) len ex = true) (ht : tr (zins bad M al sc G K C cs ss pc lo st h ex (.putfield idx))) : zX l Γ al (d + 1) M QF cs ss pc lo st h := by
  intro hcs hss p e s m args below meth c hctx H locs ls hlv hrep hS
  obtain ⟨hx, hb, hml, hr, hown, hlk, hnm, hev⟩ := id hctx
  obtain ⟨hTb, hKn, hbs, ho, hstr, hz1, hz2, hscr, hthr⟩ := id hev
  simp only [zlkB, Bool.and_eq_true, beq_iff_eq] at hl
  obtain ⟨e, hl⟩ := hl
  subst e
  simp only [zins] at ht
  split at ht
  · rename_i ci k pp nest v q st'
    · obtain ⟨hsh, hfit, h', ht, hs', hoth, hfv⟩ := zputf_ok (Γ := Γ) hbad ho ht
      simp only [Bool.and_eq_true] at hl
      obtain ⟨hl, hl2⟩ := hl
      obtain ⟨r, hc, hk, hdc, hlink⟩ := zfl_ok hl
      have hws := zws_at (Γ := Γ) hsh
      rw [zcell_o] at hws
      obtain ⟨hNF, hty, hkd, hnmd⟩ := zcl_ok hc
      have hfin : (r.2.1 k).2.2.2 = false ∨ (M.1.cls = r.1 ∧ meth.name = "<init>" ∧ nest = 0) := by
        simp only [zpf, hc, Bool.or_eq_true, Bool.and_eq_true, decide_eq_true_eq, Bool.not_eq_true'] at hl2
        rcases hl2 with h1 | ⟨⟨h1, h2⟩, h3⟩
        · exact Or.inl h1
        · exact Or.inr ⟨h1, by rw [hnm]; exact h2, h3⟩
      refine zput (host := "SandHours") (nest := nest) hx hb (zTb_u hTb hc args) (zty r) hty hnmd hown hKn hrep.1 (zws_D hrep.2.2.2) hS q hws hc k hk hdc ?_ hfin (hfit _ (hkd k hk)).1 (hfit _ (hkd k hk)).2 (by simp [hNF, hk]) hd (fun H1 locs1 z hP1 hS1 => ?_)
      · rcases hlink with ⟨e1, hw⟩ | ⟨e1, hw⟩
        · exact Or.inl ⟨e1, zTb_at hTb hw rfl args⟩
        · exact Or.inr ⟨e1, zTb_at hTb hw rfl args⟩
      · exact hC _ _ _ _ _ _ ht hcs hss p e s m args below meth c hctx H1 locs1 ls hlv (zrep_put hrep hsh hs' hoth hfv z hP1) hS1
  · exact absurd ht hbad
theorem zi_getstatic {idx : Nat} (hbad : ¬ tr bad) (hC : ∀ cs ss pc lo st h, tr (C cs ss pc lo st h) → zX l Γ al (d + 1) M QF cs ss pc lo st h) (hd : decode M.2.1 pc = .ok (.getstatic idx, len)) (hl : zlkB M.1.cls M.1.name pc (.getstatic idx) len ex = true) (ht : tr (zins bad M al sc G K C cs ss pc lo st h ex (.getstatic idx))) : zX l Γ al (d + 1) M QF cs ss pc lo st h := by
  intro hcs hss p e s m args below meth c hctx H locs ls hlv hrep hS
  obtain ⟨hx, hb, hml, hr, hown, hlk, hnm, hev⟩ := id hctx
  obtain ⟨hTb, hKn, hbs, ho, hstr, hz1, hz2, hscr, hthr⟩ := id hev
  simp only [zlkB, Bool.and_eq_true, beq_iff_eq] at hl
  obtain ⟨e, hl⟩ := hl
  subst e
  simp only [zins] at ht
  split at ht
  · rename_i sk pp
    have kk := hC _ _ _ _ _ _ ht hcs hss p e s m args below meth c hctx H locs ls hlv hrep hS
    rw [List.map_cons] at kk
    by_cases hk : sk = 0
    · subst hk
      simp only [if_true, decide_eq_true_eq] at hl
      exact va_gets hx hb hz1 hS hown (zTb_at hTb hl rfl args) (fun _ h => h) hd kk
    · simp only [hk, if_false, decide_eq_true_eq] at hl
      rw [show zcv Γ (zst sk) = Γ.2.2.2.1 9 by simp only [zst, hk, if_false, zcv]] at kk
      exact va_gets hx hb hz2 hS hown (zTb_at hTb hl rfl args) (fun _ h => h) hd kk
  · exact absurd ht hbad
theorem zi_ldc {idx : Nat} (hbad : ¬ tr bad) (hC : ∀ cs ss pc lo st h, tr (C cs ss pc lo st h) → zX l Γ al (d + 1) M QF cs ss pc lo st h) (hd : decode M.2.1 pc = .ok (.ldc idx, len)) (hl : zlkB M.1.cls M.1.name pc (.ldc idx) len ex = true) (ht : tr (zins bad M al sc G K C cs ss pc lo st h ex (.ldc idx))) : zX l Γ al (d + 1) M QF cs ss pc lo st h := by
  intro hcs hss p e s m args below meth c hctx H locs ls hlv hrep hS
  obtain ⟨hx, hb, hml, hr, hown, hlk, hnm, hev⟩ := id hctx
  obtain ⟨hTb, hKn, hbs, ho, hstr, hz1, hz2, hscr, hthr⟩ := id hev
  simp only [zlkB, Bool.and_eq_true, beq_iff_eq] at hl
  obtain ⟨e, hl⟩ := hl
  subst e
  simp only [zins] at ht
  split at ht
  · simp only [decide_eq_true_eq] at hl
    exact lv_ldc hx hb hown (zTb_at hTb hl rfl args) hd (hC _ _ _ _ _ _ ht hcs hss p e s m args below meth c hctx H locs ls hlv hrep hS)
  · simp only [Bool.and_eq_true, decide_eq_true_eq, beq_iff_eq] at hl
    obtain ⟨⟨e1, e2⟩, e3⟩ := hl
    subst e1
    subst e3
    rw [e2] at hown
    obtain ⟨a0, a1, e0, e1, hvs, hR⟩ := hstr
    have kk := hC _ _ _ _ _ _ ht hcs hss p e s m args below meth c hctx H locs ls hlv hrep hS
    rw [List.map_cons, show zcv Γ (.retAddr 0) = .ref a0 from e0] at kk
    exact va_ldcS hx hb hown hR hd kk
  · exact absurd ht hbad
theorem zi_ldc_w {idx : Nat} (hbad : ¬ tr bad) (hC : ∀ cs ss pc lo st h, tr (C cs ss pc lo st h) → zX l Γ al (d + 1) M QF cs ss pc lo st h) (hd : decode M.2.1 pc = .ok (.ldc_w idx, len)) (hl : zlkB M.1.cls M.1.name pc (.ldc_w idx) len ex = true) (ht : tr (zins bad M al sc G K C cs ss pc lo st h ex (.ldc_w idx))) : zX l Γ al (d + 1) M QF cs ss pc lo st h := by
  intro hcs hss p e s m args below meth c hctx H locs ls hlv hrep hS
  obtain ⟨hx, hb, hml, hr, hown, hlk, hnm, hev⟩ := id hctx
  obtain ⟨hTb, hKn, hbs, ho, hstr, hz1, hz2, hscr, hthr⟩ := id hev
  simp only [zlkB, Bool.and_eq_true, beq_iff_eq] at hl
  obtain ⟨e, hl⟩ := hl
  subst e
  simp only [zins] at ht
  split at ht
  · simp only [decide_eq_true_eq] at hl
    exact lv_ldcw hx hb hown (zTb_at hTb hl rfl args) hd (hC _ _ _ _ _ _ ht hcs hss p e s m args below meth c hctx H locs ls hlv hrep hS)
  · exact absurd ht hbad
theorem zi_ldc2_w {idx : Nat} (hbad : ¬ tr bad) (hC : ∀ cs ss pc lo st h, tr (C cs ss pc lo st h) → zX l Γ al (d + 1) M QF cs ss pc lo st h) (hd : decode M.2.1 pc = .ok (.ldc2_w idx, len)) (hl : zlkB M.1.cls M.1.name pc (.ldc2_w idx) len ex = true) (ht : tr (zins bad M al sc G K C cs ss pc lo st h ex (.ldc2_w idx))) : zX l Γ al (d + 1) M QF cs ss pc lo st h := by
  intro hcs hss p e s m args below meth c hctx H locs ls hlv hrep hS
  obtain ⟨hx, hb, hml, hr, hown, hlk, hnm, hev⟩ := id hctx
  obtain ⟨hTb, hKn, hbs, ho, hstr, hz1, hz2, hscr, hthr⟩ := id hev
  simp only [zlkB, Bool.and_eq_true, beq_iff_eq] at hl
  obtain ⟨e, hl⟩ := hl
  subst e
  simp only [zins] at ht
  split at ht
  · simp only [decide_eq_true_eq] at hl
    exact lv_ldc2 hx hb hown (zTb_at hTb hl rfl args) hd (hC _ _ _ _ _ _ ht hcs hss p e s m args below meth c hctx H locs ls hlv hrep hS)
  · exact absurd ht hbad
theorem zi_laload (hbad : ¬ tr bad) (hC : ∀ cs ss pc lo st h, tr (C cs ss pc lo st h) → zX l Γ al (d + 1) M QF cs ss pc lo st h) (hd : decode M.2.1 pc = .ok (.laload, len)) (hl : zlkB M.1.cls M.1.name pc (.laload) len ex = true) (ht : tr (zins bad M al sc G K C cs ss pc lo st h ex (.laload))) : zX l Γ al (d + 1) M QF cs ss pc lo st h := by
  intro hcs hss p e s m args below meth c hctx H locs ls hlv hrep hS
  obtain ⟨hx, hb, hml, hr, hown, hlk, hnm, hev⟩ := id hctx
  obtain ⟨hTb, hKn, hbs, ho, hstr, hz1, hz2, hscr, hthr⟩ := id hev
  have e : len = 1 := by simpa [zlkB] using hl
  subst e
  simp only [zins] at ht
  split at ht
  · rename_i j q st'
    split at ht
    · rename_i n hsh
      split at ht
      · exact absurd ht hbad
      · rename_i hin
        have hws := zws_at (Γ := Γ) hsh
        have kk := hC _ _ _ _ _ _ ht hcs hss p e s m args below meth c hctx H locs ls hlv hrep hS
        exact va_lald hx hb hKn hrep.1 q 3 hws rfl hin hd kk
    · exact absurd ht hbad
  · exact absurd ht hbad
theorem zi_iaload (hbad : ¬ tr bad) (hC : ∀ cs ss pc lo st h, tr (C cs ss pc lo st h) → zX l Γ al (d + 1) M QF cs ss pc lo st h) (hsc : ∀ x, sc = some x → (Γ.2.2.2.2.1, Γ.2.2.2.2.2.1) = x) (hd : decode M.2.1 pc = .ok (.iaload, len)) (hl : zlkB M.1.cls M.1.name pc (.iaload) len ex = true) (ht : tr (zins bad M al sc G K C cs ss pc lo st h ex (.iaload))) : zX l Γ al (d + 1) M QF cs ss pc lo st h := by
  intro hcs hss p e s m args below meth c hctx H locs ls hlv hrep hS
  obtain ⟨hx, hb, hml, hr, hown, hlk, hnm, hev⟩ := id hctx
  obtain ⟨hTb, hKn, hbs, ho, hstr, hz1, hz2, hscr, hthr⟩ := id hev
  have e : len = 1 := by simpa [zlkB] using hl
  subst e
  simp only [zins] at ht
  split at ht
  · rename_i j q st'
    split at ht
    · rename_i n hsh
      split at ht
      · exact absurd ht hbad
      · rename_i hin
        have hws := zws_at (Γ := Γ) hsh
        have kk := hC _ _ _ _ _ _ ht hcs hss p e s m args below meth c hctx H locs ls hlv hrep hS
        exact va_iald hx hb hKn hrep.1 q 0 hws rfl hin hd kk
    · exact absurd ht hbad
  · rename_i j q st'
    split at ht
    · rename_i hq
      subst hq
      split at ht
      · rename_i x
        have hx9 := hsc x rfl
        split at ht
        · exact absurd ht hbad
        · rename_i hin
          obtain ⟨b, e10, hX, hbA, hbl⟩ := hscr
          have kk := hC _ _ _ _ _ _ ht hcs hss p e s m args below meth c hctx H locs ls hlv hrep hS
          rw [List.map_cons, List.map_cons, show zcv Γ (.retAddr 10) = .ref b from e10]
          rw [← hx9] at kk hin
          exact va_sld hx hb hX hbl hbA hS hin hd kk
      · exact absurd ht hbad
    · exact absurd ht hbad
  · exact absurd ht hbad
theorem zi_baload (hbad : ¬ tr bad) (hC : ∀ cs ss pc lo st h, tr (C cs ss pc lo st h) → zX l Γ al (d + 1) M QF cs ss pc lo st h) (hd : decode M.2.1 pc = .ok (.baload, len)) (hl : zlkB M.1.cls M.1.name pc (.baload) len ex = true) (ht : tr (zins bad M al sc G K C cs ss pc lo st h ex (.baload))) : zX l Γ al (d + 1) M QF cs ss pc lo st h := by
  intro hcs hss p e s m args below meth c hctx H locs ls hlv hrep hS
  obtain ⟨hx, hb, hml, hr, hown, hlk, hnm, hev⟩ := id hctx
  obtain ⟨hTb, hKn, hbs, ho, hstr, hz1, hz2, hscr, hthr⟩ := id hev
  have e : len = 1 := by simpa [zlkB] using hl
  subst e
  simp only [zins] at ht
  split at ht
  · rename_i j q st'
    split at ht
    · rename_i n hsh
      split at ht
      · exact absurd ht hbad
      · rename_i hin
        have hws := zws_at (Γ := Γ) hsh
        have kk := hC _ _ _ _ _ _ ht hcs hss p e s m args below meth c hctx H locs ls hlv hrep hS
        exact va_bald hx hb hKn hrep.1 q 1 hws rfl hin hd kk
    · rename_i n hsh
      split at ht
      · exact absurd ht hbad
      · rename_i hin
        have hws := zws_at (Γ := Γ) hsh
        have kk := hC _ _ _ _ _ _ ht hcs hss p e s m args below meth c hctx H locs ls hlv hrep hS
        exact va_zald hx hb hKn hrep.1 q 2 hws rfl hin hd kk
    · exact absurd ht hbad
  · rename_i j q st'
    split at ht
    · rename_i hq
      subst hq
      split at ht
      · exact absurd ht hbad
      · rename_i hin
        obtain ⟨a0, a1, e0, e1, hvs, -⟩ := hstr
        have hvs0 := hvs.1 0 (by decide)
        have kk := hC _ _ _ _ _ _ ht hcs hss p e s m args below meth c hctx H locs ls hlv hrep hS
        rw [List.map_cons, List.map_cons, show zcv Γ (.retAddr 1) = .ref a1 from e1]
        have hT : va_T .byte a1 126 (fun j => .int (zwords.getD j 0)) (zA Γ) s s.heap := by
          have h9 := hvs0.2.2.2
          simp only [List.getD_cons_zero] at h9
          exact h9
        exact va_tb (v := .int (zwords.getD j.toNatClampNeg 0)) hx hb hT hS hin rfl hd kk
    · exact absurd ht hbad
  · exact absurd ht hbad
theorem zi_arraylength (hbad : ¬ tr bad) (hC : ∀ cs ss pc lo st h, tr (C cs ss pc lo st h) → zX l Γ al (d + 1) M QF cs ss pc lo st h) (hsc : ∀ x, sc = some x → (Γ.2.2.2.2.1, Γ.2.2.2.2.2.1) = x) (hd : decode M.2.1 pc = .ok (.arraylength, len)) (hl : zlkB M.1.cls M.1.name pc (.arraylength) len ex = true) (ht : tr (zins bad M al sc G K C cs ss pc lo st h ex (.arraylength))) : zX l Γ al (d + 1) M QF cs ss pc lo st h := by
  intro hcs hss p e s m args below meth c hctx H locs ls hlv hrep hS
  obtain ⟨hx, hb, hml, hr, hown, hlk, hnm, hev⟩ := id hctx
  obtain ⟨hTb, hKn, hbs, ho, hstr, hz1, hz2, hscr, hthr⟩ := id hev
  have e : len = 1 := by simpa [zlkB] using hl
  subst e
  simp only [zins] at ht
  split at ht
  · rename_i q st'
    split at ht
    · exact absurd ht hbad
    · rename_i n hsh
      have hws := zws_at (Γ := Γ) hsh
      have kk := hC _ _ _ _ _ _ ht hcs hss p e s m args below meth c hctx H locs ls hlv hrep hS
      exact va_alen hx hb hKn hrep.1 q 0 hws rfl rfl hd kk
    · rename_i n hsh
      have hws := zws_at (Γ := Γ) hsh
      have kk := hC _ _ _ _ _ _ ht hcs hss p e s m args below meth c hctx H locs ls hlv hrep hS
      exact va_alen hx hb hKn hrep.1 q 1 hws rfl rfl hd kk
    · rename_i n hsh
      have hws := zws_at (Γ := Γ) hsh
      have kk := hC _ _ _ _ _ _ ht hcs hss p e s m args below meth c hctx H locs ls hlv hrep hS
      exact va_alen hx hb hKn hrep.1 q 2 hws rfl rfl hd kk
    · rename_i n hsh
      have hws := zws_at (Γ := Γ) hsh
      have kk := hC _ _ _ _ _ _ ht hcs hss p e s m args below meth c hctx H locs ls hlv hrep hS
      exact va_alen hx hb hKn hrep.1 q 3 hws rfl rfl hd kk
    · exact absurd ht hbad
  · rename_i q st'
    split at ht
    · rename_i hq
      subst hq
      obtain ⟨a0, a1, e0, e1, hvs, -⟩ := hstr
      have hvs0 := hvs.1 0 (by decide)
      have kk := hC _ _ _ _ _ _ ht hcs hss p e s m args below meth c hctx H locs ls hlv hrep hS
      rw [List.map_cons, show zcv Γ (.retAddr 1) = .ref a1 from e1]
      exact va_tlen hx hb hvs0.2.2.2 hS rfl hd kk
    · split at ht
      · rename_i hq
        subst hq
        split at ht
        · rename_i x
          have hx9 := hsc x rfl
          obtain ⟨b, e10, hX, hbA, hbl⟩ := hscr
          have kk := hC _ _ _ _ _ _ ht hcs hss p e s m args below meth c hctx H locs ls hlv hrep hS
          rw [List.map_cons, show zcv Γ (.retAddr 10) = .ref b from e10]
          rw [← hx9] at kk
          exact va_slen hx hb hX hbl hbA hS hd kk
        · exact absurd ht hbad
      · exact absurd ht hbad
  · exact absurd ht hbad
theorem zi_iastore (hbad : ¬ tr bad) (hC : ∀ cs ss pc lo st h, tr (C cs ss pc lo st h) → zX l Γ al (d + 1) M QF cs ss pc lo st h) (hd : decode M.2.1 pc = .ok (.iastore, len)) (hl : zlkB M.1.cls M.1.name pc (.iastore) len ex = true) (ht : tr (zins bad M al sc G K C cs ss pc lo st h ex (.iastore))) : zX l Γ al (d + 1) M QF cs ss pc lo st h := by
  intro hcs hss p e s m args below meth c hctx H locs ls hlv hrep hS
  obtain ⟨hx, hb, hml, hr, hown, hlk, hnm, hev⟩ := id hctx
  obtain ⟨hTb, hKn, hbs, ho, hstr, hz1, hz2, hscr, hthr⟩ := id hev
  have e : len = 1 := by simpa [zlkB] using hl
  subst e
  simp only [zins] at ht
  split at ht
  · rename_i x j q st'
    split at ht
    · rename_i n hsh
      split at ht
      · exact absurd ht hbad
      · rename_i hin
        have hws := zws_at (Γ := Γ) hsh
        refine W.iast hx hb (hrep.1 q _ hws) ((hKn.2 0 _ rfl).1 n (fun j => .int (h.2.1 q j))) (fun z => by cases z) (by show ¬ (j < 0 ∨ (arrV _ _ _).slots.size ≤ _); rw [arrV_size]; exact hin) rfl rfl hd fun H1 e1 z oq => ?_
        obtain ⟨hP1, hS1⟩ := zarr (e1 := zcell Γ (zsI h q j.toNatClampNeg x) q (1, n)) hrep.1 (zws_D hrep.2.2.2) q hws hS e1 z oq (fun hh => by
          have e2 : vp_cell (Γ.2.1 1) (n, .inl (zu2 h.2.1 q j.toNatClampNeg x q)) = arrV (Γ.2.1 1) n (updV (fun j => .int (h.2.1 q j)) j.toNatClampNeg (.int x)) := by rw [vp_cell_i, zu2_upd, zupdV_i]
          exact hh.trans (congrArg some e2.symm))
        exact hC _ _ _ _ _ _ ht hcs hss p e s m args below meth c hctx H1 _ ls hlv (zrep_ast hrep hsh rfl (fun a ha => ⟨zu2_row ha, rfl, rfl⟩) z hP1) hS1
    · exact absurd ht hbad
  · exact absurd ht hbad
theorem zi_lastore (hbad : ¬ tr bad) (hC : ∀ cs ss pc lo st h, tr (C cs ss pc lo st h) → zX l Γ al (d + 1) M QF cs ss pc lo st h) (hd : decode M.2.1 pc = .ok (.lastore, len)) (hl : zlkB M.1.cls M.1.name pc (.lastore) len ex = true) (ht : tr (zins bad M al sc G K C cs ss pc lo st h ex (.lastore))) : zX l Γ al (d + 1) M QF cs ss pc lo st h := by
  intro hcs hss p e s m args below meth c hctx H locs ls hlv hrep hS
  obtain ⟨hx, hb, hml, hr, hown, hlk, hnm, hev⟩ := id hctx
  obtain ⟨hTb, hKn, hbs, ho, hstr, hz1, hz2, hscr, hthr⟩ := id hev
  have e : len = 1 := by simpa [zlkB] using hl
  subst e
  simp only [zins] at ht
  split at ht
  · rename_i x j q st'
    split at ht
    · rename_i n hsh
      split at ht
      · exact absurd ht hbad
      · rename_i hin
        have hws := zws_at (Γ := Γ) hsh
        refine W.last hx hb (hrep.1 q _ hws) ((hKn.2 3 _ rfl).1 n (fun j => .long (h.2.2.1 q j))) (fun z => by cases z) (by show ¬ (j < 0 ∨ (arrV _ _ _).slots.size ≤ _); rw [arrV_size]; exact hin) rfl rfl hd fun H1 e1 z oq => ?_
        obtain ⟨hP1, hS1⟩ := zarr (e1 := zcell Γ (zsL h q j.toNatClampNeg x) q (4, n)) hrep.1 (zws_D hrep.2.2.2) q hws hS e1 z oq (fun hh => by
          have e2 : vp_cell (Γ.2.1 4) (n, .inr (.inl (zu2 h.2.2.1 q j.toNatClampNeg x q))) = arrV (Γ.2.1 4) n (updV (fun j => .long (h.2.2.1 q j)) j.toNatClampNeg (.long x)) := by rw [vp_cell_l, zu2_updL, zupdV_l]
          exact hh.trans (congrArg some e2.symm))
        exact hC _ _ _ _ _ _ ht hcs hss p e s m args below meth c hctx H1 _ ls hlv (zrep_ast hrep hsh rfl (fun a ha => ⟨rfl, zu2_row ha, rfl⟩) z hP1) hS1
    · exact absurd ht hbad
  · exact absurd ht hbad
theorem zi_bastore (hbad : ¬ tr bad) (hC : ∀ cs ss pc lo st h, tr (C cs ss pc lo st h) → zX l Γ al (d + 1) M QF cs ss pc lo st h) (hd : decode M.2.1 pc = .ok (.bastore, len)) (hl : zlkB M.1.cls M.1.name pc (.bastore) len ex = true) (ht : tr (zins bad M al sc G K C cs ss pc lo st h ex (.bastore))) : zX l Γ al (d + 1) M QF cs ss pc lo st h := by
  intro hcs hss p e s m args below meth c hctx H locs ls hlv hrep hS
  obtain ⟨hx, hb, hml, hr, hown, hlk, hnm, hev⟩ := id hctx
  obtain ⟨hTb, hKn, hbs, ho, hstr, hz1, hz2, hscr, hthr⟩ := id hev
  have e : len = 1 := by simpa [zlkB] using hl
  subst e
  simp only [zins] at ht
  split at ht
  · rename_i x j q st'
    split at ht
    · rename_i n hsh
      split at ht
      · exact absurd ht hbad
      · rename_i hin
        have hws := zws_at (Γ := Γ) hsh
        refine W.bast hx hb (hrep.1 q _ hws) ((hKn.2 1 _ rfl).1 n (fun j => .int (h.2.1 q j))) (fun z => by cases z) (by show ¬ (j < 0 ∨ (arrV _ _ _).slots.size ≤ _); rw [arrV_size]; exact hin) rfl rfl hd fun H1 e1 z oq => ?_
        obtain ⟨hP1, hS1⟩ := zarr (e1 := zcell Γ (zsI h q j.toNatClampNeg x.toInt8.toInt32) q (2, n)) hrep.1 (zws_D hrep.2.2.2) q hws hS e1 z oq (fun hh => by
          have e2 : vp_cell (Γ.2.1 2) (n, .inl (zu2 h.2.1 q j.toNatClampNeg x.toInt8.toInt32 q)) = arrV (Γ.2.1 2) n (updV (fun j => .int (h.2.1 q j)) j.toNatClampNeg (.int x.toInt8.toInt32)) := by rw [vp_cell_i, zu2_upd, zupdV_i]
          exact hh.trans (congrArg some e2.symm))
        exact hC _ _ _ _ _ _ ht hcs hss p e s m args below meth c hctx H1 _ ls hlv (zrep_ast hrep hsh rfl (fun a ha => ⟨zu2_row ha, rfl, rfl⟩) z hP1) hS1
    · rename_i n hsh
      split at ht
      · exact absurd ht hbad
      · rename_i hin
        have hws := zws_at (Γ := Γ) hsh
        refine W.zast hx hb (hrep.1 q _ hws) ((hKn.2 2 _ rfl).1 n (fun j => .int (h.2.1 q j))) (fun z => by cases z) (by show ¬ (j < 0 ∨ (arrV _ _ _).slots.size ≤ _); rw [arrV_size]; exact hin) rfl rfl hd fun H1 e1 z oq => ?_
        obtain ⟨hP1, hS1⟩ := zarr (e1 := zcell Γ (zsI h q j.toNatClampNeg (x &&& 1)) q (3, n)) hrep.1 (zws_D hrep.2.2.2) q hws hS e1 z oq (fun hh => by
          have e2 : vp_cell (Γ.2.1 3) (n, .inl (zu2 h.2.1 q j.toNatClampNeg (x &&& 1) q)) = arrV (Γ.2.1 3) n (updV (fun j => .int (h.2.1 q j)) j.toNatClampNeg (.int (x &&& 1))) := by rw [vp_cell_i, zu2_upd, zupdV_i]
          exact hh.trans (congrArg some e2.symm))
        exact hC _ _ _ _ _ _ ht hcs hss p e s m args below meth c hctx H1 _ ls hlv (zrep_ast hrep hsh rfl (fun a ha => ⟨zu2_row ha, rfl, rfl⟩) z hP1) hS1
    · exact absurd ht hbad
  · exact absurd ht hbad
end ZI
