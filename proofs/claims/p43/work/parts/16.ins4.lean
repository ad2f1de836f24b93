def zaR {α : Type} (f : α → Bool) : Lean.RArray α → Bool
  | .leaf a => f a
  | .branch _ l r => zaR f l && zaR f r
theorem zaR_get {α : Type} {f : α → Bool} : ∀ (a : Lean.RArray α), zaR f a = true → ∀ n, f (a.get n) = true
  | .leaf x, h, n => h
  | .branch p l r, h, n => by
    simp only [zaR, Bool.and_eq_true] at h
    show f ((Nat.ble p n).rec (l.get n) (r.get n)) = true
    cases Nat.ble p n
    · exact zaR_get l h.1 n
    · exact zaR_get r h.2 n
theorem zk9_all : zaR (zaR (fun k => !Nat.beq 9 k)) zkR = true := by decide +kernel
theorem zk9 (ci j : Nat) : ¬ 9 = zkind ci j := by
  intro h
  have h1 : (!Nat.beq 9 (zkind ci j)) = true := zaR_get _ (zaR_get _ zk9_all ci) j
  rw [← h] at h1
  cases h1
theorem zsw_T {ρ : Type} {tr : ρ → Prop} {F : Nat → ρ} {pc : Nat} {x : Int32} {d : Nat} : ∀ (os : List Int) (lo : Int) (r : List Nat), ztb pc lo os r = true → tr (zsw F x d r) →
    (∃ (k t : Nat) (o : Int), x.toInt = lo + k ∧ os[k]? = some o ∧ (pc : Int) + o = (t : Int) ∧ tr (F t)) ∨ ((x.toInt < lo ∨ lo + os.length ≤ x.toInt) ∧ tr (F d))
  | [], lo, [], _, ht => by
    refine Or.inr ⟨?_, ht⟩
    simp only [List.length_nil]
    omega
  | [], _, _ :: _, h, _ => by simp [ztb] at h
  | _ :: _, _, [], h, _ => by simp [ztb] at h
  | _ :: _, _, [_], h, _ => by simp [ztb] at h
  | o :: os, lo, v :: t :: r, h, ht => by
    simp only [ztb, Bool.and_eq_true, decide_eq_true_eq] at h
    obtain ⟨⟨h1, h2⟩, h3⟩ := h
    simp only [zsw] at ht
    split at ht
    · rename_i e
      exact Or.inl ⟨0, t, o, by rw [e, h1]; simp, rfl, h2, ht⟩
    · rename_i e
      rcases zsw_T os (lo + 1) r h3 ht with ⟨k, t', o', q1, q2, q3, q4⟩ | ⟨q1, q2⟩
      · exact Or.inl ⟨k + 1, t', o', by rw [q1]; push_cast; omega, by simpa using q2, q3, q4⟩
      · refine Or.inr ⟨?_, q2⟩
        have hne : x.toInt ≠ lo := fun q => e (Int32.toInt_inj.mp (by rw [q, h1]))
        simp only [List.length_cons]
        push_cast
        omega
theorem zsw_L {ρ : Type} {tr : ρ → Prop} {F : Nat → ρ} {pc : Nat} {x : Int32} {d : Nat} {df : Int} (hd : (pc : Int) + df = (d : Int)) : ∀ (ps : List (Int × Int)) (r : List Nat), zlb pc ps r = true → tr (zsw F x d r) →
    ∃ (t : Nat) (o : Int), Op.lookupswitch.offset ps df x.toInt = o ∧ (pc : Int) + o = (t : Int) ∧ tr (F t)
  | [], [], _, ht => ⟨d, df, rfl, hd, ht⟩
  | [], _ :: _, h, _ => by simp [zlb] at h
  | _ :: _, [], h, _ => by simp [zlb] at h
  | _ :: _, [_], h, _ => by simp [zlb] at h
  | (a, o) :: ps, v :: t :: r, h, ht => by
    simp only [zlb, Bool.and_eq_true, decide_eq_true_eq] at h
    obtain ⟨⟨h1, h2⟩, h3⟩ := h
    simp only [zsw] at ht
    split at ht
    · rename_i e
      exact ⟨t, o, by rw [e, h1]; simp [Op.lookupswitch.offset], h2, ht⟩
    · rename_i e
      obtain ⟨t', o', q1, q2, q3⟩ := zsw_L hd ps r h3 ht
      exact ⟨t', o', by rw [lv_osw e h1]; exact q1, q2, q3⟩
theorem zml_ok {own : String} {idx mi p nest : Nat} (h : zml own idx mi p nest = true) : (nest = 0 ∧ zwat p = some (.methodLink own idx (zhd mi).1)) ∨ (nest ≠ 0 ∧ zwat p = some (.methodLinkNest own idx (zhd mi).1 "SandHours")) := by
  unfold zml at h
  split at h
  · rename_i e
    exact Or.inl ⟨e, by simpa using h⟩
  · rename_i e
    exact Or.inr ⟨e, by simpa using h⟩
theorem zmono {p : Program} {l : Launch} {e : Env} {R : Room} {s : State} {m : MethodId} {args : Array Value} {below : List Frame} {meth : Method} {c : Code} {H : Heap} {locs : List Loc} {cells slots : Nat} {Q Q' : State → Prop} {g : JFrame} (hQ : ∀ t, Q t → Q' t) (h : W p l e R s m args below meth c H locs cells slots Q g) : W p l e R s m args below meth c H locs cells slots Q' g := by
  intro T hT X
  obtain ⟨t, a, b⟩ := h T hT X
  exact ⟨t, a, hQ t b⟩
section ZI
variable {ρ : Type} {bad : ρ} {tr : ρ → Prop} {l : Launch} {Γ : zG} {al : Bool} {d : Nat} {M : zHd} {G : Nat → List Value → zH → (Option Value → zH → ρ) → ρ} {K : Option Value → zH → ρ} {QF : List Frame → Array Value → State → State → Prop} {sc : Option (Nat × (Nat → Int32))} {C : Nat → Nat → Nat → zL → List Value → zH → ρ}
  {cs ss pc len : Nat} {lo : zL} {st : List Value} {h : zH} {ex : List Nat}

theorem zi_new {idx : Nat} (hbad : ¬ tr bad) (hC : ∀ cs ss pc lo st h, tr (C cs ss pc lo st h) → zX l Γ al (d + 1) M QF cs ss pc lo st h) (hd : decode M.2.1 pc = .ok (.new idx, len)) (hl : zlkB M.1.cls M.1.name pc (.new idx) len ex = true) (ht : tr (zins bad M al sc G K C cs ss pc lo st h ex (.new idx))) : zX l Γ al (d + 1) M QF cs ss pc lo st h := by
  intro hcs hss p e s m args below meth c hctx H locs ls hlv hrep hS
  obtain ⟨hx, hb, hml, hr, hown, hlk, hnm, hev⟩ := id hctx
  obtain ⟨hTb, hKn, hbs, ho, hstr, hz1, hz2, hscr, hthr⟩ := id hev
  simp only [zlkB, Bool.and_eq_true, beq_iff_eq] at hl
  obtain ⟨e, hl⟩ := hl
  subst e
  simp only [zins] at ht
  split at ht
  · rename_i ci n pl pi pt
    split at ht
    · rename_i hcond
      obtain ⟨hal, hc1, hc2⟩ := hcond
      subst hal
      cases hc : classes[ci]? with
      | some r =>
        simp only [hc, Bool.and_eq_true, decide_eq_true_eq] at hl
        obtain ⟨⟨⟨e1, w1⟩, w2⟩, w3⟩ := hl
        subst e1
        obtain ⟨hNF, hty, hkd, hnmd⟩ := zcl_ok hc
        have hKc := hKn.1 ci _ hc
        refine W.newcK hx hb hown (zTb_at hTb w1 rfl args) (zTb_at hTb w2 rfl args) (zTb_at hTb w3 rfl args) rfl hd hc1 hc2 hKc.2.1 rfl fun H1 kC hkC e1 z1 o1 => ?_
        have hsz := (hrep.2.2.1 rfl).1
        have hcv : zcv Γ (.ref h.1.length) = .ref H.size := by simp only [zcv, hsz]
        have hb2 := u_born (zty r) (zTb_u hTb hc args) (fun _ h => h) hKc hkC e1 hty
        have kk := hC _ _ _ _ _ _ ht hc1 hc2 p e s m args below meth c hctx H1 locs ls hlv (zrep_new hrep z1 o1 ?_) (zS_new hS z1 o1)
        · rw [List.map_cons, hcv] at kk
          exact kk
        · rw [← hsz]
          refine ⟨r, hc, hb2.to (fun j hj => ?_)⟩
          have hlt : j < zNF ci := by rw [hNF]; exact hj
          have e9 : vp_V ((List.range (zNF ci)).map (zfv Γ (znew h (0, ci)) ci h.1.length)) j = zfv Γ (znew h (0, ci)) ci h.1.length j := by
            simp [vp_V, List.getD_eq_getElem?_getD, hlt]
          show defaultValue (zty r j) = vp_V ((List.range (zNF ci)).map (zfv Γ (znew h (0, ci)) ci h.1.length)) j
          rw [e9]
          have hk := hkd j hj
          unfold zfv
          rw [← hk]
          cases hz : zty r j <;> simp [zkof, defaultValue, znew, zur] <;> (rw [hz] at hk; simp [zkof] at hk; exact absurd hk (zk9 ci j))
      | none => simp [hc] at hl
    · exact absurd ht hbad
  · exact absurd ht hbad
theorem zi_newarray {a : ArrayType} (hbad : ¬ tr bad) (hC : ∀ cs ss pc lo st h, tr (C cs ss pc lo st h) → zX l Γ al (d + 1) M QF cs ss pc lo st h) (hd : decode M.2.1 pc = .ok (.newarray a, len)) (hl : zlkB M.1.cls M.1.name pc (.newarray a) len ex = true) (ht : tr (zins bad M al sc G K C cs ss pc lo st h ex (.newarray a))) : zX l Γ al (d + 1) M QF cs ss pc lo st h := by
  intro hcs hss p e s m args below meth c hctx H locs ls hlv hrep hS
  obtain ⟨hx, hb, hml, hr, hown, hlk, hnm, hev⟩ := id hctx
  obtain ⟨hTb, hKn, hbs, ho, hstr, hz1, hz2, hscr, hthr⟩ := id hev
  simp only [zlkB, Bool.and_eq_true, beq_iff_eq] at hl
  obtain ⟨e, hl⟩ := hl
  subst e
  simp only [zins] at ht
  split at ht
  · rename_i t pp n st'
    split at ht
    · rename_i hcond
      obtain ⟨hal, hn, hN, hc1, hc2⟩ := hcond
      subst hal
      simp only [Bool.and_eq_true, decide_eq_true_eq] at hl
      obtain ⟨ha, hw⟩ := hl
      have hsz := (hrep.2.2.1 rfl).1
      have hcv : zcv Γ (.ref h.1.length) = .ref H.size := by simp only [zcv, hsz]
      have hby : n.toNatClampNeg * componentBytes (newarray.typeOf a) ≤ 536870912 := by
        have : componentBytes (newarray.typeOf a) ≤ 8 := by rcases ha with ⟨-, rfl⟩ | ⟨-, rfl⟩ | ⟨-, rfl⟩ | ⟨-, rfl⟩ <;> decide
        calc n.toNatClampNeg * componentBytes (newarray.typeOf a) ≤ 100000 * 8 := Nat.mul_le_mul hN this
          _ ≤ 536870912 := by decide
      refine va_newaK hx hb (zTb_at hTb hw rfl args) rfl hd rfl hn rfl hby hc1 hc2 rfl fun H1 cA e1 z1 o1 hAr hNm => ?_
      have kk := hC _ _ _ _ _ _ ht hc1 hc2 p e s m args below meth c hctx H1 locs ls hlv (zrep_new hrep z1 o1 ?_) (zS_new hS z1 o1)
      · rw [List.map_cons, hcv] at kk
        exact kk
      · rw [← hsz]
        rcases ha with ⟨rfl, rfl⟩ | ⟨rfl, rfl⟩ | ⟨rfl, rfl⟩ | ⟨rfl, rfl⟩
        · have e2 : cA = Γ.2.1 1 := Option.some.inj (hNm.symm.trans (hKn.2 0 _ rfl).2)
          subst e2
          show H1[H.size]? = some (vp_cell (Γ.2.1 1) (n.toNatClampNeg, .inl (zur h.2.1 h.1.length (fun _ => 0) h.1.length)))
          rw [zur_at, vp_cell_i]; exact e1
        · have e2 : cA = Γ.2.1 2 := Option.some.inj (hNm.symm.trans (hKn.2 1 _ rfl).2)
          subst e2
          show H1[H.size]? = some (vp_cell (Γ.2.1 2) (n.toNatClampNeg, .inl (zur h.2.1 h.1.length (fun _ => 0) h.1.length)))
          rw [zur_at, vp_cell_i]; exact e1
        · have e2 : cA = Γ.2.1 3 := Option.some.inj (hNm.symm.trans (hKn.2 2 _ rfl).2)
          subst e2
          show H1[H.size]? = some (vp_cell (Γ.2.1 3) (n.toNatClampNeg, .inl (zur h.2.1 h.1.length (fun _ => 0) h.1.length)))
          rw [zur_at, vp_cell_i]; exact e1
        · have e2 : cA = Γ.2.1 4 := Option.some.inj (hNm.symm.trans (hKn.2 3 _ rfl).2)
          subst e2
          show H1[H.size]? = some (vp_cell (Γ.2.1 4) (n.toNatClampNeg, .inr (.inl (zur h.2.2.1 h.1.length (fun _ => 0) h.1.length))))
          rw [zur_at, vp_cell_l]; exact e1
    · exact absurd ht hbad
  · exact absurd ht hbad
theorem zi_tableswitch {df lo9 hi : Int} {os : Array Int} (hbad : ¬ tr bad) (hC : ∀ cs ss pc lo st h, tr (C cs ss pc lo st h) → zX l Γ al (d + 1) M QF cs ss pc lo st h) (hd : decode M.2.1 pc = .ok (.tableswitch df lo9 hi os, len)) (hl : zlkB M.1.cls M.1.name pc (.tableswitch df lo9 hi os) len ex = true) (ht : tr (zins bad M al sc G K C cs ss pc lo st h ex (.tableswitch df lo9 hi os))) : zX l Γ al (d + 1) M QF cs ss pc lo st h := by
  intro hcs hss p e s m args below meth c hctx H locs ls hlv hrep hS
  obtain ⟨hx, hb, hml, hr, hown, hlk, hnm, hev⟩ := id hctx
  obtain ⟨hTb, hKn, hbs, ho, hstr, hz1, hz2, hscr, hthr⟩ := id hev
  simp only [zins] at ht
  split at ht
  · rename_i d9 r9 x st'
    simp only [zlkB, Bool.and_eq_true, decide_eq_true_eq] at hl
    obtain ⟨⟨h1, h2⟩, h3⟩ := hl
    have hos : os.toList.length = os.size := by simp
    rcases zsw_T (tr := tr) os.toList lo9 r9 h3 ht with ⟨k, t, oo, q1, q2, q3, q4⟩ | ⟨q1, q2⟩
    · have hk := (List.getElem?_eq_some_iff.mp q2).1
      refine lv_tableIn hx hb hd (by omega) (by omega) (off := oo) ?_ q3 (hC _ _ _ _ _ _ q4 hcs hss p e s m args below meth c hctx H locs ls hlv hrep hS)
      rw [show (x.toInt - lo9).toNat = k by omega, ← Array.getElem?_toList]
      exact q2
    · exact lv_tableOut hx hb hd (by omega) h1 (hC _ _ _ _ _ _ q2 hcs hss p e s m args below meth c hctx H locs ls hlv hrep hS)
  · exact absurd ht hbad
theorem zi_lookupswitch {df : Int} {ps : Array (Int × Int)} (hbad : ¬ tr bad) (hC : ∀ cs ss pc lo st h, tr (C cs ss pc lo st h) → zX l Γ al (d + 1) M QF cs ss pc lo st h) (hd : decode M.2.1 pc = .ok (.lookupswitch df ps, len)) (hl : zlkB M.1.cls M.1.name pc (.lookupswitch df ps) len ex = true) (ht : tr (zins bad M al sc G K C cs ss pc lo st h ex (.lookupswitch df ps))) : zX l Γ al (d + 1) M QF cs ss pc lo st h := by
  intro hcs hss p e s m args below meth c hctx H locs ls hlv hrep hS
  obtain ⟨hx, hb, hml, hr, hown, hlk, hnm, hev⟩ := id hctx
  obtain ⟨hTb, hKn, hbs, ho, hstr, hz1, hz2, hscr, hthr⟩ := id hev
  simp only [zins] at ht
  split at ht
  · rename_i d9 r9 x st'
    simp only [zlkB, Bool.and_eq_true, decide_eq_true_eq] at hl
    obtain ⟨⟨h1, h2⟩, h3⟩ := hl
    obtain ⟨t, oo, q1, q2, q3⟩ := zsw_L (tr := tr) h1 ps.toList r9 h3 ht
    exact lv_lookup hx hb hd h2 q1 q2 (hC _ _ _ _ _ _ q3 hcs hss p e s m args below meth c hctx H locs ls hlv hrep hS)
  · exact absurd ht hbad
theorem zi_ireturn (hbad : ¬ tr bad) (hC : ∀ cs ss pc lo st h, tr (C cs ss pc lo st h) → zX l Γ al (d + 1) M QF cs ss pc lo st h) (hQ : ∀ below args s t, MQ below (zQ Γ al (fun r h' => tr (K r h'))) args s M.2.2.2.2.1 M.2.2.2.2.2 (zA Γ) t → QF below args s t) (hd : decode M.2.1 pc = .ok (.ireturn, len)) (hl : zlkB M.1.cls M.1.name pc (.ireturn) len ex = true) (ht : tr (zins bad M al sc G K C cs ss pc lo st h ex (.ireturn))) : zX l Γ al (d + 1) M QF cs ss pc lo st h := by
  intro hcs hss p e s m args below meth c hctx H locs ls hlv hrep hS
  obtain ⟨hx, hb, hml, hr, hown, hlk, hnm, hev⟩ := id hctx
  obtain ⟨hTb, hKn, hbs, ho, hstr, hz1, hz2, hscr, hthr⟩ := id hev
  have e : len = 1 := by simpa [zlkB] using hl
  subst e
  simp only [zins] at ht
  split at ht
  · rename_i v
    split at ht
    · rename_i hrt
      rw [hrt] at hr
      exact zmono (hQ _ _ _) (W.widen hcs hss (W.iret hx hb hr (fun t ht9 hW => ⟨⟨some (.int v), h, rfl, ht, by rw [ht9]; exact hrep⟩, hS.F ht9⟩) hS.2.2 hd hlk))
    · rename_i ty _ hrt
      rw [hrt] at hr
      split at ht
      · rename_i hn
        exact zmono (hQ _ _ _) (W.widen hcs hss (W.zret hx hb hr hn (fun t ht9 hW => ⟨⟨some (.int v), h, rfl, ht, by rw [ht9]; exact hrep⟩, hS.F ht9⟩) hS.2.2 hd hlk))
      · exact absurd ht hbad
    · exact absurd ht hbad
  · exact absurd ht hbad
theorem zi_lreturn (hbad : ¬ tr bad) (hC : ∀ cs ss pc lo st h, tr (C cs ss pc lo st h) → zX l Γ al (d + 1) M QF cs ss pc lo st h) (hQ : ∀ below args s t, MQ below (zQ Γ al (fun r h' => tr (K r h'))) args s M.2.2.2.2.1 M.2.2.2.2.2 (zA Γ) t → QF below args s t) (hd : decode M.2.1 pc = .ok (.lreturn, len)) (hl : zlkB M.1.cls M.1.name pc (.lreturn) len ex = true) (ht : tr (zins bad M al sc G K C cs ss pc lo st h ex (.lreturn))) : zX l Γ al (d + 1) M QF cs ss pc lo st h := by
  intro hcs hss p e s m args below meth c hctx H locs ls hlv hrep hS
  obtain ⟨hx, hb, hml, hr, hown, hlk, hnm, hev⟩ := id hctx
  obtain ⟨hTb, hKn, hbs, ho, hstr, hz1, hz2, hscr, hthr⟩ := id hev
  have e : len = 1 := by simpa [zlkB] using hl
  subst e
  simp only [zins] at ht
  split at ht
  · rename_i v
    split at ht
    · rename_i hrt
      rw [hrt] at hr
      exact zmono (hQ _ _ _) (W.widen hcs hss (W.lret hx hb hr (fun t ht9 hW => ⟨⟨some (.long v), h, rfl, ht, by rw [ht9]; exact hrep⟩, hS.F ht9⟩) hS.2.2 hd hlk))
    · exact absurd ht hbad
  · exact absurd ht hbad
theorem zi_return_ (hbad : ¬ tr bad) (hC : ∀ cs ss pc lo st h, tr (C cs ss pc lo st h) → zX l Γ al (d + 1) M QF cs ss pc lo st h) (hQ : ∀ below args s t, MQ below (zQ Γ al (fun r h' => tr (K r h'))) args s M.2.2.2.2.1 M.2.2.2.2.2 (zA Γ) t → QF below args s t) (hd : decode M.2.1 pc = .ok (.return_, len)) (hl : zlkB M.1.cls M.1.name pc (.return_) len ex = true) (ht : tr (zins bad M al sc G K C cs ss pc lo st h ex (.return_))) : zX l Γ al (d + 1) M QF cs ss pc lo st h := by
  intro hcs hss p e s m args below meth c hctx H locs ls hlv hrep hS
  obtain ⟨hx, hb, hml, hr, hown, hlk, hnm, hev⟩ := id hctx
  obtain ⟨hTb, hKn, hbs, ho, hstr, hz1, hz2, hscr, hthr⟩ := id hev
  have e : len = 1 := by simpa [zlkB] using hl
  subst e
  simp only [zins] at ht
  split at ht
  · split at ht
    · rename_i hrt
      rw [hrt] at hr
      exact zmono (hQ _ _ _) (W.widen hcs hss (W.vret hx hb hr (fun t ht9 hW => ⟨⟨none, h, rfl, ht, by rw [ht9]; exact hrep⟩, hS.F ht9⟩) hS.2.2 hd hlk))
    · exact absurd ht hbad
  · exact absurd ht hbad
end ZI
