def zc177 : Lean.RArray zEn := .branch 13 (.branch 4 (.branch 2 (.branch 1 (.leaf (0, .aload_n 3, 1, [])) (.leaf (1, .iconst 0, 1, []))) (.branch 3 (.leaf (2, .aload_n 0, 1, [])) (.leaf (3, .iload_n 1, 1, [])))) (.branch 9 (.branch 8 (.leaf (4, .iload_n 2, 1, [])) (.leaf (8, .i2l, 1, []))) (.branch 10 (.leaf (9, .lastore, 1, [])) (.leaf (10, .goto 11, 3, [21]))))) (.branch 19 (.branch 16 (.branch 15 (.leaf (13, .astore 4, 2, [])) (.leaf (15, .iconst 1, 1, []))) (.branch 17 (.leaf (16, .ireturn, 1, [])) (.leaf (17, .astore 4, 2, [])))) (.branch 21 (.branch 20 (.leaf (19, .iconst 2, 1, [])) (.leaf (20, .ireturn, 1, []))) (.branch 22 (.leaf (21, .iconst 0, 1, [])) (.leaf (22, .ireturn, 1, [])))))
theorem zckm177 : zckB (zh177, zc177) = true := by decide +kernel
theorem zeqC_of {h g : zH} {q : Nat} {s : zSh} (e1 : h.2.1 q = g.2.1 q) (e2 : h.2.2.1 q = g.2.2.1 q) (e3 : h.2.2.2 q = g.2.2.2 q) : zeqC h g q s = true := by
  unfold zeqC
  rw [e1, e2, e3]
  split
  · refine List.all_eq_true.mpr (fun k _ => ?_)
    split <;> exact decide_eq_true rfl
  · split
    · exact List.all_eq_true.mpr (fun k _ => decide_eq_true rfl)
    · exact List.all_eq_true.mpr (fun k _ => decide_eq_true rfl)
theorem zW_u {f1 f2 : zH} {u v : Int64} (h1 : f1.1 = zshC) (h2 : f2.1 = zshM) (q : Nat) : (zW f1 f2 u).2.1 q = (zW f1 f2 v).2.1 q ∧ (zW f1 f2 u).2.2.2 q = (zW f1 f2 v).2.2.2 q ∧ (q < 142 → (zW f1 f2 u).2.2.1 q = (zW f1 f2 v).2.2.1 q) ∧ (zW f1 f2 v).2.2.1 142 0 = v := by
  have l1 : f1.1.length = 98 := by rw [h1]; decide
  have l2 : f2.1.length = 44 := by rw [h2]; decide
  refine ⟨?_, ?_, fun hq => ?_, ?_⟩
  · funext k
    simp only [zW, zjn, zB, l1, l2]
  · funext k
    simp only [zW, zjn, zB, l1, l2]
  · funext k
    simp only [zW, zjn, zB, l1, l2, Nat.zero_add, Nat.not_lt_zero, if_false]
    by_cases c1 : q < 98
    · simp only [c1, if_true]
    · have c2 : q < 98 + 44 := by omega
      simp only [c1, c2, if_true, if_false]
  · simp [zW, zjn, zB, l1, l2]
theorem zeqB_out {f1 f2 : zH} {u v : Int64} (h1 : f1.1 = zshC) (h2 : f2.1 = zshM) : zeqB (zsL (zW f1 f2 u) 142 0 v) (zW f1 f2 v) = true := by
  unfold zeqB
  have e0 : (zsL (zW f1 f2 u) 142 0 v).1 = zshW := zW_1 h1 h2
  rw [e0, zW_1 h1 h2]
  rw [decide_eq_true rfl, Bool.true_and]
  refine List.all_eq_true.mpr (fun x hx => ?_)
  obtain ⟨hlt, hval⟩ := List.mem_zipIdx' hx
  by_cases h9 : x.2 = 142
  · have hs : x.1 = (4, 1) := by
      rw [hval]
      have : zshW[x.2]? = some (4, 1) := by rw [h9]; decide +kernel
      exact Option.some.inj ((List.getElem?_eq_getElem hlt).symm.trans this)
    rw [hs, h9]
    unfold zeqC
    rw [if_neg (by decide), if_pos rfl]
    refine List.all_eq_true.mpr (fun k hk => decide_eq_true ?_)
    have hk0 : k = 0 := by
      have := List.mem_range.mp hk
      have : k < 1 := this
      omega
    subst hk0
    rw [(zW_u (u := u) (v := v) h1 h2 142).2.2.2]
    show zu2 (zW f1 f2 u).2.2.1 142 0 v 142 0 = v
    simp only [zu2, if_true]
  · have hl : x.2 < 142 := by
      have : zshW.length = 143 := zshW_len
      omega
    have hz := zW_u (u := u) (v := v) h1 h2 x.2
    refine zeqC_of hz.1 ?_ hz.2.1
    show zu2 (zW f1 f2 u).2.2.1 142 0 v x.2 = _
    rw [zu2_row h9]
    exact hz.2.2.1 hl
def zKgl (f1 f2 : zH) : Option Value → zH → Prop := fun r h' => (∃ x, r = some (.int x)) ∧ ∃ u', h' = zW f1 f2 u'
set_option maxRecDepth 100000 in
set_option maxHeartbeats 4000000 in
theorem zglassE (l : Launch) (Γ : zG) {f1 f2 : zH} {u : Int64} {pc : Nat} (hpc : pc = 15 ∨ pc = 19 ∨ pc = 21) (lo : zL) : zX l Γ false 10 zh177 (zMQ' Γ false zh177 (zKgl f1 f2)) 1 6 pc lo [] (zW f1 f2 u) := by
  rcases hpc with rfl | rfl | rfl
  all_goals
    refine zX_sub (lo2 := []) (fun _ h => (nomatch h)) ?_
    refine zpcF (M := (zh177, zc177)) (K := zKgl f1 f2) 100 24 rfl zckm177 (fun _ _ _ _ h => h) ?_
    exact ⟨⟨_, rfl⟩, _, rfl⟩
set_option maxRecDepth 100000 in
set_option maxHeartbeats 4000000 in
theorem zglassR (l : Launch) (Γ : zG) {f1 f2 : zH} {u : Int64} (h1 : f1.1 = zshC) (h2 : f2.1 = zshM) (x : Int32) (lo : zL) : zX l Γ false 10 zh177 (zMQ' Γ false zh177 (zKgl f1 f2)) 1 6 8 lo [.int x, .int (Int32.ofInt 0), .ref 142] (zW f1 f2 u) := by
  refine zX_sub (lo2 := []) (fun _ h => (nomatch h)) ?_
  have hsh : (zW f1 f2 u).1[142]? = some (4, 1) := by rw [zW_1 h1 h2]; decide +kernel
  have step : ∀ pc lo st h, zstep (ρ := Prop) False (zh177, zc177) false none (fun _ _ _ _ => False) (zKgl f1 f2) (fun cs ss pc lo st h => zX l Γ false 10 zh177 (zMQ' Γ false zh177 (zKgl f1 f2)) cs ss pc lo st h) 1 6 pc lo st h → zX l Γ false 10 zh177 (zMQ' Γ false zh177 (zKgl f1 f2)) 1 6 pc lo st h := fun pc lo st h hz =>
    zstep_ok (ρ := Prop) (bad := False) (tr := fun P => P) (sc := none) (G := fun _ _ _ _ => False) (K := zKgl f1 f2) (C := fun cs ss pc lo st h => zX l Γ false 10 zh177 (zMQ' Γ false zh177 (zKgl f1 f2)) cs ss pc lo st h) (fun h => h) zckm177 (fun _ _ _ _ _ h => h.elim) (fun _ _ _ h => h.elim) (fun _ h => by cases h) (fun _ _ _ _ h => h) (fun _ _ _ _ _ _ h => h) hz
  refine step 8 [] _ _ ?_
  show zX l Γ false 10 zh177 (zMQ' Γ false zh177 (zKgl f1 f2)) 1 6 9 [] [.long x.toInt64, .int (Int32.ofInt 0), .ref 142] (zW f1 f2 u)
  refine step 9 [] _ _ ?_
  show (match (zW f1 f2 u).1[142]? with
      | some (4, n) => if Int32.ofInt 0 < 0 ∨ n ≤ (Int32.ofInt 0).toNatClampNeg then False else zX l Γ false 10 zh177 (zMQ' Γ false zh177 (zKgl f1 f2)) 1 6 10 [] [] (zsL (zW f1 f2 u) 142 (Int32.ofInt 0).toNatClampNeg x.toInt64)
      | _ => False)
  rw [hsh]
  show (if Int32.ofInt 0 < 0 ∨ 1 ≤ (Int32.ofInt 0).toNatClampNeg then False else zX l Γ false 10 zh177 (zMQ' Γ false zh177 (zKgl f1 f2)) 1 6 10 [] [] (zsL (zW f1 f2 u) 142 (Int32.ofInt 0).toNatClampNeg x.toInt64))
  rw [if_neg (by decide)]
  refine zX_congr (g := zW f1 f2 x.toInt64) (zeqB_out h1 h2) ?_
  refine step 10 [] _ _ ?_
  exact zglassE l Γ (Or.inr (Or.inr rfl)) []
set_option maxRecDepth 100000 in
set_option maxHeartbeats 4000000 in
theorem zglassW (l : Launch) (hl : l.stackTraces = false) (Γ : zG) (x1 x2 : Int32) {f1 f2 : zH} {u : Int64} (hi : sInv swC f1) (h2 : f2.1 = zshM) : zSemW l Γ false 10 [.ref 0, .int x1, .int x2, .ref 142] (zW f1 f2 u) (zKgl f1 f2) := by
  have h1 : f1.1 = zshC := hi.1
  obtain ⟨h, hh⟩ : ∃ h, h = zW f1 f2 u := ⟨_, rfl⟩
  have hig : sInv swG h := by rw [hh]; exact sInvG hi h2
  rw [← hh]
  refine zofWH (cc := (zhd zGL).2.1) (maxL := (zhd zGL).2.2.1) (ret := (zhd zGL).2.2.2.1) (hh := zhh) (by decide +kernel) rfl ?_
  intro p e s m args below meth c s₁ B hml htab hv
  obtain ⟨hargs, hev, hrep⟩ := hv
  subst hargs
  have ho := hev.2.2.2.1
  have hlv := lv_entry (([.ref 0, .int x1, .int x2, .ref 142] : List Value).map (zcv Γ)) (n := (zhd zGL).2.2.1) (by rw [zsl_len ho]; exact (show 4 ≤ 5 by decide))
  rw [zlv_args ho] at hlv
  rw [lg_entry_eq]
  have hSt := Stand.of_body B
  have key : zX l Γ false 10 zh177 (fun _ _ s' t => s' = s → MQ below (zQ Γ false (zKgl f1 f2)) (([.ref 0, .int x1, .int x2, .ref 142] : List Value).map (zcv Γ)).toArray s 1 6 (zA Γ) t) 0 0 0 (lv_args 0 [.ref 0, .int x1, .int x2, .ref 142]) [] h := by
    refine zpcF (M := (zh177, zc177)) (K := fun _ _ => False) 100 5 rfl zckm177 (fun below args s t h => ?_) ?_
    · obtain ⟨o, h1, h2, ⟨⟨r, h', e1, e2, e3⟩, e4⟩, h5⟩ := h
      exact e2.elim
    show zX l Γ false 10 zh177 _ 0 0 5 _ [.int x2, .int x1, .ref 0, .int (Int32.ofInt 0), .ref 142] _
    refine zfix B.frames B.method hSt.code (fun hcs hss p e hctx H locs ls hlv hrep hS => ?_)
    obtain ⟨hx, hb, hml', hr, hown, hlk, hnm, hev'⟩ := id hctx
    obtain ⟨hTb, hKn, hbs, ho, hstr, hz1, hz2, hscr, hthr⟩ := id hev'
    have hk9 : (zmp 178).1 ≠ 9 := by decide +kernel
    obtain ⟨hcode, hB⟩ := zmo_ok 178 hk9
    obtain ⟨b1, b2, b3, b4, b5, b6⟩ := zcwB_ok hB hk9
    have hws : (zws Γ h)[0]? = some (Γ.2.2.1 + 0, zcell Γ h 0 (0, 0)) := zws_at (by rw [hig.1]; decide +kernel)
    rw [zcell_o] at hws
    have hrecv := va_recv hKn hrep.1 (q := classes[0]) (by rfl) hws
    have hpre : PreV s H "SandHours" (Γ.2.2.1 + 0) (zPc Γ false [.ref 0, .int x1, .int x2] h) (([.int x1, .int x2] : List Value).map (zcv Γ)) := ⟨zPc_blind, hrecv, fun U hU hW => zpre (As := [.ref 0, .int x1, .int x2]) hev' hrep hS U hU hW⟩
    have hrun : vx_Run p l e (zrm 10 1 6) s m (([.ref 0, .int x1, .int x2, .ref 142] : List Value).map (zcv Γ)).toArray below meth c H locs 0 0 (zmc 178) (zms 178) (F0 m 5 ls (([.int x2, .int x1, .ref 0, .int (Int32.ofInt 0), .ref 142] : List Value).map (zcv Γ))) (([.int (Int32.ofInt 0), .ref 142] : List Value).map (zcv Γ)) (zQ Γ false (zKg h) (Value.ref (Γ.2.2.1 + 0) :: ([.int x1, .int x2] : List Value).map (zcv Γ)).toArray) (zXC Γ h) (zA Γ) := by
      have hla : (([.int x1, .int x2] : List Value).map (zcv Γ)).length = 2 := rfl
      have h8 : 2 * (F0 m 5 ls (([.int x2, .int x1, .ref 0, .int (Int32.ofInt 0), .ref 142] : List Value).map (zcv Γ))).monitorRoom + ((([.int (Int32.ofInt 0), .ref 142] : List Value).map (zcv Γ)).map fun v => v.category).sum ≤ 8 := lv_room (by rw [zwd_map ho]; decide)
      exact vx_runV (Ts := []) (own := "SandHoursLaw") (index := 7) (cc := (zhd zGL).2.1) ⟨hx, hb, hml', hown, fun w h => by cases h⟩ (zglassT l hl Γ x1 x2 hig) ⟨⟨rfl, rfl, Nat.le_refl _, by show 8 + ((zhd 178).2.2.1 + 11) + (38 * 9 + 8) ≤ 38 * (9 + 1) + 8; have : (zhd 178).2.2.1 ≤ 19 := b2; omega, zwords_ok hev' hk9, List.mem_singleton.mpr rfl, zTb_at hTb hcode rfl _, zTb_at hTb b1 rfl _, b4, znp b3, zTb_at hTb (p := 5208) rfl rfl _⟩, zTb_at hTb (p := 5209) rfl rfl _, zTb_at hTb (p := 5210) rfl rfl _⟩ hpre rfl hla hlv.1 rfl h8 (show decode (zhd zGL).2.1 5 = .ok (.invokevirtual 7, 3) by decide +kernel) ⟨by decide, by decide⟩
    intro T hT X
    rcases hrun T hT X with ⟨v, st₀, t, T', L, h0, X', hL, e1, e2, ⟨⟨r, h', hv, hp, hb9⟩, hF⟩, st⟩ | ⟨q, st₀, t, T', L, E, ce, h0, X', hL, e1, e2, ⟨hE, hR, hF⟩, hce, hcv, hcl, st⟩
    · obtain ⟨⟨x, rfl⟩, rfl⟩ := hp
      cases hv
      obtain ⟨-, -, hS'⟩ := vx_keep h0 e1 hS (fun q _ h => h) (fun q h => h) hL hF
      have kk : W p l e (zrm 10 1 6) s m (([.ref 0, .int x1, .int x2, .ref 142] : List Value).map (zcv Γ)).toArray below meth c T'.heap (locs ++ L) (0 + 1) (0 + 6) (MQ below (zQ Γ false (zKgl f1 f2)) (([.ref 0, .int x1, .int x2, .ref 142] : List Value).map (zcv Γ)).toArray s 1 6 (zA Γ)) (F0 m 8 ls (([.int x, .int (Int32.ofInt 0), .ref 142] : List Value).map (zcv Γ))) := by
        have h9 := zglassR l Γ (u := u) h1 h2 x []
        rw [← hh] at h9
        exact h9 (Nat.le_refl _) (Nat.le_refl _) p e s m _ below meth c hctx T'.heap (locs ++ L) ls ⟨hlv.1, hlv.2.1, fun _ h => by cases h⟩ (by rw [e1]; exact hb9) hS'
      obtain ⟨t2, a2, b2⟩ := kk T' rfl X'
      exact ⟨t2, st _ a2, b2⟩
    · obtain ⟨-, -, hS'⟩ := vx_keep h0 e1 hS (fun q _ h => h) (fun q h => h) hL hF
      rcases hE with hE | hE
      · subst hE
        have kk : W p l e (zrm 10 1 6) s m (([.ref 0, .int x1, .int x2, .ref 142] : List Value).map (zcv Γ)).toArray below meth c T'.heap (locs ++ L) (0 + 1) (0 + 6) (MQ below (zQ Γ false (zKgl f1 f2)) (([.ref 0, .int x1, .int x2, .ref 142] : List Value).map (zcv Γ)).toArray s 1 6 (zA Γ)) (F0 m 13 ls [.ref q]) := by
          refine lv_astore (cc := (zhd zGL).2.1) (i := 4) (nL := 5) (lv := []) (lv' := [(4, .ref q)]) hx hb (by decide +kernel) ⟨hlv.1, hlv.2.1, fun _ h => by cases h⟩ (by decide) rfl (fun ls' hlv' => ?_)
          have h9 := zglassE l Γ (f1 := f1) (f2 := f2) (u := u) (pc := 15) (Or.inl rfl) []
          rw [← hh] at h9
          exact h9 (Nat.le_refl _) (Nat.le_refl _) p e s m _ below meth c hctx T'.heap (locs ++ L) ls' ⟨hlv'.1, hlv'.2.1, fun _ h => by cases h⟩ (by rw [e1]; exact hR) hS'
        obtain ⟨t2, a2, b2⟩ := zcatch (own := "SandHoursLaw") (name := "java/lang/IndexOutOfBoundsException") (E := "java/lang/IndexOutOfBoundsException") (pc := 5) (rest := ([.int (Int32.ofInt 0), .ref 142] : List Value).map (zcv Γ)) hown ⟨0, 10, 13, 13⟩ [⟨0, 10, 17, 15⟩] htab (by decide) (by decide) (zTb_at hTb (p := 5206) rfl rfl _) (zTb_at hTb (p := 5214) rfl rfl _) (by rw [e1]; exact hce) hcv hcl kk T' rfl X'
        exact ⟨t2, st.trans a2, b2⟩
      · subst hE
        have kk : W p l e (zrm 10 1 6) s m (([.ref 0, .int x1, .int x2, .ref 142] : List Value).map (zcv Γ)).toArray below meth c T'.heap (locs ++ L) (0 + 1) (0 + 6) (MQ below (zQ Γ false (zKgl f1 f2)) (([.ref 0, .int x1, .int x2, .ref 142] : List Value).map (zcv Γ)).toArray s 1 6 (zA Γ)) (F0 m 17 ls [.ref q]) := by
          refine lv_astore (cc := (zhd zGL).2.1) (i := 4) (nL := 5) (lv := []) (lv' := [(4, .ref q)]) hx hb (by decide +kernel) ⟨hlv.1, hlv.2.1, fun _ h => by cases h⟩ (by decide) rfl (fun ls' hlv' => ?_)
          have h9 := zglassE l Γ (f1 := f1) (f2 := f2) (u := u) (pc := 19) (Or.inr (Or.inl rfl)) []
          rw [← hh] at h9
          exact h9 (Nat.le_refl _) (Nat.le_refl _) p e s m _ below meth c hctx T'.heap (locs ++ L) ls' ⟨hlv'.1, hlv'.2.1, fun _ h => by cases h⟩ (by rw [e1]; exact hR) hS'
        obtain ⟨t2, a2, b2⟩ := zcatch2 (own := "SandHoursLaw") (n1 := "java/lang/IndexOutOfBoundsException") (n2 := "java/util/NoSuchElementException") (E := "java/util/NoSuchElementException") (pc := 5) (rest := ([.int (Int32.ofInt 0), .ref 142] : List Value).map (zcv Γ)) hown ⟨0, 10, 13, 13⟩ ⟨0, 10, 17, 15⟩ [] htab (by decide) (by decide) (by decide) (by decide) (zTb_at hTb (p := 5206) rfl rfl _) (zTb_at hTb (p := 5207) rfl rfl _) hthr.2.2.2.2 (zTb_at hTb (p := 6040) rfl rfl _) (by rw [e1]; exact hce) hcv hcl kk T' rfl X'
        exact ⟨t2, st.trans a2, b2⟩
  intro T hT X
  obtain ⟨t, a, b⟩ := key (Nat.zero_le _) (Nat.zero_le _) p e s m _ below meth c ⟨B.exec, B.bytes, hml, B.returns, findClass_of_methodNamed B.named, B.notSynchronized, (name_of_methodNamed B.named B.method).1, hev⟩ s.heap [] _ hlv hrep va_S.rf T hT X
  exact ⟨t, a, b rfl⟩
