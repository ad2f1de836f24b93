def zc177 : Lean.RArray zEn := .branch 4 (.branch 2 (.branch 1 (.leaf (0, .aload_n 3, 1, [])) (.leaf (1, .iconst 0, 1, []))) (.branch 3 (.leaf (2, .aload_n 0, 1, [])) (.leaf (3, .iload_n 1, 1, [])))) (.branch 15 (.branch 13 (.leaf (4, .iload_n 2, 1, [])) (.leaf (13, .astore 4, 2, []))) (.branch 16 (.leaf (15, .iconst 1, 1, [])) (.leaf (16, .ireturn, 1, []))))
theorem zckm177 : zckB (zh177, zc177) = true := by decide +kernel
set_option maxRecDepth 100000 in
set_option maxHeartbeats 4000000 in
theorem zglassE (l : Launch) (Γ : zG) : zX l Γ false 10 zh177 (zMQ' Γ false zh177 (fun r h' => r = some (.int 1) ∧ h' = zW zhC zhM 0)) 1 6 15 [] [] (zW zhC zhM 0) := by
  refine zpcF (M := (zh177, zc177)) (K := fun r h' => r = some (.int 1) ∧ h' = zW zhC zhM 0) 100 24 rfl zckm177 (fun _ _ _ _ h => h) ?_
  refine And.intro (zsvI (Eq.refl _) ?_) rfl
  decide +kernel
set_option maxRecDepth 100000 in
set_option maxHeartbeats 4000000 in
theorem zglassW (l : Launch) (hl : l.stackTraces = false) (Γ : zG) (x1 x2 : Int32) : zSemW l Γ false 10 [.ref 0, .int x1, .int x2, .ref 142] (zW zhC zhM 0) (fun r h' => r = some (.int 1) ∧ h' = zW zhC zhM 0) := by
  refine zofWH (cc := (zhd zGL).2.1) (maxL := (zhd zGL).2.2.1) (ret := (zhd zGL).2.2.2.1) (hh := zhh) (by decide +kernel) rfl ?_
  intro p e s m args below meth c s₁ B hml htab hv
  obtain ⟨hargs, hev, hrep⟩ := hv
  subst hargs
  have ho := hev.2.2.2.1
  have hlv := lv_entry (([.ref 0, .int x1, .int x2, .ref 142] : List Value).map (zcv Γ)) (n := (zhd zGL).2.2.1) (by rw [zsl_len ho]; exact (show 4 ≤ 5 by decide))
  rw [zlv_args ho] at hlv
  rw [lg_entry_eq]
  have hSt := Stand.of_body B
  have key : zX l Γ false 10 zh177 (fun _ _ s' t => s' = s → MQ below (zQ Γ false (fun r h' => r = some (.int 1) ∧ h' = zW zhC zhM 0)) (([.ref 0, .int x1, .int x2, .ref 142] : List Value).map (zcv Γ)).toArray s 1 6 (zA Γ) t) 0 0 0 (lv_args 0 [.ref 0, .int x1, .int x2, .ref 142]) [] (zW zhC zhM 0) := by
    refine zpcF (M := (zh177, zc177)) (K := fun _ _ => False) 100 5 rfl zckm177 (fun below args s t h => ?_) ?_
    · obtain ⟨o, h1, h2, ⟨⟨r, h', e1, e2, e3⟩, e4⟩, h5⟩ := h
      exact e2.elim
    show zX l Γ false 10 zh177 _ 0 0 5 _ [.int x2, .int x1, .ref 0, .int (Int32.ofInt 0), .ref 142] _
    refine zfix B.frames B.method hSt.code (fun hcs hss p e hctx H locs ls hlv hrep hS => ?_)
    obtain ⟨hx, hb, hml', hr, hown, hlk, hnm, hev'⟩ := id hctx
    obtain ⟨hTb, hKn, hbs, ho, hstr, hz1, hz2, hscr, hthr⟩ := id hev'
    have hk9 : (zmp 178).1 ≠ 9 := by decide +kernel
    obtain ⟨hcode, hB⟩ := zmo_ok 178 hk9
    obtain ⟨b1, b2, b3, b4, b5, b6⟩ := zcwB_ok hB hk9
    have hws : (zws Γ (zW zhC zhM 0))[0]? = some (Γ.2.2.1 + 0, zcell Γ (zW zhC zhM 0) 0 (0, 0)) := zws_at (by decide +kernel)
    rw [zcell_o] at hws
    have hrecv := va_recv hKn hrep.1 (q := classes[0]) (by rfl) hws
    have hpre : PreV s H "SandHours" (Γ.2.2.1 + 0) (zPc Γ false [.ref 0, .int x1, .int x2] (zW zhC zhM 0)) (([.int x1, .int x2] : List Value).map (zcv Γ)) := ⟨zPc_blind, hrecv, fun U hU hW => zpre (As := [.ref 0, .int x1, .int x2]) hev' hrep hS U hU hW⟩
    have hrun : vx_Run p l e (zrm 10 1 6) s m (([.ref 0, .int x1, .int x2, .ref 142] : List Value).map (zcv Γ)).toArray below meth c H locs 0 0 (zmc 178) (zms 178) (F0 m 5 ls (([.int x2, .int x1, .ref 0, .int (Int32.ofInt 0), .ref 142] : List Value).map (zcv Γ))) (([.int (Int32.ofInt 0), .ref 142] : List Value).map (zcv Γ)) (zQ Γ false (fun _ _ => False) (Value.ref (Γ.2.2.1 + 0) :: ([.int x1, .int x2] : List Value).map (zcv Γ)).toArray) (zXC Γ (zW zhC zhM 0)) (zA Γ) := by
      have hla : (([.int x1, .int x2] : List Value).map (zcv Γ)).length = 2 := rfl
      have h8 : 2 * (F0 m 5 ls (([.int x2, .int x1, .ref 0, .int (Int32.ofInt 0), .ref 142] : List Value).map (zcv Γ))).monitorRoom + ((([.int (Int32.ofInt 0), .ref 142] : List Value).map (zcv Γ)).map fun v => v.category).sum ≤ 8 := lv_room (by rw [zwd_map ho]; decide)
      exact vx_runV (Ts := []) (own := "SandHoursLaw") (index := 7) (cc := (zhd zGL).2.1) ⟨hx, hb, hml', hown, fun w h => by cases h⟩ (zglassT l hl Γ x1 x2) ⟨⟨rfl, rfl, Nat.le_refl _, by show 8 + ((zhd 178).2.2.1 + 11) + (38 * 9 + 10) ≤ 38 * (9 + 1) + 10; have : (zhd 178).2.2.1 ≤ 19 := b2; omega, zwords_ok hev' hk9, List.mem_singleton.mpr rfl, zTb_at hTb hcode rfl _, zTb_at hTb b1 rfl _, b4, znp b3, zTb_at hTb (p := 5208) rfl rfl _⟩, zTb_at hTb (p := 5209) rfl rfl _, zTb_at hTb (p := 5210) rfl rfl _⟩ hpre rfl hla hlv.1 rfl h8 (show decode (zhd zGL).2.1 5 = .ok (.invokevirtual 7, 3) by decide +kernel) ⟨by decide, by decide⟩
    intro T hT X
    rcases hrun T hT X with ⟨v, st₀, t, T', L, h0, X', hL, e1, e2, ⟨⟨r, h', hv, hp, hb⟩, hz, hk⟩, st⟩ | ⟨q, st₀, t, T', L, E, ce, h0, X', hL, e1, e2, ⟨hE, hR, hF⟩, hce, hcv, hcl, st⟩
    · exact hp.elim
    · subst hE
      obtain ⟨-, -, hS'⟩ := vx_keep h0 e1 hS (fun q _ h => h) (fun q h => h) hL hF
      have kk : W p l e (zrm 10 1 6) s m (([.ref 0, .int x1, .int x2, .ref 142] : List Value).map (zcv Γ)).toArray below meth c T'.heap (locs ++ L) (0 + 1) (0 + 6) (MQ below (zQ Γ false (fun r h' => r = some (.int 1) ∧ h' = zW zhC zhM 0)) (([.ref 0, .int x1, .int x2, .ref 142] : List Value).map (zcv Γ)).toArray s 1 6 (zA Γ)) (F0 m 13 ls [.ref q]) := by
        refine lv_astore (cc := (zhd zGL).2.1) (i := 4) (nL := 5) (lv := []) (lv' := [(4, .ref q)]) hx hb (by decide +kernel) ⟨hlv.1, hlv.2.1, fun _ h => by cases h⟩ (by decide) rfl (fun ls' hlv' => ?_)
        exact zglassE l Γ (Nat.le_refl _) (Nat.le_refl _) p e s m _ below meth c hctx T'.heap (locs ++ L) ls' ⟨hlv'.1, hlv'.2.1, fun _ h => by cases h⟩ (by rw [e1]; exact hR) hS'
      obtain ⟨t2, a2, b2⟩ := zcatch (own := "SandHoursLaw") (name := "java/lang/IndexOutOfBoundsException") (E := "java/lang/IndexOutOfBoundsException") (pc := 5) (rest := ([.int (Int32.ofInt 0), .ref 142] : List Value).map (zcv Γ)) hown ⟨0, 10, 13, 13⟩ [⟨0, 10, 17, 15⟩] htab (by decide) (by decide) (zTb_at hTb (p := 5206) rfl rfl _) (zTb_at hTb (p := 5214) rfl rfl _) (by rw [e1]; exact hce) hcv hcl kk T' rfl X'
      exact ⟨t2, st.trans a2, b2⟩
  intro T hT X
  obtain ⟨t, a, b⟩ := key (Nat.zero_le _) (Nat.zero_le _) p e s m _ below meth c ⟨B.exec, B.bytes, hml, B.returns, findClass_of_methodNamed B.named, B.notSynchronized, (name_of_methodNamed B.named B.method).1, hev⟩ s.heap [] _ hlv hrep va_S.rf T hT X
  exact ⟨t, a, b rfl⟩
