/-! glass: the class throws, the law's own glass catches -/
def zPw (w : Cond) : Prop := vx_no w = true → w ∈ lw_tbl ∧ zokw w = true
theorem zPc1 {w : Cond} {B : List Cond} (p : Nat) (h : zwat p = some w) (hk : zokw w = true) (t : ∀ w ∈ B, zPw w) : ∀ w' ∈ w :: B, zPw w' := fun w' h' => (List.mem_cons.mp h').elim (fun e => by rw [e]; exact fun _ => ⟨zwat_mem h, hk⟩) (t w')
theorem zPc0 {w : Cond} {B : List Cond} (h : vx_no w = false) (t : ∀ w ∈ B, zPw w) : ∀ w' ∈ w :: B, zPw w' := fun w' h' => (List.mem_cons.mp h').elim (fun e => by rw [e]; exact fun k => by rw [h] at k; cases k) (t w')
theorem zPcn : ∀ w ∈ ([] : List Cond), zPw w := fun _ h => nomatch h
theorem zatI : ∀ w ∈ Bundle.ownAtoms "SandHours" 135 "java/lang/IndexOutOfBoundsException" ["java/lang/RuntimeException", "java/lang/Exception"], zPw w :=
  zPc1 1021 rfl rfl (zPc1 5234 rfl rfl (zPc1 6003 rfl rfl (zPc1 6006 rfl rfl (zPc1 6009 rfl rfl (zPc1 6011 rfl rfl (zPc1 5235 rfl rfl (zPc1 5236 rfl rfl (zPc1 1033 rfl rfl (zPc1 1034 rfl rfl (zPc1 5237 rfl rfl (zPc1 6002 rfl rfl (zPc1 6007 rfl rfl (zPc1 6027 rfl rfl (zPc1 5224 rfl rfl (zPc1 6028 rfl rfl (zPc1 5226 rfl rfl (zPc1 6029 rfl rfl (zPc1 5228 rfl rfl (zPc1 5238 rfl rfl (zPc0 rfl (zPc1 6000 rfl rfl (zPc0 rfl (zPc1 5230 rfl rfl (zPc1 6023 rfl rfl (zPc1 6024 rfl rfl (zPc1 6026 rfl rfl (zPc1 5230 rfl rfl (zPc1 6014 rfl rfl (zPc1 6015 rfl rfl (zPc1 6016 rfl rfl (zPc1 6017 rfl rfl (zPc1 5216 rfl rfl (zPc1 6017 rfl rfl (zPc1 6018 rfl rfl (zPc1 6019 rfl rfl (zPc1 6020 rfl rfl (zPc1 5218 rfl rfl (zPc1 6020 rfl rfl (zPc1 6021 rfl rfl (zPc1 6022 rfl rfl (zPc1 6023 rfl rfl (zPc1 5220 rfl rfl (zPc1 6013 rfl rfl (zPc1 5213 rfl rfl (zPc1 5214 rfl rfl (zPc1 5221 rfl rfl (zPc1 5222 rfl rfl (zPc1 5223 rfl rfl (zPc1 5225 rfl rfl (zPc1 5227 rfl rfl (zPc1 5229 rfl rfl (zPc0 rfl (zPc0 rfl (zPc1 5233 rfl rfl (zPc1 5232 rfl rfl (zPc1 5231 rfl rfl (zPcn)))))))))))))))))))))))))))))))))))))))))))))))))))))))))
theorem zatIg : ∀ w ∈ vx_atS "SandHours" 135 "java/lang/IndexOutOfBoundsException" ["java/lang/RuntimeException", "java/lang/Exception"], vx_ot w = true := fun w hw => List.all_eq_true.mp (show (vx_atS "SandHours" 135 "java/lang/IndexOutOfBoundsException" ["java/lang/RuntimeException", "java/lang/Exception"]).all vx_ot = true by decide +kernel) w hw
def zXC (Γ : zG) (h : zH) : String → State → State → Prop := fun E st t => E = "java/lang/IndexOutOfBoundsException" ∧ zRep Γ false h t.heap ∧ va_F (zA Γ) st t
set_option maxRecDepth 100000 in
set_option maxHeartbeats 4000000 in
theorem zglassT (l : Launch) (hl : l.stackTraces = false) (Γ : zG) (x1 x2 : Int32) : vx_Met l (zhd 178).1 [.code (zhd 178).1 (zhd 178).2.1 (zhd 178).2.2.1 (zhd 178).2.2.2.1] (zrm 9 (zmc 178) (zms 178)) (zPc Γ false [.ref 0, .int x1, .int x2] (zW zhC zhM 0)) (zQ Γ false (fun _ _ => False)) (zXC Γ (zW zhC zhM 0)) (zmc 178) (zms 178) (zA Γ) := by
  refine vx_ofW (cc := (zhd 178).2.1) (maxL := (zhd 178).2.2.1) (ret := (zhd 178).2.2.2.1) (by decide +kernel) rfl ?_
  intro p e s m args below meth c s₁ B hml htab hv
  obtain ⟨hargs, hev, hrep⟩ := hv
  subst hargs
  have ho := hev.2.2.2.1
  have hlv := lv_entry (([.ref 0, .int x1, .int x2] : List Value).map (zcv Γ)) (n := (zhd 178).2.2.1) (by rw [zsl_len ho]; exact (show 3 ≤ 3 by decide))
  rw [zlv_args ho] at hlv
  rw [lg_entry_eq]
  have hSt := Stand.of_body B
  have key : zX l Γ false 9 zh178 (fun _ _ s' t => s' = s → vx_MQ below (zQ Γ false (fun _ _ => False)) (zXC Γ (zW zhC zhM 0)) (([.ref 0, .int x1, .int x2] : List Value).map (zcv Γ)).toArray s 1 6 (zA Γ) t) 0 0 0 (lv_args 0 [.ref 0, .int x1, .int x2]) [] (zW zhC zhM 0) := by
    have stop : ∀ lo : zL, zX l Γ false 9 zh178 (fun _ _ s' t => s' = s → vx_MQ below (zQ Γ false (fun _ _ => False)) (zXC Γ (zW zhC zhM 0)) (([.ref 0, .int x1, .int x2] : List Value).map (zcv Γ)).toArray s 1 6 (zA Γ) t) 0 0 24 lo [] (zW zhC zhM 0) := by
      intro lo
      refine zfix B.frames B.method hSt.code (fun hcs hss p e hctx H locs ls hlv hrep hS => ?_)
      obtain ⟨hx, hb, hml', hr, hown, hlk, hnm, hev'⟩ := id hctx
      obtain ⟨hTb, -, -, -, -, -, -, -, ⟨⟨sa, hsa⟩, -, hU, hN, -⟩⟩ := id hev'
      exact vx_throwS (cc := (zhd 178).2.1) (pc := 24) hx hb hl (own := "SandHours") (cls := "java/lang/IndexOutOfBoundsException") (text := "no such glass") (names := ["java/lang/RuntimeException", "java/lang/Exception"]) (ik := 131) (is := 133) (ic := 135) (mc := 1) (ms := 6) (sa := sa) (A := zA Γ) hown (by decide +kernel) (by decide +kernel)
        (zTb_at hTb (p := 5212) rfl rfl _) (zTb_at hTb (p := 1024) rfl rfl _) hsa (fun w hw => have h1 := zatI w (List.mem_filter.mp hw).1 (List.mem_filter.mp hw).2; hTb w h1.1 h1.2 _)
        (fun w hw => by
          rcases List.mem_cons.mp hw with e | hw
          · rw [e]; rfl
          · rcases List.mem_cons.mp hw with e | hw
            · rw [e]; rfl
            · exact zatIg w hw)
        hU hN hS (hlv.1.trans hml'.symm) (by decide +kernel) (by decide +kernel) (by decide +kernel) (by decide +kernel) (by decide +kernel) (fun x hx => (htab x hx).elim)
        (show 2 + 3 < 9 by decide) (show 0 + (13 * (2 + 1) + 43) ≤ 38 * 9 + 10 by decide) (show 0 + 1 ≤ 1 by decide) (show 0 + 6 ≤ 6 by decide) hlk
        (fun t hal hz hq => ⟨rfl, zRep_grow hrep hz hq, Nat.le_trans hS.1 hz, fun q h1 h2 => (hq q (Nat.lt_of_lt_of_le h1 hS.1)).trans (hS.2.1 q h1 h2)⟩) hS.2.2 (show 0 + 1 ≤ 1 by decide) (show 0 + 6 ≤ 6 by decide)
    refine zpcF (M := (zh178, zc178)) (K := fun _ _ => False) 100 24 rfl zckm178 (fun below args s t h => ?_) ?_
    · obtain ⟨o, h1, h2, ⟨⟨r, h', e1, e2, e3⟩, e4⟩, h5⟩ := h
      exact e2.elim
    refine zdec (fun h0 => ?_) (fun h0 => ?_)
    · have g0 : ¬ x1 < 0 := zeLn h0 (by first | with_reducible rfl | decide +kernel) (by first | with_reducible rfl | decide +kernel)
      refine zdec (fun h1 => ?_) (fun h1 => ?_)
      · refine zdecF ?_ (fun h2 => ?_)
        · exact zeLn g0 (by first | with_reducible rfl | decide +kernel) (by first | with_reducible rfl | decide +kernel)
        exact stop _
      · exact stop _
    · exact stop _
  intro T hT X
  obtain ⟨t, a, b⟩ := key (Nat.zero_le _) (Nat.zero_le _) p e s m _ below meth c ⟨B.exec, B.bytes, hml, B.returns, findClass_of_methodNamed B.named, B.notSynchronized, (name_of_methodNamed B.named B.method).1, hev⟩ s.heap [] _ hlv hrep va_S.rf T hT X
  exact ⟨t, a, b rfl⟩
