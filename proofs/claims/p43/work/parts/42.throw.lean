/-! glass: the class throws, the law's own glass catches -/
def zPw (w : Cond) : Prop := vx_no w = true → w ∈ lw_tbl ∧ zokw w = true
theorem zPc1 {w : Cond} {B : List Cond} (p : Nat) (h : zwat p = some w) (hk : zokw w = true) (t : ∀ w ∈ B, zPw w) : ∀ w' ∈ w :: B, zPw w' := fun w' h' => (List.mem_cons.mp h').elim (fun e => by rw [e]; exact fun _ => ⟨zwat_mem h, hk⟩) (t w')
theorem zPc0 {w : Cond} {B : List Cond} (h : vx_no w = false) (t : ∀ w ∈ B, zPw w) : ∀ w' ∈ w :: B, zPw w' := fun w' h' => (List.mem_cons.mp h').elim (fun e => by rw [e]; exact fun k => by rw [h] at k; cases k) (t w')
theorem zPcn : ∀ w ∈ ([] : List Cond), zPw w := fun _ h => nomatch h
theorem zatI : ∀ w ∈ Bundle.ownAtoms "SandHours" 135 "java/lang/IndexOutOfBoundsException" ["java/lang/RuntimeException", "java/lang/Exception"], zPw w :=
  zPc1 1021 rfl rfl (zPc1 5234 rfl rfl (zPc1 6003 rfl rfl (zPc1 6006 rfl rfl (zPc1 6009 rfl rfl (zPc1 6011 rfl rfl (zPc1 5235 rfl rfl (zPc1 5236 rfl rfl (zPc1 1033 rfl rfl (zPc1 1034 rfl rfl (zPc1 5237 rfl rfl (zPc1 6002 rfl rfl (zPc1 6007 rfl rfl (zPc1 6027 rfl rfl (zPc1 5224 rfl rfl (zPc1 6028 rfl rfl (zPc1 5226 rfl rfl (zPc1 6029 rfl rfl (zPc1 5228 rfl rfl (zPc1 5238 rfl rfl (zPc0 rfl (zPc1 6000 rfl rfl (zPc0 rfl (zPc1 5230 rfl rfl (zPc1 6023 rfl rfl (zPc1 6024 rfl rfl (zPc1 6026 rfl rfl (zPc1 5230 rfl rfl (zPc1 6014 rfl rfl (zPc1 6015 rfl rfl (zPc1 6016 rfl rfl (zPc1 6017 rfl rfl (zPc1 5216 rfl rfl (zPc1 6017 rfl rfl (zPc1 6018 rfl rfl (zPc1 6019 rfl rfl (zPc1 6020 rfl rfl (zPc1 5218 rfl rfl (zPc1 6020 rfl rfl (zPc1 6021 rfl rfl (zPc1 6022 rfl rfl (zPc1 6023 rfl rfl (zPc1 5220 rfl rfl (zPc1 6013 rfl rfl (zPc1 5213 rfl rfl (zPc1 5214 rfl rfl (zPc1 5221 rfl rfl (zPc1 5222 rfl rfl (zPc1 5223 rfl rfl (zPc1 5225 rfl rfl (zPc1 5227 rfl rfl (zPc1 5229 rfl rfl (zPc0 rfl (zPc0 rfl (zPc1 5233 rfl rfl (zPc1 5232 rfl rfl (zPc1 5231 rfl rfl (zPcn)))))))))))))))))))))))))))))))))))))))))))))))))))))))))
theorem zatIg : ∀ w ∈ vx_atS "SandHours" 135 "java/lang/IndexOutOfBoundsException" ["java/lang/RuntimeException", "java/lang/Exception"], vx_ot w = true := fun w hw => List.all_eq_true.mp (show (vx_atS "SandHours" 135 "java/lang/IndexOutOfBoundsException" ["java/lang/RuntimeException", "java/lang/Exception"]).all vx_ot = true by decide +kernel) w hw
def zrx : ByteArray := ⟨#[0x2a, 0x2b, 0xb7, 0x00, 0x0d, 0xb1]⟩
theorem zatN : ∀ w ∈ zxat "SandHours" 162 "java/util/NoSuchElementException" 13 zrx "java/lang/RuntimeException" ["java/lang/Exception"], zPw w :=
  zPc1 1021 rfl rfl (zPc1 5234 rfl rfl (zPc1 6003 rfl rfl (zPc1 6006 rfl rfl (zPc1 6009 rfl rfl (zPc1 6011 rfl rfl (zPc1 5235 rfl rfl (zPc1 5236 rfl rfl (zPc1 1033 rfl rfl (zPc1 1034 rfl rfl (zPc1 5237 rfl rfl (zPc1 6002 rfl rfl (zPc1 6007 rfl rfl (zPc1 6027 rfl rfl (zPc1 5224 rfl rfl (zPc1 6028 rfl rfl (zPc1 5226 rfl rfl (zPc1 6029 rfl rfl (zPc1 5228 rfl rfl (zPc1 5238 rfl rfl (zPc0 rfl (zPc1 6000 rfl rfl (zPc0 rfl (zPc1 5230 rfl rfl (zPc1 6023 rfl rfl (zPc1 6024 rfl rfl (zPc1 6026 rfl rfl (zPc1 5230 rfl rfl (zPc1 6049 rfl rfl (zPc1 6050 rfl rfl (zPc1 6051 rfl rfl (zPc1 6017 rfl rfl (zPc1 5216 rfl rfl (zPc1 6017 rfl rfl (zPc1 6018 rfl rfl (zPc1 6019 rfl rfl (zPc1 6020 rfl rfl (zPc1 5218 rfl rfl (zPc1 6020 rfl rfl (zPc1 6021 rfl rfl (zPc1 6022 rfl rfl (zPc1 6023 rfl rfl (zPc1 5220 rfl rfl (zPc1 6048 rfl rfl (zPc1 6039 rfl rfl (zPc1 6040 rfl rfl (zPc1 6041 rfl rfl (zPc1 6005 rfl rfl (zPc1 6042 rfl rfl (zPc1 6043 rfl rfl (zPc1 6044 rfl rfl (zPc1 6045 rfl rfl (zPc0 rfl (zPc0 rfl (zPc1 5233 rfl rfl (zPc1 5232 rfl rfl (zPc1 6046 rfl rfl (zPcn)))))))))))))))))))))))))))))))))))))))))))))))))))))))))
theorem zatNg : ∀ w ∈ (zxat "SandHours" 162 "java/util/NoSuchElementException" 13 zrx "java/lang/RuntimeException" ["java/lang/Exception"]).filter vx_no, vx_ot w = true := fun w hw => List.all_eq_true.mp (show ((zxat "SandHours" 162 "java/util/NoSuchElementException" 13 zrx "java/lang/RuntimeException" ["java/lang/Exception"]).filter vx_no).all vx_ot = true by decide +kernel) w hw
/-- the class's world, within the law's -/
def swG : sW := (zshW, fun q k => if q < 98 then swC.2.1 q k else [], fun q k => if q < 98 then swC.2.2.1 q k else sf32, fun q => if q < 98 then swC.2.2.2.1 q else [], [], [])
theorem zW_1 {f1 f2 : zH} {u : Int64} (h1 : f1.1 = zshC) (h2 : f2.1 = zshM) : (zW f1 f2 u).1 = zshW := by
  obtain ⟨a1, r1⟩ := f1
  obtain ⟨a2, r2⟩ := f2
  have h1 : a1 = zshC := h1
  have h2 : a2 = zshM := h2
  subst h1
  subst h2
  show List.take 98 (List.take 0 zshW ++ zshC ++ List.drop (0 + zshC.length) zshW) ++ zshM ++ List.drop (98 + zshM.length) (List.take 0 zshW ++ zshC ++ List.drop (0 + zshC.length) zshW) = zshW
  decide +kernel
theorem zW_lo {f1 f2 : zH} {u : Int64} (h1 : f1.1 = zshC) (h2 : f2.1 = zshM) {q : Nat} (hq : q < 98) (k : Nat) : (zW f1 f2 u).2.1 q k = f1.2.1 q k ∧ (zW f1 f2 u).2.2.2 q k = f1.2.2.2 q k := by
  have l1 : f1.1.length = 98 := by rw [h1]; decide
  have l2 : f2.1.length = 44 := by rw [h2]; decide
  have e : ∀ o : Option Nat, o.map (fun r => 0 + r) = o := fun o => by cases o <;> simp
  constructor
  · simp only [zW, zjn, l1, l2, hq, Nat.zero_add, Nat.not_lt_zero, if_true, if_false, Nat.sub_zero]
  · simp only [zW, zjn, l1, l2, hq, Nat.zero_add, Nat.not_lt_zero, if_true, if_false, Nat.sub_zero]
    first
      | exact e _
      | (cases f1.2.2.2 q k <;> rfl)
theorem swG_hi {q : Nat} (hq : ¬ q < 98) (k : Nat) : sIv swG q k = sf32 := by
  unfold sIv
  split
  · show (if q < 98 then swC.2.2.1 q k else sf32) = sf32
    rw [if_neg hq]
  · show sgAt (if q < 98 then swC.2.2.2.1 q else []) k = sf32
    rw [if_neg hq]
    rfl
theorem swG_sh {q : Nat} (hq : q < 98) : zshW[q]? = zshC[q]? := by
  have h : (List.range 98).all (fun q => decide (zshW[q]? = zshC[q]?)) = true := by decide +kernel
  exact of_decide_eq_true (List.all_eq_true.mp h q (List.mem_range.mpr hq))
theorem swG_lo {q : Nat} (hq : q < 98) (k : Nat) : sIv swG q k = sIv swC q k := by
  unfold sIv
  have e : swG.1[q]? = swC.1[q]? := swG_sh hq
  rw [e]
  split
  · show (if q < 98 then swC.2.2.1 q k else sf32) = swC.2.2.1 q k
    rw [if_pos hq]
  · show sgAt (if q < 98 then swC.2.2.2.1 q else []) k = _
    rw [if_pos hq]
theorem sInvG {f1 f2 : zH} {u : Int64} (hi : sInv swC f1) (h2 : f2.1 = zshM) : sInv swG (zW f1 f2 u) := by
  have h1 : f1.1 = zshC := hi.1
  refine ⟨zW_1 h1 h2, fun q k hne => ?_, fun q k => ?_, fun m hm => by cases hm⟩
  · by_cases hq : q < 98
    · have e : swG.2.1 q k = swC.2.1 q k := by
        show (if q < 98 then swC.2.1 q k else []) = _
        rw [if_pos hq]
      rw [e] at hne ⊢
      rw [(zW_lo h1 h2 hq k).2]
      exact hi.2.1 q k hne
    · exact absurd (by show (if q < 98 then swC.2.1 q k else []) = []; rw [if_neg hq]) hne
  · by_cases hq : q < 98
    · rw [swG_lo hq, (zW_lo h1 h2 hq k).1]
      exact hi.2.2.1 q k
    · rw [swG_hi hq]
      exact sf32_ok _
theorem sMd_nil {h0 h : zH} (h1 : h.1 = h0.1) (hm : sMd [] h0 h) : h = h0 := by
  obtain ⟨a, b, c, d⟩ := h
  obtain ⟨a0, b0, c0, d0⟩ := h0
  have e1 : a = a0 := h1
  have e2 : b = b0 := by funext q k; exact (hm q k rfl).1
  have e3 : c = c0 := by funext q k; exact (hm q k rfl).2.2
  have e4 : d = d0 := by funext q k; exact (hm q k rfl).2.1
  rw [e1, e2, e3, e4]
theorem zX_monoQ {l : Launch} {Γ : zG} {al : Bool} {d : Nat} {M : zHd} {QF QF' : List Frame → Array Value → State → State → Prop} {cs ss pc : Nat} {lo : zL} {st : List Value} {h : zH} (hX : zX l Γ al d M QF cs ss pc lo st h) (hq : ∀ below args s t, QF below args s t → QF' below args s t) : zX l Γ al d M QF' cs ss pc lo st h := by
  intro hcs hss p e s m args below meth c hctx H locs ls hlv hrep hS T hT X
  obtain ⟨t, a, b⟩ := hX hcs hss p e s m args below meth c hctx H locs ls hlv hrep hS T hT X
  exact ⟨t, a, hq _ _ _ _ b⟩
theorem zgB : sen [(0, .inr (.inl 0)), (1, .inl sf32), (2, .inl sf32)] [] ([], ([], []), [], [], none) (fun l k => sit swG [] (zh178, zc178) (srn swG sT0 [] 300 3) (sKc swG (some (.inl sf32)) ([], [], [], [])) (fun p => p == 24 || p == 168) [] (fun _ _ st _ => st.isEmpty) 300 0 l [] k) = true := by decide +kernel
def zXC (Γ : zG) (h : zH) : String → State → State → Prop := fun E st t => (E = "java/lang/IndexOutOfBoundsException" ∨ E = "java/util/NoSuchElementException") ∧ zRep Γ false h t.heap ∧ va_F (zA Γ) st t
def zKg (h : zH) : Option Value → zH → Prop := fun r h' => (∃ x, r = some (.int x)) ∧ h' = h

set_option maxRecDepth 100000 in
set_option maxHeartbeats 4000000 in
theorem zglassT (l : Launch) (hl : l.stackTraces = false) (Γ : zG) (x1 x2 : Int32) {h : zH} (hi : sInv swG h) : vx_Met l (zhd 178).1 [.code (zhd 178).1 (zhd 178).2.1 (zhd 178).2.2.1 (zhd 178).2.2.2.1] (zrm 9 (zmc 178) (zms 178)) (zPc Γ false [.ref 0, .int x1, .int x2] h) (zQ Γ false (zKg h)) (zXC Γ h) (zmc 178) (zms 178) (zA Γ) := by
  refine vx_ofW (cc := (zhd 178).2.1) (maxL := (zhd 178).2.2.1) (ret := (zhd 178).2.2.2.1) (by decide +kernel) rfl ?_
  intro p e s m args below meth c s₁ B hml htab hv
  obtain ⟨hargs, hev, hrep⟩ := hv
  subst hargs
  have ho := hev.2.2.2.1
  have hlv := lv_entry (([.ref 0, .int x1, .int x2] : List Value).map (zcv Γ)) (n := (zhd 178).2.2.1) (by rw [zsl_len ho]; exact (show 3 ≤ 3 by decide))
  rw [zlv_args ho] at hlv
  rw [lg_entry_eq]
  have hSt := Stand.of_body B
  have key : zX l Γ false 9 zh178 (fun b' a' s' t => s' = s → b' = below → a' = (([.ref 0, .int x1, .int x2] : List Value).map (zcv Γ)).toArray → vx_MQ below (zQ Γ false (zKg h)) (zXC Γ h) (([.ref 0, .int x1, .int x2] : List Value).map (zcv Γ)).toArray s 1 6 (zA Γ) t) 0 0 0 (lv_args 0 [.ref 0, .int x1, .int x2]) [] h := by
    have stop24 : ∀ lo : zL, zX l Γ false 9 zh178 (fun _ _ s' t => s' = s → vx_MQ below (zQ Γ false (zKg h)) (zXC Γ h) (([.ref 0, .int x1, .int x2] : List Value).map (zcv Γ)).toArray s 1 6 (zA Γ) t) 0 0 24 lo [] h := by
      intro lo
      refine zfix B.frames B.method hSt.code (fun hcs hss p e hctx H locs ls hlv hrep hS => ?_)
      obtain ⟨hx, hb, hml', hr, hown, hlk, hnm, hev'⟩ := id hctx
      obtain ⟨hTb, -, -, -, -, -, -, -, ⟨⟨sa, hsa⟩, -, hU, hN, -⟩⟩ := id hev'
      exact vx_throwS (cc := (zhd 178).2.1) (pc := 24) hx hb hl (own := "SandHours") (cls := "java/lang/IndexOutOfBoundsException") (text := "no such glass") (names := ["java/lang/RuntimeException", "java/lang/Exception"]) (ik := 131) (is := 133) (ic := 135) (mc := 1) (ms := 6) (sa := sa) (A := zA Γ) hown (by decide +kernel) (by decide +kernel)
        (zTb_at hTb (p := 5212) rfl rfl _) (zTb_at hTb (p := 1024) rfl rfl _) hsa (fun w hw => have h1 := zatI w (List.mem_filter.mp hw).1 (List.mem_filter.mp hw).2; hTb w h1.1 h1.2 _)
        (fun w hw => by
          rcases List.mem_cons.mp hw with e | hw
          · rw [e]; rfl
          · rcases List.mem_cons.mp hw with e | hw
            · rw [e]; rfl
            · exact zatIg w hw)
        hU hN hS (hlv.1.trans hml'.symm) (by decide +kernel) (by decide +kernel) (by decide +kernel) (by decide +kernel) (by decide +kernel) (fun x hx => (htab x hx).elim)
        (show 2 + 3 < 9 by decide) (show 0 + (13 * (2 + 1) + 43) ≤ 38 * 9 + 8 by decide) (show 0 + 1 ≤ 1 by decide) (show 0 + 6 ≤ 6 by decide) hlk
        (fun t hal hz hq => ⟨Or.inl rfl, zRep_grow hrep hz hq, Nat.le_trans hS.1 hz, fun q h1 h2 => (hq q (Nat.lt_of_lt_of_le h1 hS.1)).trans (hS.2.1 q h1 h2)⟩) hS.2.2 (show 0 + 1 ≤ 1 by decide) (show 0 + 6 ≤ 6 by decide)
    have stop168 : ∀ lo : zL, zX l Γ false 9 zh178 (fun _ _ s' t => s' = s → vx_MQ below (zQ Γ false (zKg h)) (zXC Γ h) (([.ref 0, .int x1, .int x2] : List Value).map (zcv Γ)).toArray s 1 6 (zA Γ) t) 0 0 168 lo [] h := by
      intro lo
      refine zfix B.frames B.method hSt.code (fun hcs hss p e hctx H locs ls hlv hrep hS => ?_)
      obtain ⟨hx, hb, hml', hr, hown, hlk, hnm, hev'⟩ := id hctx
      obtain ⟨hTb, -, -, -, -, -, -, -, ⟨-, ⟨sa, hsa⟩, hU, hN, -⟩⟩ := id hev'
      exact zthrowX (cc := (zhd 178).2.1) (pc := 168) hx hb hl (own := "SandHours") (cls := "java/util/NoSuchElementException") (text := "no such what") (Yn := "java/lang/RuntimeException") (r := ["java/lang/Exception"]) (rx := zrx) (ix := 13) (ik := 158) (is := 160) (ic := 162) (mc := 1) (ms := 6) (sa := sa) (A := zA Γ) hown (by decide +kernel) (by decide +kernel) (by decide +kernel) (by decide +kernel) (by decide +kernel) (by decide +kernel) (by decide +kernel)
        (zTb_at hTb (p := 6038) rfl rfl _) (zTb_at hTb (p := 1025) rfl rfl _) hsa (fun w hw => have h1 := zatN w (List.mem_filter.mp hw).1 (List.mem_filter.mp hw).2; hTb w h1.1 h1.2 _)
        (fun w hw => by
          rcases List.mem_cons.mp hw with e | hw
          · rw [e]; rfl
          · rcases List.mem_cons.mp hw with e | hw
            · rw [e]; rfl
            · exact zatNg w hw)
        hU hN hS (hlv.1.trans hml'.symm) (by decide +kernel) (by decide +kernel) (by decide +kernel) (by decide +kernel) (by decide +kernel) (fun x hx => (htab x hx).elim)
        (show 2 + 3 < 9 by decide) (show 0 + (13 * (2 + 1) + 43) ≤ 38 * 9 + 8 by decide) (show 0 + 1 ≤ 1 by decide) (show 0 + 6 ≤ 6 by decide) hlk
        (fun t hal hz hq => ⟨Or.inr rfl, zRep_grow hrep hz hq, Nat.le_trans hS.1 hz, fun q h1 h2 => (hq q (Nat.lt_of_lt_of_le h1 hS.1)).trans (hS.2.1 q h1 h2)⟩) hS.2.2 (show 0 + 1 ≤ 1 by decide) (show 0 + 6 ≤ 6 by decide)
    obtain ⟨l1, k1, σ1, lo3, e1, a1, b1, d1, z1⟩ := sen_ok (h := h) (lo := lv_args 0 [.ref 0, .int x1, .int x2]) [(0, .inr (.inl 0)), (1, .inl sf32), (2, .inl sf32)] [] [] ([], ([], []), [], [], none) (fun _ => 0) zgB (sk0 h _) rfl (fun x hx => (nomatch hx)) (sfm ⟨_, rfl, rfl⟩ (sfm ⟨_, rfl, x1, rfl, sf32_ok x1⟩ (sfm ⟨_, rfl, x2, rfl, sf32_ok x2⟩ (fun _ h => nomatch h))))
    refine zX_sub (lo2 := lo3) (fun x hx => zget_mem _ _ _ (z1 x hx)) ?_
    refine sit_ok (M := (zh178, zc178)) (h0 := h) (n0 := k1.1.length) (σ0 := σ1) (d := 8) (spl := []) (Kp := fun r h' => sTO (some (.inl sf32)) r ∧ sInv swG h' ∧ sMd [] h h' ∧ sAok ([], [], [], []) h') zckm178 (fun b' a' s' t hM e2 e3 e4 => ?_) (srn_ok (dm := 3) (T := sT0) (fun _ _ h => nomatch h) 3 8 (Nat.le_refl _) (by decide)) sKc_ok (fun pc l0 st k hcut hS σ' l' st' h' hr => ?_) 300 0 _ [] _ e1 σ1 _ [] h ⟨a1, d1, rfl, hi, sMd.rf, sX.rf⟩
    · subst e2
      subst e3
      subst e4
      obtain ⟨o, m1, m2, ⟨⟨r, h', q1, ⟨⟨v, q2, x, q3, -⟩, q4, q5, -⟩, q6⟩, q7⟩, m4⟩ := hM
      subst q3
      exact ⟨o, m1, m2, Or.inl ⟨⟨⟨r, h', q1, ⟨⟨x, q2⟩, sMd_nil (q4.1.trans hi.1.symm) q5⟩, q6⟩, q7⟩, m4⟩⟩
    · have eh : h' = h := sMd_nil (hr.2.2.2.1.1.trans hi.1.symm) hr.2.2.2.2.1
      have es : st = [] := List.isEmpty_iff.mp hS
      subst es
      have es' : st' = [] := hr.2.2.1
      subst es'
      subst eh
      rw [Bool.or_eq_true] at hcut
      rcases hcut with hcut | hcut
      · have e9 : pc = 24 := beq_iff_eq.mp hcut
        subst e9
        exact zX_monoQ (stop24 l') (fun _ _ _ _ h e2 _ _ => h e2)
      · have e9 : pc = 168 := beq_iff_eq.mp hcut
        subst e9
        exact zX_monoQ (stop168 l') (fun _ _ _ _ h e2 _ _ => h e2)
  intro T hT X
  obtain ⟨t, a, b⟩ := key (Nat.zero_le _) (Nat.zero_le _) p e s m _ below meth c ⟨B.exec, B.bytes, hml, B.returns, findClass_of_methodNamed B.named, B.notSynchronized, (name_of_methodNamed B.named B.method).1, hev⟩ s.heap [] _ hlv hrep va_S.rf T hT X
  exact ⟨t, a, b rfl rfl rfl⟩
