section ZI
variable {ρ : Type} {bad : ρ} {tr : ρ → Prop} {l : Launch} {Γ : zG} {al : Bool} {d : Nat} {M : zHd} {G : Nat → List Value → zH → (Option Value → zH → ρ) → ρ} {K : Option Value → zH → ρ} {QF : List Frame → Array Value → State → State → Prop} {sc : Option (Nat × (Nat → Int32))} {C : Nat → Nat → Nat → zL → List Value → zH → ρ}
  {cs ss pc len : Nat} {lo : zL} {st : List Value} {h : zH} {ex : List Nat}

theorem zins_ok (hbad : ¬ tr bad) (hC : ∀ cs ss pc lo st h, tr (C cs ss pc lo st h) → zX l Γ al (d + 1) M QF cs ss pc lo st h) (hG : ∀ mi args h K', mi ≠ zGL → tr (G mi args h K') → zSem l Γ al d (zhd mi) args h (fun r h' => tr (K' r h'))) (hQ : ∀ below args s t, MQ below (zQ Γ al (fun r h' => tr (K r h'))) args s M.2.2.2.2.1 M.2.2.2.2.2 (zA Γ) t → QF below args s t) (hsc : ∀ x, sc = some x → (Γ.2.2.2.2.1, Γ.2.2.2.2.2.1) = x) (hGW : ∀ args h K', tr (G zGL args h K') → zSemW l Γ al d args h (fun r h' => tr (K' r h'))) {i : Instr} (hd : decode M.2.1 pc = .ok (i, len)) (hl : zlkB M.1.cls M.1.name pc i len ex = true) (ht : tr (zins bad M al sc G K C cs ss pc lo st h ex i)) : zX l Γ al (d + 1) M QF cs ss pc lo st h := by
  cases i
  case iconst => exact zi_iconst hbad hC hd hl ht
  case bipush => exact zi_bipush hbad hC hd hl ht
  case sipush => exact zi_sipush hbad hC hd hl ht
  case lconst => exact zi_lconst hbad hC hd hl ht
  case iload => exact zi_iload hbad hC hd hl ht
  case iload_n => exact zi_iload_n hbad hC hd hl ht
  case lload => exact zi_lload hbad hC hd hl ht
  case lload_n => exact zi_lload_n hbad hC hd hl ht
  case aload => exact zi_aload hbad hC hd hl ht
  case aload_n => exact zi_aload_n hbad hC hd hl ht
  case istore => exact zi_istore hbad hC hd hl ht
  case istore_n => exact zi_istore_n hbad hC hd hl ht
  case lstore => exact zi_lstore hbad hC hd hl ht
  case lstore_n => exact zi_lstore_n hbad hC hd hl ht
  case astore => exact zi_astore hbad hC hd hl ht
  case astore_n => exact zi_astore_n hbad hC hd hl ht
  case iinc => exact zi_iinc hbad hC hd hl ht
  case iadd => exact zi_iadd hbad hC hd hl ht
  case isub => exact zi_isub hbad hC hd hl ht
  case imul => exact zi_imul hbad hC hd hl ht
  case iand => exact zi_iand hbad hC hd hl ht
  case ior => exact zi_ior hbad hC hd hl ht
  case ixor => exact zi_ixor hbad hC hd hl ht
  case ineg => exact zi_ineg hbad hC hd hl ht
  case ishl => exact zi_ishl hbad hC hd hl ht
  case ishr => exact zi_ishr hbad hC hd hl ht
  case ladd => exact zi_ladd hbad hC hd hl ht
  case lsub => exact zi_lsub hbad hC hd hl ht
  case lmul => exact zi_lmul hbad hC hd hl ht
  case land => exact zi_land hbad hC hd hl ht
  case lneg => exact zi_lneg hbad hC hd hl ht
  case iushr => exact zi_iushr hbad hC hd hl ht
  case i2l => exact zi_i2l hbad hC hd hl ht
  case l2i => exact zi_l2i hbad hC hd hl ht
  case i2b => exact zi_i2b hbad hC hd hl ht
  case i2c => exact zi_i2c hbad hC hd hl ht
  case lcmp => exact zi_lcmp hbad hC hd hl ht
  case idiv => exact zi_idiv hbad hC hd hl ht
  case irem => exact zi_irem hbad hC hd hl ht
  case ldiv => exact zi_ldiv hbad hC hd hl ht
  case lrem => exact zi_lrem hbad hC hd hl ht
  case dup => exact zi_dup hbad hC hd hl ht
  case pop => exact zi_pop hbad hC hd hl ht
  case pop2 => exact zi_pop2 hbad hC hd hl ht
  case dup2 => exact zi_dup2 hbad hC hd hl ht
  case goto => exact zi_goto hbad hC hd hl ht
  case getfield => exact zi_getfield hbad hC hd hl ht
  case putfield => exact zi_putfield hbad hC hd hl ht
  case getstatic => exact zi_getstatic hbad hC hd hl ht
  case ldc => exact zi_ldc hbad hC hd hl ht
  case ldc_w => exact zi_ldc_w hbad hC hd hl ht
  case ldc2_w => exact zi_ldc2_w hbad hC hd hl ht
  case iaload => exact zi_iaload hbad hC hsc hd hl ht
  case laload => exact zi_laload hbad hC hd hl ht
  case baload => exact zi_baload hbad hC hd hl ht
  case arraylength => exact zi_arraylength hbad hC hsc hd hl ht
  case iastore => exact zi_iastore hbad hC hd hl ht
  case lastore => exact zi_lastore hbad hC hd hl ht
  case bastore => exact zi_bastore hbad hC hd hl ht
  case new => exact zi_new hbad hC hd hl ht
  case newarray => exact zi_newarray hbad hC hd hl ht
  case tableswitch => exact zi_tableswitch hbad hC hd hl ht
  case lookupswitch => exact zi_lookupswitch hbad hC hd hl ht
  case ireturn => exact zi_ireturn hbad hC hQ hd hl ht
  case lreturn => exact zi_lreturn hbad hC hQ hd hl ht
  case return_ => exact zi_return_ hbad hC hQ hd hl ht
  case invokestatic => exact zi_invokestatic hbad hC hG hGW hd hl ht
  case invokevirtual => exact zi_invokevirtual hbad hC hG hd hl ht
  case invokespecial => exact zi_invokespecial hbad hC hG hd hl ht
  case ifCond cnd off =>
    cases cnd
    case eq => exact zi_if_eq hbad hC hd hl ht
    case ne => exact zi_if_ne hbad hC hd hl ht
    case lt => exact zi_if_lt hbad hC hd hl ht
    case ge => exact zi_if_ge hbad hC hd hl ht
    case gt => exact zi_if_gt hbad hC hd hl ht
    case le => exact zi_if_le hbad hC hd hl ht
  case if_icmp cnd off =>
    cases cnd
    case eq => exact zi_icmp_eq hbad hC hd hl ht
    case ne => exact zi_icmp_ne hbad hC hd hl ht
    case lt => exact zi_icmp_lt hbad hC hd hl ht
    case ge => exact zi_icmp_ge hbad hC hd hl ht
    case gt => exact zi_icmp_gt hbad hC hd hl ht
    case le => exact zi_icmp_le hbad hC hd hl ht
  all_goals exact absurd ht hbad
end ZI
section ZR
variable {ρ : Type} {bad : ρ} {tr : ρ → Prop} {l : Launch} {Γ : zG} {al : Bool} {sc : Option (Nat × (Nat → Int32))} {QF : List Frame → Array Value → State → State → Prop}
theorem zstep_ok {d : Nat} {M : zM} {G : Nat → List Value → zH → (Option Value → zH → ρ) → ρ} {K : Option Value → zH → ρ} {C : Nat → Nat → Nat → zL → List Value → zH → ρ} (hbad : ¬ tr bad) (hck : zckB M = true)
    (hG : ∀ mi args h K', mi ≠ zGL → tr (G mi args h K') → zSem l Γ al d (zhd mi) args h (fun r h' => tr (K' r h')))
    (hGW : ∀ args h K', tr (G zGL args h K') → zSemW l Γ al d args h (fun r h' => tr (K' r h'))) (hsc : ∀ x, sc = some x → (Γ.2.2.2.2.1, Γ.2.2.2.2.2.1) = x)
    (hQ : ∀ below args s t, MQ below (zQ Γ al (fun r h' => tr (K r h'))) args s M.1.2.2.2.2.1 M.1.2.2.2.2.2 (zA Γ) t → QF below args s t)
    (hC : ∀ cs ss pc lo st h, tr (C cs ss pc lo st h) → zX l Γ al (d + 1) M.1 QF cs ss pc lo st h)
    {cs ss pc : Nat} {lo : zL} {st : List Value} {h : zH} (ht : tr (zstep bad M al sc G K C cs ss pc lo st h)) : zX l Γ al (d + 1) M.1 QF cs ss pc lo st h := by
  unfold zstep at ht
  split at ht
  · rename_i e
    have h1 := zallR_get _ hck pc
    simp only [zckF, Bool.and_eq_true, decide_eq_true_eq] at h1
    rw [e] at h1
    exact zins_ok hbad hC hG hQ hsc hGW h1.1 h1.2 ht
  · exact absurd ht hbad
theorem zbody {d : Nat} {M : zHd} {args : List Value} {h : zH} {K : Option Value → zH → Prop} (hpl : plainName M.1.cls = true) (hn : (lg_sl args).length ≤ M.2.2.1) (hX : zX l Γ al d M (zMQ' Γ al M K) 0 0 0 (lv_args 0 args) [] h) : zSem l Γ al d M args h K := by
  refine Met.ofW (cc := M.2.1) (maxL := M.2.2.1) (ret := M.2.2.2.1) hpl rfl ?_
  intro p e s m args' below meth c s₁ B hml hv
  obtain ⟨rfl, hev, hrep⟩ := hv
  have ho := hev.2.2.2.1
  have hl := lv_entry (args.map (zcv Γ)) (n := M.2.2.1) (by rw [zsl_len ho]; exact hn)
  rw [zlv_args ho] at hl
  rw [lg_entry_eq]
  exact hX (Nat.zero_le _) (Nat.zero_le _) p e s m _ below meth c ⟨B.exec, B.bytes, hml, B.returns, findClass_of_methodNamed B.named, B.notSynchronized, (name_of_methodNamed B.named B.method).1, hev⟩ s.heap [] _ hl hrep va_S.rf
/-- so many steps of a method's body, up to places where it stops -/
def zit (bad : ρ) (M : zM) (al : Bool) (sc : Option (Nat × (Nat → Int32))) (G : Nat → List Value → zH → (Option Value → zH → ρ) → ρ) (K : Option Value → zH → ρ) (stop : Nat → Bool) (S : Nat → Nat → Nat → zL → List Value → zH → ρ) : Nat → Nat → Nat → Nat → zL → List Value → zH → ρ
  | 0 => fun _ _ _ _ _ _ => bad
  | n + 1 => zstep bad M al sc G K (fun cs ss pc lo st h => if stop pc = true then S cs ss pc lo st h else zit bad M al sc G K stop S n cs ss pc lo st h)
theorem zit_ok {d : Nat} {M : zM} {G : Nat → List Value → zH → (Option Value → zH → ρ) → ρ} {K : Option Value → zH → ρ} {stop : Nat → Bool} {S : Nat → Nat → Nat → zL → List Value → zH → ρ} (hbad : ¬ tr bad) (hck : zckB M = true)
    (hG : ∀ mi args h K', mi ≠ zGL → tr (G mi args h K') → zSem l Γ al d (zhd mi) args h (fun r h' => tr (K' r h')))
    (hGW : ∀ args h K', tr (G zGL args h K') → zSemW l Γ al d args h (fun r h' => tr (K' r h'))) (hsc : ∀ x, sc = some x → (Γ.2.2.2.2.1, Γ.2.2.2.2.2.1) = x)
    (hQ : ∀ below args s t, MQ below (zQ Γ al (fun r h' => tr (K r h'))) args s M.1.2.2.2.2.1 M.1.2.2.2.2.2 (zA Γ) t → QF below args s t)
    (hS : ∀ cs ss pc lo st h, stop pc = true → tr (S cs ss pc lo st h) → zX l Γ al (d + 1) M.1 QF cs ss pc lo st h) : ∀ (n : Nat) (cs ss pc : Nat) (lo : zL) (st : List Value) (h : zH), tr (zit bad M al sc G K stop S n cs ss pc lo st h) → zX l Γ al (d + 1) M.1 QF cs ss pc lo st h
  | 0, _, _, _, _, _, _, ht => absurd ht hbad
  | n + 1, _, _, _, _, _, _, ht => zstep_ok hbad hck hG hGW hsc hQ (fun cs ss pc lo st h h1 => by
      split at h1
      · rename_i h2
        exact hS _ _ _ _ _ _ h2 h1
      · exact zit_ok hbad hck hG hGW hsc hQ hS n _ _ _ _ _ _ h1) ht
end ZR
