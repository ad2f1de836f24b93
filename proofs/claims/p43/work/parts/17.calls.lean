theorem zinit_all : zHD.all (fun e => !decide (e.1.name = "<init>") || decide (e.2.2.2.1 = none)) = true := by decide +kernel
theorem zinit_ret (mi : Nat) (h : (zhd mi).1.name = "<init>") : (zhd mi).2.2.2.1 = none := by
  rw [zhd_D] at h ⊢
  rw [List.getD_eq_getElem?_getD] at h ⊢
  cases he : zHD[mi]? with
  | none =>
    rw [he] at h
    exact absurd h (by decide)
  | some e =>
    rw [he] at h
    have := List.all_eq_true.mp zinit_all e (List.mem_of_getElem? he)
    simp only [Bool.or_eq_true, Bool.not_eq_true', decide_eq_false_iff_not, decide_eq_true_eq] at this
    rcases this with h1 | h1
    · exact absurd h h1
    · exact h1
theorem zneGL {mi : Nat} (h : (zmp mi).1 ≠ 9) : mi ≠ zGL := by
  intro e
  subst e
  exact h (by decide +kernel)
theorem zno999 {Γ : zG} {h : zH} {H : Heap} {a q : Nat} (hP : va_P Γ.1 classes (zws Γ h) H) (hw : (zws Γ h)[q]? = some (a, zcell Γ h q (0, 999))) : False := by
  obtain ⟨r, h1, -⟩ := hP q _ hw
  have : classes[999]? = none := rfl
  rw [this] at h1
  cases h1
theorem zrep_le {Γ : zG} {h h' : zH} {H H1 : Heap} {q : Nat} {sh : zSh} (_ : va_P Γ.1 classes (zws Γ h) H) (hP : va_P Γ.1 classes (zws Γ h') H1) (hq : h.1[q]? = some sh) (hs : h'.1 = h.1) : Γ.2.2.1 + h'.1.length ≤ H1.size := by
  have h1 := (List.getElem?_eq_some_iff.mp hq).1
  have h2 : h'.1.length - 1 < h'.1.length := by rw [hs]; omega
  have h3 := (hP (h'.1.length - 1) _ (zws_at (Γ := Γ) (List.getElem?_eq_getElem h2))).lt
  simp only at h3
  omega
section ZC
variable {p : Program} {l : Launch} {e : Env} {R : Room} {s : State} {m : MethodId} {args : Array Value} {below : List Frame} {meth : Method} {c : Code} {H : Heap} {locs : List Loc} {cells slots mc ms : Nat} {Q : State → Prop} {Γ : zG} {al : Bool}
theorem zcall {K' : Option Value → zH → Prop} {pc : Nat} {ls : Array Slot} {st0 rest : List Value} {a : Array Value} (hr : va_Run p l e R s m args below meth c H locs cells slots mc ms (F0 m pc ls st0) rest (zQ Γ al K' a) (zA Γ)) (hS : va_S (zA Γ) s.heap H locs)
    (kk : ∀ (r : Option Value) (h' : zH) (H1 : Heap) (locs1 : List Loc), K' r h' → zRep Γ al h' H1 → va_S (zA Γ) s.heap H1 locs1 → W p l e R s m args below meth c H1 locs1 (cells + mc) (slots + ms) Q (F0 m (pc + 3) ls ((r.map (zcv Γ)).toList ++ rest))) : W p l e R s m args below meth c H locs cells slots Q (F0 m pc ls st0) := by
  intro T hT X
  obtain ⟨v, st₀, t, T', L, h0, X', hL, e1, e2, ⟨⟨r, h', hv, hp, hb⟩, hz, hk⟩, st⟩ := hr T hT X
  cases hv
  rw [h0] at hz hk
  obtain ⟨t2, a1, b1⟩ := kk r h' T'.heap (locs ++ L) hp (by rw [e1]; exact hb)
    ⟨Nat.le_trans hS.1 (by rw [e1]; exact hz), fun q h1 h2 => by rw [e1, hk q (Nat.lt_of_lt_of_le h1 hS.1) h2]; exact hS.2.1 q h1 h2, fun q hq => by
      rcases List.mem_append.mp hq with h | h
      · exact hS.2.2 q h
      · exact hL q h⟩ T' rfl X'
  exact ⟨t2, st t2 a1, b1⟩
theorem zpre {h : zH} {As : List Value} (hev : zEv Γ s) (hrep : zRep Γ al h H) (hS : va_S (zA Γ) s.heap H locs) : ∀ U : State, U.heap = H → s.WarmedH U.vm → zPc Γ al As h (As.map (zcv Γ)).toArray U := by
  intro U hU hW
  refine ⟨rfl, zEv_warm hW (by rw [hU]; exact hS.1) (fun q h1 h2 => by rw [hU]; exact hS.2.1 q h1 h2) hev, by rw [hU]; exact hrep⟩
theorem zwords_ok {mi : Nat} (hev : zEv Γ s) (hk : (zmp mi).1 ≠ 9) : ∀ w ∈ ([.code (zhd mi).1 (zhd mi).2.1 (zhd mi).2.2.1 (zhd mi).2.2.2.1] : List Cond), ∀ (a' : Array Value) (U : State), s.WarmedH U.vm → w.before a' U = true := by
  intro w hw a' U hW
  rw [List.mem_singleton.mp hw]
  exact word_at hW (Or.inl rfl) (hev.1 _ (zwat_mem (zmo_ok mi hk).1) rfl #[])
end ZC
theorem zcwB_ok {e : zMQ} (h : zcwB e = true) (hk : e.2.1 ≠ 9) : zwat e.2.2.2.2.1 = some (.initialized e.1.1.cls) ∧ e.1.2.2.1 ≤ 19 ∧ (parseMethodDescriptor e.1.1.desc).map (fun d => d.parameters.length) = some e.2.2.1 ∧ (e.1.1.cls ≠ "java/lang/invoke/MethodHandle" ∧ e.1.1.cls ≠ "java/lang/invoke/VarHandle") ∧ plainName e.1.1.cls = true ∧
    ((e.2.1 = 0 ∧ zwat e.2.2.2.2.2.1 = some (.static e.1.1)) ∨ (e.2.1 = 1 ∧ zwat e.2.2.2.2.2.1 = some (.instanceMethod e.1.1) ∧ zwat e.2.2.2.2.2.2 = some (.selects e.1.1.cls e.1.1 e.1.1)) ∨ (e.2.1 = 2 ∧ zwat e.2.2.2.2.2.1 = some (.instanceMethod e.1.1) ∧ e.1.1.name = "<init>")) := by
  simp only [zcwB, Bool.or_eq_true, Bool.and_eq_true, decide_eq_true_eq, beq_iff_eq] at h
  rcases h with h | ⟨⟨⟨⟨⟨⟨h1, h2⟩, h3⟩, h4⟩, h5⟩, h6⟩, h7⟩
  · exact absurd h hk
  · refine ⟨h1, h2, h3, ⟨h4, h5⟩, h6, ?_⟩
    rcases h7 with (⟨a, b⟩ | ⟨⟨a, b⟩, c⟩) | ⟨⟨a, b⟩, c⟩
    · exact Or.inl ⟨a, b⟩
    · exact Or.inr (Or.inl ⟨a, b, c⟩)
    · exact Or.inr (Or.inr ⟨a, b, c⟩)
theorem znp {desc : String} {n : Nat} (h : (parseMethodDescriptor desc).map (fun d => d.parameters.length) = some n) : ∀ sig, parseMethodDescriptor desc = some sig → n = sig.parameters.length := by
  intro sig hs
  rw [hs] at h
  exact (Option.some.inj h).symm
theorem zst_eq {Γ : zG} {st rest : List Value} {n : Nat} (h : st.drop n = rest) : st.map (zcv Γ) = ((((st.take n).reverse).map (zcv Γ)).reverse) ++ rest.map (zcv Γ) := by
  rw [← h, ← List.map_reverse, List.reverse_reverse, ← List.map_append, List.take_append_drop]
theorem zret_eq {Γ : zG} {r : Option Value} {rest : List Value} : (r.map (zcv Γ)).toList ++ rest.map (zcv Γ) = (r.toList ++ rest).map (zcv Γ) := by
  cases r <;> simp
section ZI
variable {ρ : Type} {bad : ρ} {tr : ρ → Prop} {l : Launch} {Γ : zG} {al : Bool} {d : Nat} {M : zHd} {G : Nat → List Value → zH → (Option Value → zH → ρ) → ρ} {K : Option Value → zH → ρ} {QF : List Frame → Array Value → State → State → Prop} {sc : Option (Nat × (Nat → Int32))} {C : Nat → Nat → Nat → zL → List Value → zH → ρ}
  {cs ss pc len : Nat} {lo : zL} {st : List Value} {h : zH} {ex : List Nat}

theorem zi_invokevirtual {idx : Nat} (hbad : ¬ tr bad) (hC : ∀ cs ss pc lo st h, tr (C cs ss pc lo st h) → zX l Γ al (d + 1) M QF cs ss pc lo st h) (hG : ∀ mi args h K', mi ≠ zGL → tr (G mi args h K') → zSem l Γ al d (zhd mi) args h (fun r h' => tr (K' r h'))) (hd : decode M.2.1 pc = .ok (.invokevirtual idx, len)) (hl : zlkB M.1.cls M.1.name pc (.invokevirtual idx) len ex = true) (ht : tr (zins bad M al sc G K C cs ss pc lo st h ex (.invokevirtual idx))) : zX l Γ al (d + 1) M QF cs ss pc lo st h := by
  intro hcs hss p e s m args below meth c hctx H locs ls hlv hrep hS
  obtain ⟨hx, hb, hml, hr, hown, hlk, hnm, hev⟩ := id hctx
  obtain ⟨hTb, hKn, hbs, ho, hstr, hz1, hz2, hscr, hthr⟩ := id hev
  simp only [zlkB, Bool.and_eq_true, beq_iff_eq] at hl
  obtain ⟨e, hl⟩ := hl
  subst e
  simp only [zins] at ht
  split at ht
  · rename_i mi n ci pl nest
    simp only [Bool.and_eq_true, beq_iff_eq] at hl
    obtain ⟨⟨⟨k1, k2⟩, k3⟩, k4⟩ := hl
    have hk9 : (zmp mi).1 ≠ 9 := by omega
    obtain ⟨hcode, hB⟩ := zmo_ok mi hk9
    obtain ⟨b1, b2, b3, b4, b5, b6⟩ := zcwB_ok hB hk9
    have b7 : zwat (zmp mi).2.2.2.2.1 = some (.instanceMethod (zhd mi).1) ∧ zwat (zmp mi).2.2.2.2.2 = some (.selects (zhd mi).1.cls (zhd mi).1 (zhd mi).1) := by
      rcases b6 with ⟨a1, -⟩ | ⟨-, a2, a3⟩ | ⟨a1, -⟩
      · have a1 : (zmp mi).1 = 0 := a1
        omega
      · exact ⟨a2, a3⟩
      · have a1 : (zmp mi).1 = 2 := a1
        omega
    have go : ∀ (b : Nat) (v9 : Value) (rest : List Value), st.drop n = v9 :: rest → zwd rest ≤ 8 → (st.take n).length = n → cs + zmc mi ≤ M.2.2.2.2.1 → ss + zms mi ≤ M.2.2.2.2.2 → zcv Γ v9 = .ref b → (∃ cellB : Cell, H[b]? = some cellB ∧ cellB.vm.isStatics = false ∧ s.vm.findClass (zhd mi).1.cls = some cellB.cls) → tr (G mi (v9 :: (st.take n).reverse) h (fun r h' => C (cs + zmc mi) (ss + zms mi) (pc + 3) lo (r.toList ++ rest) h')) →
        W p l e (zrm (d + 1) M.2.2.2.2.1 M.2.2.2.2.2) s m args below meth c H locs cs ss (QF below args s) (F0 m pc ls (st.map (zcv Γ))) := by
      intro b v9 rest hdrop hw8 hlen hc1 hc2 hcvb hrecv ht
      have hM := hG _ _ _ _ (zneGL hk9) ht
      have hpre : PreV s H (zhd mi).1.cls b (zPc Γ al (v9 :: (st.take n).reverse) h) (((st.take n).reverse).map (zcv Γ)) := ⟨zPc_blind, hrecv, fun U hU hW => by
        have := zpre (As := v9 :: (st.take n).reverse) hev hrep hS U hU hW
        rw [List.map_cons, hcvb] at this
        exact this⟩
      have hrun : va_Run p l e (zrm (d + 1) M.2.2.2.2.1 M.2.2.2.2.2) s m args below meth c H locs cs ss (zmc mi) (zms mi) (F0 m pc ls (st.map (zcv Γ))) (rest.map (zcv Γ)) (zQ Γ al (fun r h' => tr (C (cs + zmc mi) (ss + zms mi) (pc + 3) lo (r.toList ++ rest) h')) (Value.ref b :: ((st.take n).reverse).map (zcv Γ)).toArray) (zA Γ) := by
        have hstk : (F0 m pc ls (st.map (zcv Γ))).stack = (((st.take n).reverse).map (zcv Γ)).reverse ++ .ref b :: rest.map (zcv Γ) := by
          show st.map (zcv Γ) = _
          rw [zst_eq (Γ := Γ) hdrop, List.map_cons, hcvb]
        have hla : (((st.take n).reverse).map (zcv Γ)).length = n := by simpa using hlen
        have h8 : 2 * (F0 m pc ls (st.map (zcv Γ))).monitorRoom + ((rest.map (zcv Γ)).map fun v => v.category).sum ≤ 8 := lv_room (by rw [zwd_map ho]; exact hw8)
        rcases zml_ok k3 with ⟨-, hlk1⟩ | ⟨-, hlk1⟩
        · exact va_runV (Ts := []) (own := M.1.cls) ⟨hx, hb, hml, hown, fun w h => by cases h⟩ hM ⟨⟨rfl, rfl, Nat.le_refl _, by show 8 + ((zhd mi).2.2.1 + 11) + (38 * d + 8) ≤ 38 * (d + 1) + 8; have : (zhd mi).2.2.1 ≤ 19 := b2; omega, zwords_ok hev hk9, List.mem_singleton.mpr rfl, zTb_at hTb hcode rfl args, zTb_at hTb b1 rfl args, b4, znp (by rw [← k2]; exact b3), zTb_at hTb hlk1 rfl args⟩, zTb_at hTb b7.1 rfl args, zTb_at hTb b7.2 rfl args⟩ hpre rfl hla hlv.1 hstk h8 hd ⟨hc1, hc2⟩
        · exact va_runVN (Ts := []) (own := M.1.cls) ⟨hx, hb, hml, hown, fun w h => by cases h⟩ hM ⟨⟨⟨rfl, rfl, Nat.le_refl _, by show 8 + ((zhd mi).2.2.1 + 11) + (38 * d + 8) ≤ 38 * (d + 1) + 8; have : (zhd mi).2.2.1 ≤ 19 := b2; omega, zwords_ok hev hk9, List.mem_singleton.mpr rfl⟩, zTb_at hTb hcode rfl args, zTb_at hTb b1 rfl args, b4, znp (by rw [← k2]; exact b3), zTb_at hTb hlk1 rfl args⟩, zTb_at hTb b7.1 rfl args, zTb_at hTb b7.2 rfl args⟩ hpre rfl hla hlv.1 hstk h8 hd ⟨hc1, hc2⟩
      refine zcall hrun hS fun r h' H1 locs1 hk hrep1 hS1 => ?_
      rw [zret_eq]
      exact hC _ _ _ _ _ _ hk hc1 hc2 p e s m args below meth c hctx H1 locs1 ls hlv hrep1 hS1
    split at ht
    · rename_i q rest hdrop
      split at ht
      · rename_i hcond
        obtain ⟨hw8, hlen, hc1, hc2, hsh⟩ := hcond
        have hci : ci ≠ 999 := by
          intro h9
          subst h9
          exact zno999 hrep.1 (zws_at (Γ := Γ) hsh)
        rw [if_neg hci, decide_eq_true_eq] at k4
        obtain ⟨r, hc, hrn⟩ := Option.map_eq_some_iff.mp k4
        have hws := zws_at (Γ := Γ) hsh
        rw [zcell_o] at hws
        have hrecv := va_recv hKn hrep.1 hc hws
        rw [hrn] at hrecv
        exact go _ _ rest hdrop hw8 hlen hc1 hc2 rfl hrecv ht
      · exact absurd ht hbad
    · rename_i q rest hdrop
      split at ht
      · rename_i hcond
        obtain ⟨hw8, hlen, hc1, hc2, hq, hci⟩ := hcond
        subst hq
        rw [if_pos hci, decide_eq_true_eq] at k4
        obtain ⟨a0, a1, e0, e1, hvs, -⟩ := hstr
        have hrecv := vk_recv hvs (by decide) hS (i := 0)
        rw [← k4] at hrecv
        exact go a0 _ rest hdrop hw8 hlen hc1 hc2 e0 hrecv ht
      · exact absurd ht hbad
    · exact absurd ht hbad
  · exact absurd ht hbad
theorem zi_invokestatic {idx : Nat} (hbad : ¬ tr bad) (hC : ∀ cs ss pc lo st h, tr (C cs ss pc lo st h) → zX l Γ al (d + 1) M QF cs ss pc lo st h) (hG : ∀ mi args h K', mi ≠ zGL → tr (G mi args h K') → zSem l Γ al d (zhd mi) args h (fun r h' => tr (K' r h'))) (hGW : ∀ args h K', tr (G zGL args h K') → zSemW l Γ al d args h (fun r h' => tr (K' r h'))) (hd : decode M.2.1 pc = .ok (.invokestatic idx, len)) (hl : zlkB M.1.cls M.1.name pc (.invokestatic idx) len ex = true) (ht : tr (zins bad M al sc G K C cs ss pc lo st h ex (.invokestatic idx))) : zX l Γ al (d + 1) M QF cs ss pc lo st h := by
  intro hcs hss p e s m args below meth c hctx H locs ls hlv hrep hS
  obtain ⟨hx, hb, hml, hr, hown, hlk, hnm, hev⟩ := id hctx
  obtain ⟨hTb, hKn, hbs, ho, hstr, hz1, hz2, hscr, hthr⟩ := id hev
  simp only [zlkB, Bool.and_eq_true, beq_iff_eq] at hl
  obtain ⟨e, hl⟩ := hl
  subst e
  simp only [zins] at ht
  split at ht
  · rename_i mi n pl nest _
    split at ht
    · rename_i hcond
      obtain ⟨hw8, hlen, hc1, hc2⟩ := hcond
      simp only [Bool.and_eq_true, beq_iff_eq] at hl
      obtain ⟨⟨k1, k2⟩, k3⟩ := hl
      have hk9 : (zmp mi).1 ≠ 9 := by omega
      obtain ⟨hcode, hB⟩ := zmo_ok mi hk9
      obtain ⟨b1, b2, b3, b4, b5, b6⟩ := zcwB_ok hB hk9
      have b7 : zwat (zmp mi).2.2.2.2.1 = some (.static (zhd mi).1) := by
        rcases b6 with ⟨-, a2⟩ | ⟨a1, -⟩ | ⟨a1, -⟩
        · exact a2
        · have a1 : (zmp mi).1 = 1 := a1
          omega
        · have a1 : (zmp mi).1 = 2 := a1
          omega
      have hM := hG _ _ _ _ (zneGL hk9) ht
      have hpre : PreS s H (zPc Γ al ((st.take n).reverse) h) (((st.take n).reverse).map (zcv Γ)) := ⟨zPc_blind, fun U hU hW => zpre hev hrep hS U hU hW⟩
      have hrun : va_Run p l e (zrm (d + 1) M.2.2.2.2.1 M.2.2.2.2.2) s m args below meth c H locs cs ss (zmc mi) (zms mi) (F0 m pc ls (st.map (zcv Γ))) ((st.drop n).map (zcv Γ)) (zQ Γ al (fun r h' => tr (C (cs + zmc mi) (ss + zms mi) (pc + 3) lo (r.toList ++ st.drop n) h')) (((st.take n).reverse).map (zcv Γ)).toArray) (zA Γ) := by
        have hstk : (F0 m pc ls (st.map (zcv Γ))).stack = (((st.take n).reverse).map (zcv Γ)).reverse ++ (st.drop n).map (zcv Γ) := zst_eq rfl
        have hla : (((st.take n).reverse).map (zcv Γ)).length = n := by simpa using hlen
        have h8 : 2 * (F0 m pc ls (st.map (zcv Γ))).monitorRoom + (((st.drop n).map (zcv Γ)).map fun v => v.category).sum ≤ 8 := lv_room (by rw [zwd_map ho]; exact hw8)
        rcases zml_ok k3 with ⟨-, hlk1⟩ | ⟨-, hlk1⟩
        · exact va_runS (Ts := []) (own := M.1.cls) ⟨hx, hb, hml, hown, fun w h => by cases h⟩ hM ⟨⟨rfl, rfl, Nat.le_refl _, by show 8 + ((zhd mi).2.2.1 + 11) + (38 * d + 8) ≤ 38 * (d + 1) + 8; have : (zhd mi).2.2.1 ≤ 19 := b2; omega, zwords_ok hev hk9, List.mem_singleton.mpr rfl, zTb_at hTb hcode rfl args, zTb_at hTb b1 rfl args, b4, znp (by rw [← k2]; exact b3), zTb_at hTb hlk1 rfl args⟩, zTb_at hTb b7 rfl args⟩ hpre rfl hla hlv.1 hstk h8 hd ⟨hc1, hc2⟩
        · exact va_runSN (Ts := []) (own := M.1.cls) ⟨hx, hb, hml, hown, fun w h => by cases h⟩ hM ⟨⟨⟨rfl, rfl, Nat.le_refl _, by show 8 + ((zhd mi).2.2.1 + 11) + (38 * d + 8) ≤ 38 * (d + 1) + 8; have : (zhd mi).2.2.1 ≤ 19 := b2; omega, zwords_ok hev hk9, List.mem_singleton.mpr rfl⟩, zTb_at hTb hcode rfl args, zTb_at hTb b1 rfl args, b4, znp (by rw [← k2]; exact b3), zTb_at hTb hlk1 rfl args⟩, zTb_at hTb b7 rfl args, trivial⟩ hpre rfl hla hlv.1 hstk h8 hd ⟨hc1, hc2⟩
      refine zcall hrun hS fun r h' H1 locs1 hk hrep1 hS1 => ?_
      rw [zret_eq]
      exact hC _ _ _ _ _ _ hk hc1 hc2 p e s m args below meth c hctx H1 locs1 ls hlv hrep1 hS1
    · exact absurd ht hbad
  · rename_i mi n pl ps pi pcd _
    split at ht
    · rename_i hcond
      obtain ⟨hgl, hw8, hlen, hc1, hc2⟩ := hcond
      subst hgl
      simp only [Bool.and_eq_true, decide_eq_true_eq] at hl
      obtain ⟨⟨⟨⟨w1, w2⟩, w3⟩, w4⟩, w5⟩ := hl
      have hM := hGW _ _ _ ht
      have hpre : PreS s H (zPc Γ al ((st.take n).reverse) h) (((st.take n).reverse).map (zcv Γ)) := ⟨zPc_blind, fun U hU hW => zpre hev hrep hS U hU hW⟩
      have hrun : va_Run p l e (zrm (d + 1) M.2.2.2.2.1 M.2.2.2.2.2) s m args below meth c H locs cs ss (zmc zGL) (zms zGL) (F0 m pc ls (st.map (zcv Γ))) ((st.drop n).map (zcv Γ)) (zQ Γ al (fun r h' => tr (C (cs + zmc zGL) (ss + zms zGL) (pc + 3) lo (r.toList ++ st.drop n) h')) (((st.take n).reverse).map (zcv Γ)).toArray) (zA Γ) := by
        have hstk : (F0 m pc ls (st.map (zcv Γ))).stack = (((st.take n).reverse).map (zcv Γ)).reverse ++ (st.drop n).map (zcv Γ) := zst_eq rfl
        have hla : (((st.take n).reverse).map (zcv Γ)).length = n := by simpa using hlen
        have h8 : 2 * (F0 m pc ls (st.map (zcv Γ))).monitorRoom + (((st.drop n).map (zcv Γ)).map fun v => v.category).sum ≤ 8 := lv_room (by rw [zwd_map ho]; exact hw8)
        exact vx_runSW (Ts := []) (own := M.1.cls) ⟨hx, hb, hml, hown, fun w h => by cases h⟩ hM ⟨⟨rfl, rfl, Nat.le_refl _, by show 8 + ((zhd zGL).2.2.1 + 11) + (38 * d + 8) ≤ 38 * (d + 1) + 8; have : (zhd zGL).2.2.1 ≤ 19 := zGL_l; omega, fun w hw a' U hW => by rw [List.mem_singleton.mp hw]; exact word_at hW (Or.inl rfl) (hev.1 _ (zwat_mem zGL_w) rfl #[]), List.mem_singleton.mpr rfl⟩, zTb_at hTb zGL_w rfl args, zTb_at hTb w3 rfl args, zGL_c, znp w5, zTb_at hTb w1 rfl args, zTb_at hTb w2 rfl args⟩ hpre rfl hla hlv.1 hstk h8 hd ⟨hc1, hc2⟩
      refine zcall hrun hS fun r h' H1 locs1 hk hrep1 hS1 => ?_
      rw [zret_eq]
      exact hC _ _ _ _ _ _ hk hc1 hc2 p e s m args below meth c hctx H1 locs1 ls hlv hrep1 hS1
    · exact absurd ht hbad
  · rename_i k pl ps pi _ _
    split at ht
    · rename_i y x rest
      split at ht
      · rename_i hw8
        have kk := hC _ _ _ _ _ _ ht hcs hss p e s m args below meth c hctx H locs ls hlv hrep hS
        have h8 : ((rest.map (zcv Γ)).map fun v => v.category).sum + 13 ≤ 38 * (d + 1) + 8 := by rw [zwd_map ho]; omega
        rw [List.map_cons] at kk
        by_cases hk : k = 0
        · simp only [hk, if_true, Bool.and_eq_true, decide_eq_true_eq] at hl
          rw [show zcv Γ (.int (if k = 0 then (if x < y then y else x) else (if y < x then y else x))) = .int (if x < y then y else x) by rw [if_pos hk]; rfl] at kk
          exact va_mmax hx hb (by rw [hml]; exact hlv.1.symm) hown (zTb_at hTb hl.1.1 rfl args) (zTb_at hTb hl.1.2 rfl args) (zTb_at hTb hl.2 rfl args) (zTb_at hTb zmaxw rfl args) (Nat.succ_le_succ (Nat.zero_le d)) h8 hcs hss hd kk
        · simp only [hk, if_false, Bool.and_eq_true, decide_eq_true_eq] at hl
          rw [show zcv Γ (.int (if k = 0 then (if x < y then y else x) else (if y < x then y else x))) = .int (if y < x then y else x) by rw [if_neg hk]; rfl] at kk
          exact va_mmin hx hb (by rw [hml]; exact hlv.1.symm) hown (zTb_at hTb hl.1.1 rfl args) (zTb_at hTb hl.1.2 rfl args) (zTb_at hTb hl.2 rfl args) (zTb_at hTb zminw rfl args) (Nat.succ_le_succ (Nat.zero_le d)) h8 hcs hss hd kk
      · exact absurd ht hbad
    · exact absurd ht hbad
  · rename_i pl pn ps pi
    split at ht
    · rename_i n dp q1 sp q0 rest
      split at ht
      · rename_i n0 n1 hsh0 hsh1
        split at ht
        · rename_i hcond
          obtain ⟨hw8, hal, g1, g2, g3, g4, g5⟩ := hcond
          simp only [Bool.and_eq_true, decide_eq_true_eq] at hl
          obtain ⟨⟨⟨w1, w2⟩, w3⟩, w4⟩ := hl
          have hws0 := zws_at (Γ := Γ) hsh0
          have hws1 := zws_at (Γ := Γ) hsh1
          have h8 : ((rest.map (zcv Γ)).map fun v => v.category).sum + (nativeFrameWords "java/lang/System" "arraycopy" 5 + 11) ≤ 38 * (d + 1) + 8 := by
            have : nativeFrameWords "java/lang/System" "arraycopy" 5 ≤ 19 := by decide +kernel
            rw [zwd_map ho]; omega
          refine va_copyi hx hb (by rw [hml]; exact hlv.1.symm) hown (zTb_at hTb w1 rfl args) (zTb_at hTb w2 rfl args) (zTb_at hTb w3 rfl args) (zTb_at hTb w4 rfl args) hKn hrep.1 (zws_D hrep.2.2.2) hS q0 q1 0 0 hws0 hws1 rfl rfl rfl g1 g2 g3 g4 g5 (fun _ _ => rfl) (Nat.succ_le_succ (Nat.zero_le d)) h8 hd (fun H1 locs1 hP1 _ hS1 => ?_)
          refine hC _ _ _ _ _ _ ht hcs hss p e s m args below meth c hctx H1 locs1 ls hlv ?_ hS1
          have hP2 : va_P Γ.1 classes ((zws Γ h).set q1 (Γ.2.2.1 + q1, zcell Γ (zcp h q0 q1 sp.toNatClampNeg dp.toNatClampNeg n.toNatClampNeg) q1 (1, n1))) H1 := by
            have e9 : zcell Γ (zcp h q0 q1 sp.toNatClampNeg dp.toNatClampNeg n.toNatClampNeg) q1 (1, n1) = .inl (Γ.2.1 1, n1, .inl (va_cpy (h.2.1 q0) (h.2.1 q1) sp.toNatClampNeg dp.toNatClampNeg n.toNatClampNeg)) := by
              show (Sum.inl (Γ.2.1 1, n1, Sum.inl (zur h.2.1 q1 _ q1)) : va_E) = _
              rw [zur_at]
            rw [e9]
            exact hP1
          rw [zws_set (h' := zcp h q0 q1 sp.toNatClampNeg dp.toNatClampNeg n.toNatClampNeg) hsh1 rfl (fun a t ha _ => zcell_eq (zur_row ha) rfl rfl)] at hP2
          refine ⟨hP2, ?_, (fun h9 => by rw [h9] at hal; cases hal), hrep.2.2.2⟩
          exact zrep_le hrep.1 hP2 hsh1 rfl
        · exact absurd ht hbad
      · exact absurd ht hbad
    · exact absurd ht hbad
  · exact absurd ht hbad
theorem zi_invokespecial {idx : Nat} (hbad : ¬ tr bad) (hC : ∀ cs ss pc lo st h, tr (C cs ss pc lo st h) → zX l Γ al (d + 1) M QF cs ss pc lo st h) (hG : ∀ mi args h K', mi ≠ zGL → tr (G mi args h K') → zSem l Γ al d (zhd mi) args h (fun r h' => tr (K' r h'))) (hd : decode M.2.1 pc = .ok (.invokespecial idx, len)) (hl : zlkB M.1.cls M.1.name pc (.invokespecial idx) len ex = true) (ht : tr (zins bad M al sc G K C cs ss pc lo st h ex (.invokespecial idx))) : zX l Γ al (d + 1) M QF cs ss pc lo st h := by
  intro hcs hss p e s m args below meth c hctx H locs ls hlv hrep hS
  obtain ⟨hx, hb, hml, hr, hown, hlk, hnm, hev⟩ := id hctx
  obtain ⟨hTb, hKn, hbs, ho, hstr, hz1, hz2, hscr, hthr⟩ := id hev
  simp only [zlkB, Bool.and_eq_true, beq_iff_eq] at hl
  obtain ⟨e, hl⟩ := hl
  subst e
  simp only [zins] at ht
  split at ht
  · rename_i mi n pl nest
    split at ht
    · rename_i q rest hdrop
      split at ht
      · rename_i hcond
        obtain ⟨hw8, hlen, hc1, hc2⟩ := hcond
        simp only [Bool.and_eq_true, beq_iff_eq] at hl
        obtain ⟨⟨k1, k2⟩, k3⟩ := hl
        have hk9 : (zmp mi).1 ≠ 9 := by omega
        obtain ⟨hcode, hB⟩ := zmo_ok mi hk9
        obtain ⟨b1, b2, b3, b4, b5, b6⟩ := zcwB_ok hB hk9
        have b7 : zwat (zmp mi).2.2.2.2.1 = some (.instanceMethod (zhd mi).1) ∧ (zhd mi).1.name = "<init>" := by
          rcases b6 with ⟨a1, -⟩ | ⟨a1, -⟩ | ⟨-, a2, a3⟩
          · have a1 : (zmp mi).1 = 0 := a1
            omega
          · have a1 : (zmp mi).1 = 1 := a1
            omega
          · exact ⟨a2, a3⟩
        have hcvb : zcv Γ (.ref q) = .ref (Γ.2.2.1 + q) := rfl
        have hM := hG _ _ _ _ (zneGL hk9) ht
        by_cases hrt : (zhd mi).2.2.2.1 = none
        · have hM2 : Met l (zhd mi).1 [.code (zhd mi).1 (zhd mi).2.1 (zhd mi).2.2.1 none] (zrm d (zmc mi) (zms mi)) (zPc Γ al (.ref q :: (st.take n).reverse) h) (zQ Γ al (fun r h' => tr (C (cs + zmc mi) (ss + zms mi) (pc + 3) lo (r.toList ++ rest) h'))) (zmc mi) (zms mi) (zA Γ) := by
            have hM3 := hM
            unfold zSem at hM3
            rw [hrt] at hM3
            exact hM3
          have hpre : PreS s H (zPc Γ al (.ref q :: (st.take n).reverse) h) (.ref (Γ.2.2.1 + q) :: ((st.take n).reverse).map (zcv Γ)) := ⟨zPc_blind, fun U hU hW => by
            have := zpre (As := .ref q :: (st.take n).reverse) hev hrep hS U hU hW
            rw [List.map_cons, hcvb] at this
            exact this⟩
          have hwd := zwords_ok (mi := mi) hev hk9
          have hcd := zTb_at hTb hcode rfl args
          rw [hrt] at hwd hcd
          have hrun : va_Run p l e (zrm (d + 1) M.2.2.2.2.1 M.2.2.2.2.2) s m args below meth c H locs cs ss (zmc mi) (zms mi) (F0 m pc ls (st.map (zcv Γ))) (rest.map (zcv Γ)) (zQ Γ al (fun r h' => tr (C (cs + zmc mi) (ss + zms mi) (pc + 3) lo (r.toList ++ rest) h')) (Value.ref (Γ.2.2.1 + q) :: ((st.take n).reverse).map (zcv Γ)).toArray) (zA Γ) := by
            have hstk : (F0 m pc ls (st.map (zcv Γ))).stack = (((st.take n).reverse).map (zcv Γ)).reverse ++ .ref (Γ.2.2.1 + q) :: rest.map (zcv Γ) := by
              show st.map (zcv Γ) = _
              rw [zst_eq (Γ := Γ) hdrop, List.map_cons, hcvb]
            have hla : (((st.take n).reverse).map (zcv Γ)).length = n := by simpa using hlen
            have h8 : 2 * (F0 m pc ls (st.map (zcv Γ))).monitorRoom + ((rest.map (zcv Γ)).map fun v => v.category).sum ≤ 8 := lv_room (by rw [zwd_map ho]; exact hw8)
            rcases zml_ok k3 with ⟨-, hlk1⟩ | ⟨-, hlk1⟩
            · exact va_runI (Ts := []) (own := M.1.cls) ⟨hx, hb, hml, hown, fun w h => by cases h⟩ hM2 ⟨⟨rfl, rfl, Nat.le_refl _, by show 8 + ((zhd mi).2.2.1 + 11) + (38 * d + 8) ≤ 38 * (d + 1) + 8; have : (zhd mi).2.2.1 ≤ 19 := b2; omega, hwd, List.mem_singleton.mpr rfl, hcd, zTb_at hTb b1 rfl args, b4, znp (by rw [← k2]; exact b3), zTb_at hTb hlk1 rfl args⟩, b7.2, zTb_at hTb b7.1 rfl args⟩ hpre rfl hla hlv.1 hstk h8 hd ⟨hc1, hc2⟩
            · exact va_runIN (Ts := []) (own := M.1.cls) ⟨hx, hb, hml, hown, fun w h => by cases h⟩ hM2 ⟨⟨⟨rfl, rfl, Nat.le_refl _, by show 8 + ((zhd mi).2.2.1 + 11) + (38 * d + 8) ≤ 38 * (d + 1) + 8; have : (zhd mi).2.2.1 ≤ 19 := b2; omega, hwd, List.mem_singleton.mpr rfl⟩, hcd, zTb_at hTb b1 rfl args, b4, znp (by rw [← k2]; exact b3), zTb_at hTb hlk1 rfl args⟩, b7.2, zTb_at hTb b7.1 rfl args⟩ hpre rfl hla hlv.1 hstk h8 hd ⟨hc1, hc2⟩
          refine zcall hrun hS fun r h' H1 locs1 hk hrep1 hS1 => ?_
          rw [zret_eq]
          exact hC _ _ _ _ _ _ hk hc1 hc2 p e s m args below meth c hctx H1 locs1 ls hlv hrep1 hS1
        · exact absurd (zinit_ret mi b7.2) hrt
      · exact absurd ht hbad
    · exact absurd ht hbad
  · rename_i pl pi pc'
    split at ht
    · rename_i q rest
      split at ht
      · rename_i hw8
        simp only [Bool.and_eq_true, decide_eq_true_eq] at hl
        obtain ⟨⟨w1, w2⟩, w3⟩ := hl
        refine W.objInit hx hb hown (zTb_at hTb w1 rfl args) (zTb_at hTb w2 rfl args) (zTb_at hTb w3 rfl args) rfl (by rw [hml]; exact hlv.1) rfl hd (Nat.succ_le_succ (Nat.zero_le d)) ?_ (hC _ _ _ _ _ _ ht hcs hss p e s m args below meth c hctx H locs ls hlv hrep hS)
        show 2 * 0 + ((rest.map (zcv Γ)).map fun v => v.category).sum + 12 ≤ 38 * (d + 1) + 8
        rw [zwd_map ho]; omega
      · exact absurd ht hbad
    · exact absurd ht hbad
  · exact absurd ht hbad
end ZI
