/-! Fields and arrays. -/
section ZP
variable {p : Program} {l : Launch} {e : Env} {R : Room} {s : State} {m : MethodId} {args : Array Value} {below : List Frame} {meth : Method} {c : Code} {H : Heap} {locs : List Loc} {cells slots : Nat} {Q : State → Prop}
variable {cc : ByteArray} {pc : Nat} {ls : Array Slot} {rest : List Value} {D : va_G} {cl : List vw_C} {A : Nat → Prop} {a : Nat} {tys : List (ClassId × FieldType)} {ws : va_W} {H0 : Heap}
/-- a store to a field, as the kit's va_put, va_putF, va_putN, with the heap's size -/
theorem zput (hexec : p.tables.exec = Jvm.exec) (hb : c.code = cc) {own host : String} {r : vw_C} {ci index nest : Nat} (hts : ∀ w ∈ u_ws r.1 r.2.1 r.2.2, w.before args s = true) (ty0 : Nat → FieldType) (hty : ∀ k, k < r.2.2 → parseFieldDescriptor (r.2.1 k).2.2.1 = some (ty0 k)) (hnm : ∀ a, a < r.2.2 → ∀ b, b < r.2.2 → a ≠ b → (r.2.1 a).2.1 ≠ (r.2.1 b).2.1) (hown : s.vm.findClass own = some m.cls) (hK : va_K D cl tys s) (hP : va_P D cl ws H) (hD : va_D A ws) (hS0 : va_S A H0 H locs) (q0 : Nat) {fs : List Value} (he : ws[q0]? = some (a, .inr (ci, fs))) (hc : cl[ci]? = some r) (k : Nat) (hk : k < r.2.2)
    (hdecl : (r.2.1 k).1 = r.1) (hlink : (nest = 0 ∧ (Cond.fieldLink own index r.1 (r.2.1 k).2.1 (r.2.1 k).2.2.1).before args s = true) ∨ (nest ≠ 0 ∧ (Cond.fieldLinkNest own index r.1 (r.2.1 k).2.1 (r.2.1 k).2.2.1 host).before args s = true))
    (hfin : (r.2.1 k).2.2.2 = false ∨ (own = r.1 ∧ meth.name = "<init>" ∧ nest = 0)) {v : Value} (hn : narrow (ty0 k) v = v) (hfit : fits (ty0 k) v = true) (hl : k < fs.length)
    (hdg : decode cc pc = .ok (.putfield index, 3)) (kk : ∀ (H1 : Heap) (locs1 : List Loc), H1.size = H.size → va_P D cl (ws.set q0 (a, .inr (ci, fs.set k v))) H1 → va_S A H0 H1 locs1 → W p l e R s m args below meth c H1 locs1 cells slots Q (F0 m (pc + 3) ls rest)) : W p l e R s m args below meth c H locs cells slots Q (F0 m pc ls (v :: .ref a :: rest)) := by
  obtain ⟨C, T, N⟩ := r
  have hin : ∀ w ∈ u_ws C T N, w ∈ u_ws C T N := fun _ h => h
  have hap := va_apart (own := own) hts hin ty0 hty hnm hK hc
  obtain ⟨r, h1, cell, q1, q2, q3, q4⟩ := hP q0 _ he
  have hr : r = (C, T, N) := Option.some.inj (h1.symm.trans hc)
  subst hr
  obtain ⟨hS, hfc, kC, hkC, hkind⟩ := hK.1 ci _ hc
  obtain ⟨cf, kf, fi, f, hi, hsl⟩ := hS k hk
  have hlay := hts _ (hin _ (u_in_lay hk))
  have hst := (u_facts hfc hkC (u_lays hts hin hk) hi).1
  have hd := hty k hk
  have hdecl' : (T k).1 = C := hdecl
  have hi' : s.fieldFound? (T k).1 (T k).2.1 (T k).2.2.1 = some (cf, kf, fi, f) := hi
  have hi2 : s.fieldFound? C (T k).2.1 (T k).2.2.1 = some (cf, kf, fi, f) := by rw [hdecl'] at hi'; exact hi'
  have fin : ∀ (H' : Heap), H'[a]? = some (cell.setSlot (D.2 ci k) v) → H'.size = H.size → (∀ q, q ≠ a → H'[q]? = H[q]?) → W p l e R s m args below meth c H' (locs ++ [⟨a, D.2 ci k⟩]) cells slots Q (F0 m (pc + 3) ls rest) := by
    intro H' e1 e2 e3
    exact kk H' _ e2 (hP.set hD he ⟨_, hc, t_OB.to (V := updV (vp_V fs) k v) ⟨_, e1, q2, q3, t_set q4 hap hk v⟩ (fun j _ => vp_updV_set hl v j)⟩ e3) (hS0.put e2 e3 (hD.2 q0 _ he))
  by_cases hf : (T k).2.2.2 = false
  · unfold u_lay at hlay
    rw [if_neg (by rw [hf]; decide)] at hlay
    have h6 := u_store hfc hkC hkind hlay hi hd hn hfit
    rcases hlink with ⟨-, hlink⟩ | ⟨-, hlink⟩
    · refine W.putK hexec hb (f := f) ⟨hown, hlink, ⟨_, _, _, hi2⟩, hst⟩ (by rw [q2]; exact h6) q1 q3 (by rw [hsl]; exact k2_hasslot (q4 k hk)) rfl rfl hdg fun H' e1 e2 e3 => ?_
      rw [hsl] at e1 ⊢
      exact fin H' e1 e2 e3
    · refine va_WputK hexec hb (f := f) hown hlink hi2 hst (by rw [q2]; exact h6) q1 q3 (by rw [hsl]; exact k2_hasslot (q4 k hk)) rfl rfl hdg fun H' e1 e2 e3 => ?_
      rw [hsl] at e1 ⊢
      exact fin H' e1 e2 e3
  · rcases hfin with hfin | ⟨hdc, hin2, hnz⟩
    · exact absurd hfin hf
    · have hft : (T k).2.2.2 = true := by cases hx : (T k).2.2.2 with
        | true => rfl
        | false => exact absurd hx hf
      unfold u_lay at hlay
      rw [if_pos hft] at hlay
      have hcf : m.cls = cf := by
        obtain ⟨_, _, c', _, _, _, -, -, hf', -, -, -, hown2, -⟩ := Cond.laysFinal_spec hlay
        have e1 : c' = cf := by have := hi.symm.trans hf'; simp at this; exact this.1.symm
        rw [show (T k).1 = own from hdecl.trans hdc.symm] at hown2
        rw [← e1]; exact Option.some.inj (hown.symm.trans hown2)
      have h6 := u_fits hfc hkC hkind (Or.inr hlay) hi hd hn hfit
      rcases hlink with ⟨-, hlink⟩ | ⟨hnn, -⟩
      · refine W.putFinK hexec hb hown hlink hi2 hst hcf hin2 (by rw [q2]; exact h6) q1 q3 (by rw [hsl]; exact k2_hasslot (q4 k hk)) rfl rfl hdg fun H' e1 e2 e3 => ?_
        rw [hsl] at e1 ⊢
        exact fin H' e1 e2 e3
      · exact absurd hnz hnn
/-- a store to an array -/
theorem zarr {e1 : va_E} {f : Nat → Value} {n : Nat} {cA : ClassId} {H1 : Heap} {j : Nat} {x : Value} (hP : va_P D cl ws H) (hD : va_D A ws) (q0 : Nat) {e0 : va_E} (ha : ws[q0]? = some (a, e0)) (hS : va_S A H0 H locs) (e : H1[a]? = some ((arrV cA n f).setSlot j x)) (z : H1.size = H.size) (oq : ∀ q, q ≠ a → H1[q]? = H[q]?)
    (hat : H1[a]? = some (arrV cA n (updV f j x)) → va_at D cl (a, e1) H1) : va_P D cl (ws.set q0 (a, e1)) H1 ∧ va_S A H0 H1 (locs ++ [⟨a, j⟩]) := by
  refine ⟨hP.set hD ha (hat ?_) oq, hS.put z oq (hD.2 q0 _ ha)⟩
  rw [e, arrV_store]
end ZP
theorem zgetf_ok {ρ : Type} {bad : ρ} {tr : ρ → Prop} (hbad : ¬ tr bad) {Γ : zG} {h : zH} {ci k q : Nat} {F : Value → ρ} (ht : tr (zgetf bad h ci k q F)) : h.1[q]? = some (0, ci) ∧ ∃ v, zcv Γ v = zfv Γ h ci q k ∧ tr (F v) := by
  unfold zgetf at ht
  split at ht
  · rename_i c' hq
    split at ht
    · rename_i e
      subst e
      refine ⟨hq, ?_⟩
      split at ht
      · exact ⟨_, by unfold zfv; split <;> simp_all [zcv], ht⟩
      · split at ht
        · exact ⟨_, by unfold zfv; split <;> simp_all [zcv], ht⟩
        · exact ⟨_, by unfold zfv; split <;> simp_all, ht⟩
      · exact ⟨_, by unfold zfv; split <;> simp_all [zcv], ht⟩
    · exact absurd ht hbad
  · exact absurd ht hbad
theorem zfv_row {Γ : zG} {h h' : zH} {ci q : Nat} (e1 : h'.2.1 q = h.2.1 q) (e2 : h'.2.2.1 q = h.2.2.1 q) (e3 : h'.2.2.2 q = h.2.2.2 q) (j : Nat) : zfv Γ h' ci q j = zfv Γ h ci q j := by simp only [zfv, e1, e2, e3]
theorem zputf_ok {ρ : Type} {bad : ρ} {tr : ρ → Prop} (hbad : ¬ tr bad) {Γ : zG} (ho : ∀ j, Γ.2.2.2.1 j = .null ∨ ∃ a, Γ.2.2.2.1 j = .ref a) {h : zH} {ci k q : Nat} {v : Value} {F : zH → ρ} (ht : tr (zputf bad h ci k q v F)) : h.1[q]? = some (0, ci) ∧ (∀ ty, zkof ty = zkind ci k → narrow ty (zcv Γ v) = zcv Γ v ∧ fits ty (zcv Γ v) = true) ∧
    ∃ h' : zH, tr (F h') ∧ h'.1 = h.1 ∧ (∀ a, a ≠ q → h'.2.1 a = h.2.1 a ∧ h'.2.2.1 a = h.2.2.1 a ∧ h'.2.2.2 a = h.2.2.2 a) ∧ ∀ j, zfv Γ h' ci q j = if j = k then zcv Γ v else zfv Γ h ci q j := by
  unfold zputf at ht
  split at ht
  · rename_i c' hq
    split at ht
    · rename_i e
      subst e
      refine ⟨hq, ?_⟩
      split at ht
      · rename_i x hk
        refine ⟨fun ty hty => ?_, zsI h q k x, ht, rfl, fun a ha => ⟨zu2_row ha, rfl, rfl⟩, fun j => ?_⟩
        · rw [hk] at hty; cases ty <;> simp [zkof] at hty; exact ⟨rfl, rfl⟩
        · by_cases hj : j = k
          · subst hj; simp [zfv, hk, zsI, zu2, zcv]
          · simp [zfv, zsI, zu2, hj]
      · rename_i x hk
        refine ⟨fun ty hty => ?_, zsL h q k x, ht, rfl, fun a ha => ⟨rfl, zu2_row ha, rfl⟩, fun j => ?_⟩
        · rw [hk] at hty; cases ty <;> simp [zkof] at hty; exact ⟨rfl, rfl⟩
        · by_cases hj : j = k
          · subst hj; simp [zfv, hk, zsL, zu2, zcv]
          · simp [zfv, zsL, zu2, hj]
      · rename_i hk
        refine ⟨fun ty hty => ?_, zsP h q k none, ht, rfl, fun a ha => ⟨rfl, rfl, zu2_row ha⟩, fun j => ?_⟩
        · rw [hk] at hty; cases ty <;> simp [zkof] at hty <;> exact ⟨rfl, rfl⟩
        · by_cases hj : j = k
          · subst hj; simp [zfv, hk, zsP, zu2, zcv]
          · simp [zfv, zsP, zu2, hj]
      · rename_i r hk
        refine ⟨fun ty hty => ?_, zsP h q k (some r), ht, rfl, fun a ha => ⟨rfl, rfl, zu2_row ha⟩, fun j => ?_⟩
        · rw [hk] at hty; cases ty <;> simp [zkof] at hty <;> exact ⟨rfl, rfl⟩
        · by_cases hj : j = k
          · subst hj; simp [zfv, hk, zsP, zu2]
          · simp [zfv, zsP, zu2, hj]
      · rename_i x hk
        split at ht
        · rename_i hx
          refine ⟨fun ty hty => ?_, zsI h q k x, ht, rfl, fun a ha => ⟨zu2_row ha, rfl, rfl⟩, fun j => ?_⟩
          · rw [hk] at hty; cases ty <;> simp [zkof] at hty
            rcases hx with rfl | rfl <;> exact ⟨rfl, rfl⟩
          · by_cases hj : j = k
            · subst hj; simp [zfv, hk, zsI, zu2, zcv]
            · simp [zfv, zsI, zu2, hj]
        · exact absurd ht hbad
      · exact absurd ht hbad
    · exact absurd ht hbad
  · exact absurd ht hbad
theorem zcell_o {Γ : zG} {h : zH} {q ci : Nat} : zcell Γ h q (0, ci) = .inr (ci, (List.range (zNF ci)).map (zfv Γ h ci q)) := rfl
/-- one object's cell changes -/
theorem zrep_put {Γ : zG} {al : Bool} {h h' : zH} {H H1 : Heap} {q ci k : Nat} {v : Value} (hrep : zRep Γ al h H) (hq : h.1[q]? = some (0, ci)) (hs : h'.1 = h.1) (hoth : ∀ a, a ≠ q → h'.2.1 a = h.2.1 a ∧ h'.2.2.1 a = h.2.2.1 a ∧ h'.2.2.2 a = h.2.2.2 a) (hf : ∀ j, zfv Γ h' ci q j = if j = k then v else zfv Γ h ci q j)
    (z : H1.size = H.size) (hP : va_P Γ.1 classes ((zws Γ h).set q (Γ.2.2.1 + q, .inr (ci, ((List.range (zNF ci)).map (zfv Γ h ci q)).set k v))) H1) : zRep Γ al h' H1 := by
  have e1 : ((List.range (zNF ci)).map (zfv Γ h ci q)).set k v = (List.range (zNF ci)).map (zfv Γ h' ci q) := by
    apply List.ext_getElem?
    intro j
    by_cases hj : j = k
    · subst hj
      by_cases hl : j < zNF ci
      · rw [List.getElem?_set_self (by simpa using hl)]
        simp [hl, hf]
      · rw [List.getElem?_eq_none (by simpa using hl), List.getElem?_eq_none (by simpa using hl)]
    · rw [List.getElem?_set_ne (Ne.symm hj)]
      by_cases hl : j < zNF ci
      · simp [hl, hf, hj]
      · rw [List.getElem?_eq_none (by simpa using hl), List.getElem?_eq_none (by simpa using hl)]
  rw [e1, ← zcell_o, zws_set hq hs (fun a t ha _ => zcell_eq (hoth a ha).1 (hoth a ha).2.1 (hoth a ha).2.2)] at hP
  exact ⟨hP, by rw [hs, z]; exact hrep.2.1, fun ha => by rw [hs, z]; exact hrep.2.2.1 ha, by rw [hs]; exact hrep.2.2.2⟩
theorem zfl_ok {own : String} {idx ci k p nest : Nat} (h : zfl own idx ci k p nest = true) : ∃ r : vw_C, classes[ci]? = some r ∧ k < r.2.2 ∧ (r.2.1 k).1 = r.1 ∧ ((nest = 0 ∧ zwat p = some (.fieldLink own idx r.1 (r.2.1 k).2.1 (r.2.1 k).2.2.1)) ∨ (nest ≠ 0 ∧ zwat p = some (.fieldLinkNest own idx r.1 (r.2.1 k).2.1 (r.2.1 k).2.2.1 "SandHours"))) := by
  unfold zfl at h
  split at h
  · rename_i r hr
    simp only [Bool.and_eq_true, decide_eq_true_eq] at h
    obtain ⟨⟨h1, h2⟩, h3⟩ := h
    refine ⟨r, hr, h1, h2, ?_⟩
    split at h3
    · rename_i e
      exact Or.inl ⟨e, by simpa using h3⟩
    · rename_i e
      exact Or.inr ⟨e, by simpa using h3⟩
  · cases h
theorem zTb_at {U : State} (hT : zTb U) {p : Nat} {w : Cond} (h : zwat p = some w) (hk : zokw w = true) (A : Array Value) : w.before A U = true := hT w (zwat_mem h) hk A
theorem zTb_u {U : State} (hT : zTb U) {ci : Nat} {r : vw_C} (hc : classes[ci]? = some r) (A : Array Value) : ∀ w ∈ u_ws r.1 r.2.1 r.2.2, w.before A U = true := fun w hw => hT w (zu_in hc w hw).1 (zu_in hc w hw).2 A
/-- one array's cell changes -/
theorem zrep_ast {Γ : zG} {al : Bool} {h h' : zH} {H H1 : Heap} {q : Nat} {sh : zSh} (hrep : zRep Γ al h H) (hq : h.1[q]? = some sh) (hs : h'.1 = h.1) (hoth : ∀ a, a ≠ q → h'.2.1 a = h.2.1 a ∧ h'.2.2.1 a = h.2.2.1 a ∧ h'.2.2.2 a = h.2.2.2 a)
    (z : H1.size = H.size) (hP : va_P Γ.1 classes ((zws Γ h).set q (Γ.2.2.1 + q, zcell Γ h' q sh)) H1) : zRep Γ al h' H1 := by
  rw [zws_set hq hs (fun a t ha _ => zcell_eq (hoth a ha).1 (hoth a ha).2.1 (hoth a ha).2.2)] at hP
  exact ⟨hP, by rw [hs, z]; exact hrep.2.1, fun ha => by rw [hs, z]; exact hrep.2.2.1 ha, by rw [hs]; exact hrep.2.2.2⟩
theorem zu2_upd {f : Nat → Nat → Int32} {q k : Nat} {v : Int32} : zu2 f q k v q = upd (f q) k v := by
  funext b
  by_cases hb : b = k <;> simp [zu2, upd, hb]
theorem zu2_updL {f : Nat → Nat → Int64} {q k : Nat} {v : Int64} : zu2 f q k v q = vp_updL (f q) k v := by
  funext b
  by_cases hb : b = k <;> simp [zu2, vp_updL, hb]
theorem zupdV_i {f : Nat → Int32} {k : Nat} {v : Int32} : updV (fun j => .int (f j)) k (.int v) = fun j => .int (upd f k v j) := by
  funext j
  by_cases hj : j = k <;> simp [updV, upd, hj]
theorem zupdV_l {f : Nat → Int64} {k : Nat} {v : Int64} : updV (fun j => .long (f j)) k (.long v) = fun j => .long (vp_updL f k v j) := by
  funext j
  by_cases hj : j = k <;> simp [updV, vp_updL, hj]
/-- a new cell -/
theorem zrep_new {Γ : zG} {h : zH} {H H1 : Heap} {sh : zSh} (hrep : zRep Γ true h H) (z : H1.size = H.size + 1) (oq : ∀ q, q < H.size → H1[q]? = H[q]?) (hat : va_at Γ.1 classes (Γ.2.2.1 + h.1.length, zcell Γ (znew h sh) h.1.length sh) H1) : zRep Γ true (znew h sh) H1 := by
  have hsz := (hrep.2.2.1 rfl).1
  have hnZ := (hrep.2.2.1 rfl).2
  refine ⟨fun k x hx => ?_, ?_, fun _ => ⟨?_, hnZ⟩, fun q _ => hnZ _⟩
  · have hlen : (znew h sh).1 = h.1 ++ [sh] := rfl
    simp only [zws, List.getElem?_mapIdx] at hx
    cases hs : (znew h sh).1[k]? with
    | none => rw [hs] at hx; cases hx
    | some t =>
      rw [hs] at hx
      cases hx
      rw [hlen] at hs
      by_cases hk : k < h.1.length
      · rw [List.getElem?_append_left hk] at hs
        have hne : k ≠ h.1.length := by omega
        show va_at Γ.1 classes (Γ.2.2.1 + k, zcell Γ (znew h sh) k t) H1
        rw [zcell_eq (h' := znew h sh) (h := h) (zur_row hne) (zur_row hne) (zur_row hne)]
        exact (hrep.1 k _ (zws_at hs)).kept (oq _ (by show Γ.2.2.1 + k < H.size; omega))
      · have h2 := (List.getElem?_eq_some_iff.mp hs).1
        simp only [List.length_append, List.length_singleton] at h2
        have e : k = h.1.length := by omega
        subst e
        rw [List.getElem?_append_right (Nat.le_refl _), Nat.sub_self] at hs
        cases hs
        exact hat
  · show Γ.2.2.1 + (h.1 ++ [sh]).length ≤ H1.size
    rw [List.length_append, List.length_singleton]; omega
  · show H1.size = Γ.2.2.1 + (h.1 ++ [sh]).length
    rw [List.length_append, List.length_singleton]; omega
theorem zS_new {A : Nat → Prop} {H0 H H1 : Heap} {locs : List Loc} (hS : va_S A H0 H locs) (z : H1.size = H.size + 1) (oq : ∀ q, q < H.size → H1[q]? = H[q]?) : va_S A H0 H1 locs :=
  ⟨by rw [z]; exact Nat.le_succ_of_le hS.1, fun q h1 h2 => (oq q (Nat.lt_of_lt_of_le h1 hS.1)).trans (hS.2.1 q h1 h2), hS.2.2⟩
