/-! go, undo, keep, back in the class -/
def MGo (t : Nat) : sM := MC t 0 ++ [(61, 0, 5), (86, 4, 5)]
theorem MGo_s : ((List.range 2).all fun t => ssubB (MC t 0) (MGo t) && (ssubB (kdO1_m t) (MGo t) && (ssubB [(86, 4, 5)] (MGo t) && (ctb (MGo t) && (!smem (MGo t) 0 9 && (MGo t).all (fun x => decide (x.1 < 49) || decide (55 ≤ x.1))))))) = true := by decide
theorem MC_u : ((List.range 2).all fun t => (MC t 0).all (fun x => decide (x.1 < 49))) = true := by decide
theorem zv_kdg1 : zcvB 98 47 8 1 99 = true := by decide +kernel
theorem zv_kdg2 : zcvB 98 59 8 2 100 = true := by decide +kernel
theorem smem_out {md : sM} {q j a b : Nat} (hb : md.all (fun x => decide (x.1 < a) || decide (b ≤ x.1)) = true) (h1 : a ≤ q) (h2 : q < b) : smem md q j = false := by
  cases hc : smem md q j with
  | false => rfl
  | true =>
    obtain ⟨x, hx, h3⟩ := List.any_eq_true.mp hc
    have h4 := List.all_eq_true.mp hb x hx
    simp only [Bool.and_eq_true, Bool.or_eq_true, beq_iff_eq, decide_eq_true_eq] at h3 h4
    omega
theorem mnK_m {N : zN} {S : zS} {o : Nat → Int} : ∀ (k : Nat) {s : zSt}, mnK N S o k s 6 0 = s 6 0 + (k : Int)
  | 0, s => by
    show s 6 0 = s 6 0 + ((0 : Nat) : Int)
    omega
  | k + 1, s => by
    show mnK N S o k (mnt N S o s) 6 0 = _
    rw [mnK_m k, mnt_m]
    omega
theorem fcGo {l : Launch} {Γ : zG} {t : Nat} (ht : t < 2) {N : zN} {S : zS} {n : Int} {X : zSx} {h : zH} (hT : TB N S) (hX : XB S n X) (hn : n ≤ 1999000000) (hi : sInv swC h) (C : SC t N S X h) (x : Int32) : zSem l Γ false 10 (zhd 98) [.ref 0, .int x] h (fun r h' => (∃ a : Int32, r = some (.int a) ∧ a.toInt = goQ X x.toInt) ∧ sInv swC h' ∧ sMd (MGo t) h h' ∧ SC t N S (goX N S X x.toInt) h') := by
  have b1 := hT.1.2.1
  have ss := zall_r MGo_s ht
  simp only [Bool.and_eq_true, Bool.not_eq_true'] at ss
  obtain ⟨s1, s2, s3, s4, s5, s6⟩ := ss
  have mb := hX.1.1.2.2.1
  have c60 := C.2.1.2.2.1.1
  have u4 := C.2.2.2.1
  have hI : ∀ q, 49 ≤ q → q ≤ 54 → ∀ j, smem (MGo t) q j = false := fun q a b j => smem_out s6 a (by omega)
  have no : ∀ (h' : zH) (r : Int32), sInv swC h' → sMd [(86, 4, 5)] h h' → pI h' 86 4 = (X.2.2.1 : Int) → r.toInt = -1 → ¬ ((0 ≤ x.toInt ∧ x.toInt ≤ 200) ∧ X.1 6 0 + x.toInt ≤ 9000) → (∃ a : Int32, (some (.int r) : Option Value) = some (.int a) ∧ a.toInt = goQ X x.toInt) ∧ sInv swC h' ∧ sMd (MGo t) h h' ∧ SC t N S (goX N S X x.toInt) h' := fun h' r i1 m1 k4 hr c => by
    have e : goX N S X x.toInt = X := if_neg c
    have e2 : goQ X x.toInt = -1 := if_neg c
    have M := m1.sub s3
    rw [e, e2]
    refine ⟨⟨r, rfl, hr⟩, i1, M, C.of ht M s4 s5 hI rfl (C.2.1.md m1 (fun q a b j => smemc (by omega) smem0)) ⟨k4, fun k hk => ?_⟩⟩
    rw [pI_md m1 (smemc (by omega) smem0), pI_md m1 (smemc (by omega) smem0), pI_md m1 (smemc (by omega) smem0), pI_md m1 (smemc (by omega) smem0)]
    exact C.2.2.2.2 k hk
  have go : ∀ (lo1 : zL) (h1 : zH), sInv swC h1 → sMd [(86, 4, 5)] h h1 → 0 ≤ x.toInt → x.toInt ≤ 200 → X.1 6 0 + x.toInt ≤ 9000 → pI h1 86 4 = (if 1 ≤ x.toInt then 0 else (X.2.2.1 : Int)) → zget lo1 0 = some (.ref 0) → zI lo1 1 x.toInt → zX l Γ false 10 (zhd 98) (zMQ' Γ false (zhd 98) (fun r h' => (∃ a : Int32, r = some (.int a) ∧ a.toInt = goQ X x.toInt) ∧ sInv swC h' ∧ sMd (MGo t) h h' ∧ SC t N S (goX N S X x.toInt) h')) 0 0 47 lo1 [.ref (17 * t + 9), .ref 61] h1 := fun lo1 h1 i1 m1 x0 x1 x2 k4 l0 l1 => by
    obtain ⟨k, hk⟩ : ∃ k : Nat, x.toInt = (k : Int) := ⟨x.toInt.toNat, by omega⟩
    have ek : x.toInt.toNat = k := by omega
    refine zcallR (mi := 98) (as := [.ref (17 * t + 9)]) (rest := []) (q0 := 61) zv_kdg1 rfl (by decide) (shK i1) ?_
    refine kdO1 (d := 8) (by omega) ht i1 (fun h2 i2 m2 t0 k1 k24 k23 k22 => ?_)
    have O2 : OC t oGo h2 := ⟨t0, k1, k22, fun e => absurd e (by decide), k24, fun e => absurd rfl e⟩
    have T2 : CTl t N S h2 := (C.1.md ht m1 rfl).md ht m2 (by unfold kdO1_m; rfl)
    have C2 : CS 43 X.1 h2 := (C.2.1.md m1 (fun q a b j => smemc (by omega) smem0)).md m2 (fun q a b j => smemc (by omega) (smemc (by omega) (smemc (by omega) (smemc (by omega) (smemc (by omega) smem0)))))
    refine kdG1 (d := 9) (by omega) (x := x.toInt) i2 ⟨by omega, by omega⟩ l0 l1 (fun lo3 h3 y0 i3 m3 z0 hy => ?_)
    have I3 : CI t 0 N S oGo X.1 h3 h3 := ⟨i3, sMd.rf, ⟨T2.md ht m3 rfl, by
      obtain ⟨a0, a1, a2, a3, a4, a5⟩ := O2
      exact ⟨((m3 61 0 rfl).2.1).trans a0, (pI_md m3 rfl).trans a1, (pI_md m3 rfl).trans a2, fun e => (pI_md m3 rfl).trans (a3 e), (pI_md m3 rfl).trans a4, fun e => (pI_md m3 rfl).trans (a5 e)⟩⟩, C2.md m3 (fun _ _ _ _ => rfl)⟩
    refine zcallR (mi := 98) (as := [.int y0, .ref 43]) (rest := []) (q0 := 61) zv_kdg2 rfl (by decide) (shK i3) ?_
    refine (zPassC (d := 4) ht (by decide) hT oGo_b (m := k) (by omega) hX.1.1 (by omega) I3 (hy.trans hk)).mono (fun v h4 hv => ?_)
    obtain ⟨rfl, I4⟩ := hv
    have C4 : CS 43 (mnK N S oGo k X.1) h4 := I4.2.2.2
    refine kdG2 (d := 9) (by omega) (m := (mnK N S oGo k X.1) 6 0) I4.1 (i32e C4.2.2.1.1) z0 C4.2.2.1.1 (fun h5 r i5 m5 hr => ?_)
    have M : sMd (MGo t) h h5 := ((((m1.sub s3).seq (m2.sub s2)).seq (m3.sub rfl)).seq (I4.2.1.sub s1)).seq (m5.sub rfl)
    have eX : goX N S X x.toInt = (mnK N S oGo k X.1, X.2.1, (if 1 ≤ x.toInt then 0 else X.2.2.1), X.2.2.2) := by
      unfold goX
      rw [if_pos ⟨⟨x0, x1⟩, x2⟩, ek]
    have eQ : goQ X x.toInt = X.1 6 0 + x.toInt := if_pos ⟨⟨x0, x1⟩, x2⟩
    refine ⟨⟨r, rfl, ?_⟩, i5, M, C.of ht M s4 s5 hI (by rw [eX]) (by rw [eX]; exact C4.md m5 (fun _ _ _ _ => rfl)) ?_⟩
    · rw [hr, eQ, mnK_m, hk]
    · rw [eX]
      have f : ∀ q, 86 ≤ q → q ≤ 90 → ∀ j, pI h5 q j = pI h1 q j := fun q a b j => by
        rw [pI_md m5 rfl, pI_md I4.2.1 (smem_out (a := 49) (b := 1000) (by
          have t1 := zall_r MC_u ht
          rw [List.all_eq_true] at t1 ⊢
          intro x hx
          simp only [Bool.or_eq_true]
          exact Or.inl (t1 x hx)) (by omega) (by omega)), pI_md m3 rfl, pI_md m2 (smemc (by omega) (smemc (by omega) (smemc (by omega) (smemc (by omega) (smemc (by omega) smem0)))))]
      refine ⟨?_, fun j hj => ?_⟩
      · rw [f 86 (by decide) (by decide), k4]
        show _ = (((if 1 ≤ x.toInt then 0 else X.2.2.1) : Nat) : Int)
        split <;> rfl
      · have hj : j < (if 1 ≤ x.toInt then 0 else X.2.2.1) := hj
        by_cases e : 1 ≤ x.toInt
        · rw [if_pos e] at hj
          exact absurd hj (Nat.not_lt_zero j)
        · rw [if_neg e] at hj
          have k0 : k = 0 := by omega
          rw [f 87 (by decide) (by decide), f 88 (by decide) (by decide), f 89 (by decide) (by decide), f 90 (by decide) (by decide)]
          have g : ∀ q, 87 ≤ q → q ≤ 90 → pI h1 q j = pI h q j := fun q a b => pI_md m1 (smemc (by omega) smem0)
          rw [g 87 (by decide) (by decide), g 88 (by decide) (by decide), g 89 (by decide) (by decide), g 90 (by decide) (by decide)]
          obtain ⟨a0, a1, a2, a3, a4⟩ := C.2.2.2.2 j hj
          refine ⟨a0, a1, a2, a3, ?_⟩
          rw [k0]
          show unE _ _ _ _ (if j + 1 < (if 1 ≤ x.toInt then 0 else X.2.2.1) then X.2.2.2 (j + 1) else X.1) = X.2.2.2 j
          rw [if_neg e]
          exact a4
  refine kdG0 (d := 9) (by omega) ht (m := X.1 6 0) (nn := (X.2.2.1 : Int)) hi (i32bd x) ⟨by omega, by omega⟩ ⟨by omega, by have := hX.2.2.1; omega⟩ rfl c60 u4 C.1.1.1 (fun lo1 h1 i1 m1 e1 e2 e3 e4 k4 l0 l1 => ?_) (fun lo1 h1 i1 m1 e1 e2 e3 e4 k4 l0 l1 => ?_) (fun h' r i1 m1 e1 k4 hr => no h' r i1 m1 k4 hr (by omega)) (fun h' r i1 m1 e1 e2 e3 k4 hr => no h' r i1 m1 k4 hr (by omega)) (fun h' r i1 m1 e1 e2 k4 hr => no h' r i1 m1 k4 hr (by omega))
  · exact go lo1 h1 i1 m1 (by omega) (by omega) (by omega) (by rw [if_neg (by omega)]; exact k4) l0 l1
  · exact go lo1 h1 i1 m1 (by omega) (by omega) (by omega) (by rw [if_pos (by omega)]; exact k4) l0 l1
theorem zv_kdv : zcvB 171 20 10 1 172 = true := by decide +kernel
theorem fcUndo {l : Launch} {Γ : zG} {t : Nat} (ht : t < 2) {N : zN} {S : zS} {n : Int} {X : zSx} {h : zH} (hX : XB S n X) (hn : n ≤ 1999000000) (hi : sInv swC h) (C : SC t N S X h) : zSem l Γ false 10 (zhd 171) [.ref 0] h (fun r h' => (∃ a : Int32, r = some (.int a) ∧ a.toInt = unN X) ∧ sInv swC h' ∧ sMd MU h h' ∧ SC t N S (unX X) h') := by
  have u4 := C.2.2.2.1
  have MU_b : ctb MU = true ∧ smem MU 0 9 = false := by decide
  have MU_i : ∀ q, 49 ≤ q → q ≤ 54 → ∀ j, smem MU q j = false := fun q a b j => smemc (by omega) (smemc (by omega) (smemc (by omega) (smemc (by omega) (smemc (by omega) smem0))))
  refine kdV0 (d := 9) (by omega) (nn := (X.2.2.1 : Int)) hi ⟨by omega, by have := hX.2.2.1; omega⟩ u4 (fun lo1 h1 i1 m1 e l0 => ?_) (fun h' r i1 m1 e hr => ?_)
  · obtain ⟨k, hk⟩ : ∃ k, X.2.2.1 = k + 1 := ⟨X.2.2.1 - 1, by omega⟩
    have eX : unX X = (X.2.2.2 k, X.2.1, k, X.2.2.2) := by
      unfold unX
      rw [if_neg (by omega), hk]
      rfl
    have eN : unN X = (k : Int) := by
      unfold unN
      rw [if_neg (by omega), hk]
      rfl
    rw [eX, eN]
    refine zcallR (mi := 171) (as := [.ref 43]) (rest := []) (q0 := 86) zv_kdv rfl (by decide) (shU i1) ?_
    refine (zUndoC (d := 7) i1 (C.2.1.md m1 (fun _ _ _ _ => rfl)) (C.2.2.2.md m1 (fun _ _ _ _ => rfl)) hX (by omega) hk).mono (fun v h2 hv => ?_)
    obtain ⟨rfl, i2, m2, C2, U2⟩ := hv
    refine kdV1 (d := 9) (by omega) (nn := (k : Int)) i2 ⟨by omega, by have := hX.2.2.1; omega⟩ l0 U2.1 (fun h3 r i3 m3 hr => ?_)
    have M : sMd MU h h3 := ((m1.sub rfl).seq m2).seq (m3.sub rfl)
    exact ⟨⟨r, rfl, hr⟩, i3, M, C.of ht M MU_b.1 MU_b.2 MU_i rfl (C2.md m3 (fun _ _ _ _ => rfl)) (U2.md m3 (fun _ _ _ _ => rfl))⟩
  · have eX : unX X = X := if_pos (by omega)
    have eN : unN X = -1 := if_pos (by omega)
    rw [eX, eN]
    exact ⟨⟨r, rfl, hr⟩, i1, m1.sub rfl, C.of ht m1 rfl rfl (fun _ _ _ _ => rfl) rfl (C.2.1.md m1 (fun _ _ _ _ => rfl)) (C.2.2.2.md m1 (fun _ _ _ _ => rfl))⟩
def MKe : sM := [(0, 9, 10), (49, 0, 4), (50, 0, 8), (51, 0, 8), (52, 0, 8), (53, 0, 8), (54, 0, 10)]
theorem zv_kde : zcvB 173 8 7 1 112 = true := by decide +kernel
theorem shV {h : zH} (hi : sInv swC h) : h.1[49]? = some (0, 7) := by
  rw [hi.1]
  rfl
theorem fcKeep {l : Launch} {Γ : zG} {t : Nat} (ht : t < 2) {N : zN} {S : zS} {X : zSx} {h : zH} (hi : sInv swC h) (C : SC t N S X h) : zSem l Γ false 10 (zhd 173) [.ref 0] h (fun r h' => (∃ a : Int32, r = some (.int a) ∧ a.toInt = X.1 6 0) ∧ sInv swC h' ∧ sMd MKe h h' ∧ SC t N S (keX X) h' ∧ pI h' 0 9 = 1) := by
  have kb : ctb MKe = true := by decide
  refine kdE0 (d := 9) (by omega) hi (fun lo1 h1 i1 m1 l0 => ?_)
  have C1 : CS 43 X.1 h1 := C.2.1.md m1 (fun _ _ _ _ => rfl)
  refine zcallR (mi := 173) (as := [.ref 43]) (rest := []) (q0 := 49) zv_kde rfl (by decide) (shV i1) ?_
  refine (zCpya (d := 8) i1 C1).mono (fun v h2 hv => ?_)
  obtain ⟨rfl, i2, m2, C2⟩ := hv
  have C3 : CS 43 X.1 h2 := C1.md m2 (fun q a b j => smemc (by omega) (smemc (by omega) (smemc (by omega) (smemc (by omega) (smemc (by omega) (smemc (by omega) smem0))))))
  refine kdE1 (d := 9) (by omega) (m := X.1 6 0) i2 (i32e C3.2.2.1.1) l0 C3.2.2.1.1 (fun h3 r i3 m3 k9 hr => ?_)
  have M : sMd MKe h h3 := ((m1.sub rfl).seq (m2.sub rfl)).seq (m3.sub rfl)
  refine ⟨⟨r, rfl, hr⟩, i3, M, ⟨C.1.md ht M kb, C3.md m3 (fun q a b j => smemc (by omega) smem0), fun _ => C2.md m3 (fun q a b j => smemc (by omega) smem0), ?_⟩, k9⟩
  have U := C.2.2.2.md M (fun q a b j => smemc (by omega) (smemc (by omega) (smemc (by omega) (smemc (by omega) (smemc (by omega) (smemc (by omega) (smemc (by omega) smem0)))))))
  exact U
theorem sI9 {h : zH} (hi : sInv swC h) : 0 ≤ pI h 0 9 ∧ pI h 0 9 ≤ 1 := by
  have t := hi.2.2.1 0 9
  rw [show sIv swC 0 9 = (0, 1) from by decide +kernel] at t
  exact t
def MBa : sM := [(43, 0, 4), (44, 0, 8), (45, 0, 8), (46, 0, 8), (47, 0, 8), (48, 0, 10), (86, 4, 5)]
theorem zv_kdh : zcvB 174 17 7 1 112 = true := by decide +kernel
theorem fcBack {l : Launch} {Γ : zG} {t : Nat} (ht : t < 2) {N : zN} {S : zS} {X : zSx} {h : zH} (hi : sInv swC h) (C : SC t N S X h) : zSem l Γ false 10 (zhd 174) [.ref 0] h (fun r h' => (∃ a : Int32, r = some (.int a) ∧ a.toInt = if pI h 0 9 = 1 then X.2.1 6 0 else -1) ∧ sInv swC h' ∧ sMd MBa h h' ∧ SC t N S (baX X (pI h 0 9)) h') := by
  have kb : ctb MBa = true ∧ smem MBa 0 9 = false := by decide
  have MB_i : ∀ q, 49 ≤ q → q ≤ 54 → ∀ j, smem MBa q j = false := fun q a b j => smemc (by omega) (smemc (by omega) (smemc (by omega) (smemc (by omega) (smemc (by omega) (smemc (by omega) (smemc (by omega) smem0))))))
  have h9 : 0 ≤ pI h 0 9 ∧ pI h 0 9 ≤ 1 := sI9 hi
  refine kdH0 (d := 9) (by omega) (hi_ := pI h 0 9) hi h9 rfl (fun lo1 h1 i1 m1 e l0 => ?_) (fun h' r i1 m1 e hr => ?_)
  · have e1 : pI h 0 9 = 1 := by omega
    rw [if_pos e1]
    have eX : baX X (pI h 0 9) = (X.2.1, X.2.1, 0, X.2.2.2) := if_pos e1
    rw [eX]
    have C1 : CS 49 X.2.1 h1 := (C.2.2.1 e1).md m1 (fun _ _ _ _ => rfl)
    refine zcallR (mi := 174) (as := [.ref 49]) (rest := []) (q0 := 43) zv_kdh rfl (by decide) (shB (t := 0) (by decide) i1) ?_
    refine (zCpyb (d := 8) i1 C1).mono (fun v h2 hv => ?_)
    obtain ⟨rfl, i2, m2, C2⟩ := hv
    refine kdH1 (d := 9) (by omega) (m := X.2.1 6 0) i2 (i32e C2.2.2.1.1) l0 C2.2.2.1.1 (fun h3 r i3 m3 k4 hr => ?_)
    have M : sMd MBa h h3 := ((m1.sub rfl).seq (m2.sub rfl)).seq (m3.sub rfl)
    exact ⟨⟨r, rfl, hr⟩, i3, M, C.of ht M kb.1 kb.2 MB_i rfl (C2.md m3 (fun q a b j => smemc (by omega) smem0)) ⟨k4, fun k hk => absurd hk (Nat.not_lt_zero k)⟩⟩
  · have e1 : ¬ pI h 0 9 = 1 := by omega
    rw [if_neg e1]
    have eX : baX X (pI h 0 9) = X := if_neg e1
    rw [eX]
    exact ⟨⟨r, rfl, hr⟩, i1, m1.sub rfl, C.of ht m1 rfl rfl (fun _ _ _ _ => rfl) rfl (C.2.1.md m1 (fun _ _ _ _ => rfl)) (C.2.2.2.md m1 (fun _ _ _ _ => rfl))⟩
