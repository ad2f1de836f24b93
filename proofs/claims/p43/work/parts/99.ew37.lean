/-! go, undo, keep, back in the reference -/
theorem zv_keg : zcvB 252 50 12 1 253 = true := by decide +kernel
theorem zGoML {l : Launch} {Γ : zG} {Kp : Option Value → zH → Prop} {N : zN} {S : zS} {h0 : zH} {x : Int} (hx : 0 ≤ x ∧ x ≤ 200) (hT : TB N S) : ∀ (m k : Nat) (lo : zL) (h : zH) (s : zSt) (n : Int), (k : Int) + m = x → SB n s → n + 1989 * m ≤ 1999980000 → DI 0 N S oGo s h0 h → zget lo 0 = some (.ref 0) → zI lo 1 x → zI lo 2 (k : Int) →
    (∀ lo' h', DI 0 N S oGo (mnK N S oGo m s) h0 h' → zget lo' 0 = some (.ref 0) → zI lo' 1 x → zX l Γ false 10 (zhd 252) (zMQ' Γ false (zhd 252) Kp) 0 0 59 lo' [] h') → zX l Γ false 10 (zhd 252) (zMQ' Γ false (zhd 252) Kp) 0 0 43 lo [] h
  | 0, k, lo, h, s, n, hk, hB, hn, I, l0, l1, l2, hE => by
    exact keG1 (d := 9) (by omega) (k := (k : Int)) I.1 hx ⟨by omega, by omega⟩ l0 l1 l2 (fun lo' h' i1 m1 e g0 g1 => hE lo' h' (I.nil (by decide) i1 m1) g0 g1) (fun lo' h' y i1 m1 e => by omega)
  | m + 1, k, lo, h, s, n, hk, hB, hn, I, l0, l1, l2, hE => by
    refine keG1 (d := 9) (by omega) (k := (k : Int)) I.1 hx ⟨by omega, by omega⟩ l0 l1 l2 (fun lo' h' i1 m1 e g0 g1 => by omega) (fun lo' h' y i1 m1 e g0 g1 g2 hy => ?_)
    refine zcallR (mi := 252) (as := [.int y]) (rest := []) (q0 := 0) zv_keg rfl (by decide) (shM i1) ?_
    refine (zMinM (d := 1) (b := 0) (by decide) hT oGo_b hB (by omega) (I.nil (by decide) i1 m1) hy).mono (fun v h2 hv => ?_)
    obtain ⟨rfl, I2⟩ := hv
    refine keG2 (d := 9) (by omega) (k := (k : Int)) I2.1 hx ⟨by omega, by omega⟩ g0 g1 g2 (fun lo3 h3 i3 m3 z0 z1 z2 => ?_)
    exact zGoML hx hT m (k + 1) lo3 h3 (mnt N S oGo s) (n + 1989) (by omega) (mnt_b hT oGo_b hB) (by omega) (I2.nil (by decide) i3 m3) z0 z1 (by rw [Int.natCast_add]; exact z2) hE
theorem smem_z {md : sM} {q j : Nat} (hb : md.all (fun t => decide (t.1 = 0)) = true) (hq : q ≠ 0) : smem md q j = false := by
  cases hc : smem md q j with
  | false => rfl
  | true =>
    obtain ⟨x, hx, h3⟩ := List.any_eq_true.mp hc
    have h4 := List.all_eq_true.mp hb x hx
    simp only [Bool.and_eq_true, beq_iff_eq, decide_eq_true_eq] at h3 h4
    omega
def MGm : sM := MM 0 ++ [(0, 2, 3), (0, 66, 67), (0, 67, 68), (0, 68, 69), (0, 69, 70), (0, 70, 71), (0, 71, 72), (0, 72, 73), (0, 73, 74), (0, 80, 81)]
theorem MGm_s : ssubB (MM 0) MGm = true ∧ ssubB keG0_m MGm = true ∧ ssubB [(0, 80, 81)] MGm = true ∧ ssubB [(0, 2, 3)] MGm = true ∧ tmb MGm = true ∧ MGm.all (fun x => decide (x.1 < 19) || decide (25 ≤ x.1)) = true ∧ MGm.all (fun x => decide (x.1 < 41) || decide (44 ≤ x.1)) = true ∧ smem MGm 0 82 = false ∧ smem MGm 0 85 = false := by decide
theorem keG3_s : ((List.range 21).all fun n => ssubB (keG3_m n) MGm && (ssubB (keG3_m n) [(0, 66, 67), (0, 80, 81)])) = true := by decide
theorem MM0_u : (MM 0).all (fun x => decide (x.1 < 41) || decide (44 ≤ x.1)) = true ∧ smem (MM 0) 0 80 = false := by decide
theorem fmGo {l : Launch} {Γ : zG} {N : zN} {S : zS} {n : Int} {X : zSx} {h : zH} (hT : TB N S) (hX : XB S n X) (hn : n ≤ 1999000000) (hi : sInv swM h) (C : SM N S X h) (x : Int32) : zSem l Γ false 10 (zhd 252) [.ref 0, .int x] h (fun r h' => (∃ a : Int32, r = some (.int a) ∧ a.toInt = goQ X x.toInt) ∧ sInv swM h' ∧ sMd MGm h h' ∧ SM N S (goX N S X x.toInt) h') := by
  obtain ⟨s1, s2, s3, s4, s5, s6, s7, s8, s9⟩ := MGm_s
  have mb := hX.1.1.2.2.1
  have c60 : pI h 36 0 = X.1 6 0 := C.2.2.1.2.2.1
  have hx20 := hX.2.2.1
  have f41 : ∀ q, 41 ≤ q → q < 44 → ∀ j, smem MGm q j = false := fun q a b j => smem_out s7 a b
  have tl : ∀ {h' : zH}, sMd MGm h h' → TMt N S h' ∧ LwT N S h' := fun m => TL.md C.1 C.2.1 m s5 (fun q a b j => smem_out s6 a b)
  have im : ∀ {h' : zH}, sMd MGm h h' → pI h' 0 82 = 1 → IM S X.2.1 h' := fun m e => (C.2.2.2.1 (by rw [← pI_md m s8]; exact e)).md m (f41 42 (by decide) (by decide)) (f41 43 (by decide) (by decide)) s9
  have z0 : ∀ q, q ≠ 0 → ∀ j, smem keG0_m q j = false := fun q a j => smem_z (by decide) a
  have no : ∀ (h' : zH) (r : Int32), sInv swM h' → sMd keG0_m h h' → r.toInt = -1 → ¬ ((0 ≤ x.toInt ∧ x.toInt ≤ 200) ∧ X.1 6 0 + x.toInt ≤ 9000) → (∃ a : Int32, (some (.int r) : Option Value) = some (.int a) ∧ a.toInt = goQ X x.toInt) ∧ sInv swM h' ∧ sMd MGm h h' ∧ SM N S (goX N S X x.toInt) h' := fun h' r i1 m1 hr c => by
    have e : goX N S X x.toInt = X := if_neg c
    have e2 : goQ X x.toInt = -1 := if_neg c
    rw [e, e2]
    have M := m1.sub s2
    exact ⟨⟨r, rfl, hr⟩, i1, M, (tl M).1, (tl M).2, C.2.2.1.md m1 (fun q a b j => z0 q (by omega) j) (by decide), im M, C.2.2.2.2.md m1 (by decide) (z0 41 (by decide))⟩
  refine keG0 (d := 9) (by omega) (m := X.1 6 0) hi (i32bd x) ⟨by omega, by omega⟩ rfl c60 (fun lo1 h1 i1 m1 e1 e2 e3 k66 k73 k72 k71 k70 k69 k68 k67 k2 l0 l1 l2 => ?_) (fun h' r i1 m1 e1 k2 hr => no h' r i1 m1 hr (by omega)) (fun h' r i1 m1 e1 e2 k2 hr => no h' r i1 m1 hr (by omega)) (fun h' r i1 m1 e1 e2 e3 k2 hr => no h' r i1 m1 hr (by omega))
  obtain ⟨k, hk⟩ : ∃ k : Nat, x.toInt = (k : Int) := ⟨x.toInt.toNat, by omega⟩
  have ek : x.toInt.toNat = k := by omega
  have M1 := m1.sub s2
  have I1 : DI 0 N S oGo X.1 h1 h1 := ⟨i1, sMd.rf, ⟨(tl M1).1, (tl M1).2, k66, k67, k68, k69, k70, k71, k72, k73⟩, C.2.2.1.md m1 (fun q a b j => z0 q (by omega) j) (by decide)⟩
  refine zGoML (x := x.toInt) ⟨by omega, by omega⟩ hT k 0 lo1 h1 X.1 n (by omega) hX.1.1 (by omega) I1 l0 l1 l2 (fun lo2 h2 I2 g0 g1 => ?_)
  have C2 : MS S 0 (mnK N S oGo k X.1) h2 := I2.2.2.2
  have q80 : pI h2 0 80 = (X.2.2.1 : Int) := (pI_md I2.2.1 MM0_u.2).trans ((pI_md m1 (by decide)).trans C.2.2.2.2.1)
  have ss := zall_r keG3_s (k := X.2.2.1) (by omega)
  simp only [Bool.and_eq_true] at ss
  have M2 : sMd MGm h h2 := M1.seq (I2.2.1.sub s1)
  have eX : goX N S X x.toInt = (mnK N S oGo k X.1, X.2.1, (if 1 ≤ x.toInt then 0 else X.2.2.1), X.2.2.2) := by
    unfold goX
    rw [if_pos ⟨⟨by omega, by omega⟩, by omega⟩, ek]
  have eQ : goQ X x.toInt = X.1 6 0 + x.toInt := if_pos ⟨⟨by omega, by omega⟩, by omega⟩
  have fin : ∀ (h3 : zH) (r : Int32), sInv swM h3 → sMd (keG3_m X.2.2.1) h2 h3 → pI h3 0 80 = (((if 1 ≤ x.toInt then 0 else X.2.2.1) : Nat) : Int) → r.toInt = (mnK N S oGo k X.1) 6 0 → (∃ a : Int32, (some (.int r) : Option Value) = some (.int a) ∧ a.toInt = goQ X x.toInt) ∧ sInv swM h3 ∧ sMd MGm h h3 ∧ SM N S (goX N S X x.toInt) h3 := fun h3 r i3 m3 k80 hr => by
    have m3' := m3.sub ss.2
    have M3 : sMd MGm h h3 := M2.seq (m3.sub ss.1)
    rw [eX, eQ]
    refine ⟨⟨r, rfl, by rw [hr, mnK_m, hk]⟩, i3, M3, (tl M3).1, (tl M3).2, C2.md m3' (fun q a b j => smemc (by omega) (smemc (by omega) smem0)) (by decide), im M3, k80, fun j hj g hg => ?_⟩
    have hj : j < (if 1 ≤ x.toInt then 0 else X.2.2.1) := hj
    by_cases e : 1 ≤ x.toInt
    · rw [if_pos e] at hj
      exact absurd hj (Nat.not_lt_zero j)
    · rw [if_neg e] at hj
      have f : ∀ i, pI h3 41 i = pI h 41 i := fun i => (pI_md m3' (smemc (by omega) (smemc (by omega) smem0))).trans ((pI_md I2.2.1 (smem_out MM0_u.1 (by decide) (by decide))).trans (pI_md m1 (z0 41 (by decide) i)))
      rw [f, f, f, f]
      exact C.2.2.2.2.2 j hj g hg
  refine keG3 (d := 9) (by omega) (n := X.2.2.1) (by omega) (x := x.toInt) (m := (mnK N S oGo k X.1) 6 0) I2.1 ⟨by omega, by omega⟩ (i32e C2.2.2.1) g0 g1 C2.2.2.1 q80 (fun h3 r i3 m3 e k80 k66 hr => ?_) (fun h3 r i3 m3 e k80 k66 hr => ?_)
  · exact fin h3 r i3 m3 (by rw [if_neg (by omega)]; exact k80) hr
  · exact fin h3 r i3 m3 (by rw [if_pos (by omega)]; exact k80) hr
theorem zv_keu : zcvB 306 36 12 2 307 = true := by decide +kernel
def MUn : sM := [(0, 2, 3), (0, 80, 81), (29, 0, 8), (30, 0, 8), (31, 0, 8), (33, 0, 8)]
/-- the state that a row holds, the rest as it is -/
theorem MS.rw {S : zS} {s s' : zSt} {h h' : zH} {md : sM} (M : MS S 0 s h) (m : sMd md h h') (h1 : ∀ j, smem md 32 j = false) (h2 : ∀ q, 34 ≤ q → q ≤ 36 → ∀ j, smem md q j = false) (h3 : smem md 0 65 = false) (hs : ∀ a, a = 3 ∨ a = 5 ∨ a = 6 → s' a = s a) (k : ∀ g, g < S 1 → pI h' 29 g = s' 0 g ∧ pI h' 30 g = s' 1 g ∧ pI h' 31 g = s' 2 g ∧ pI h' 33 g = s' 4 g) : MS S 0 s' h' := by
  have e : ∀ g : Nat, 8 * 0 + g = g := fun g => by omega
  refine MS.mk (fun g hg => ?_) (fun g hg => ?_) (fun g hg => ?_) (fun g hg => ?_) (fun g hg => ?_) (fun p hp => ?_) ⟨?_, ?_, ?_⟩
  · rw [e]
    exact (k g hg).1
  · rw [e]
    exact (k g hg).2.1
  · rw [e]
    exact (k g hg).2.2.1
  · rw [hs 3 (Or.inl rfl)]
    exact (pI_md m (h1 _)).trans (M.1 g hg).2.2.2.1
  · rw [e]
    exact (k g hg).2.2.2
  · rw [hs 5 (Or.inr (Or.inl rfl))]
    exact (pI_md m (h2 34 (by decide) (by decide) _)).trans (M.2.1 p hp)
  · rw [hs 6 (Or.inr (Or.inr rfl))]
    exact (pI_md m (h2 36 (by decide) (by decide) _)).trans M.2.2.1
  · rw [hs 6 (Or.inr (Or.inr rfl))]
    exact (pI_md m (h2 35 (by decide) (by decide) _)).trans M.2.2.2.1
  · rw [hs 6 (Or.inr (Or.inr rfl))]
    exact (pL_md m h3).trans M.2.2.2.2
theorem fmUndo {l : Launch} {Γ : zG} {N : zN} {S : zS} {n : Int} {X : zSx} {h : zH} (hT : TB N S) (hX : XB S n X) (hi : sInv swM h) (C : SM N S X h) : zSem l Γ false 10 (zhd 306) [.ref 0] h (fun r h' => (∃ a : Int32, r = some (.int a) ∧ a.toInt = unN X) ∧ sInv swM h' ∧ sMd MUn h h' ∧ SM N S (unX X) h') := by
  have b1 := hT.1.2.1
  have hx20 := hX.2.2.1
  have un : ∀ {q j}, q ≠ 0 → (q < 29 ∨ q = 32 ∨ 33 < q) → smem MUn q j = false := fun a b => smemc (by omega) (smemc (by omega) (smemc (by omega) (smemc (by omega) (smemc (by omega) (smemc (by omega) smem0)))))
  have tl : ∀ {h' : zH}, sMd MUn h h' → TMt N S h' ∧ LwT N S h' := fun m => TL.md C.1 C.2.1 m (by decide) (fun q a b j => un (by omega) (by omega))
  have im : ∀ {h' : zH}, sMd MUn h h' → pI h' 0 82 = 1 → IM S X.2.1 h' := fun m e => (C.2.2.2.1 (by rw [← pI_md m (q := 0) (j := 82) rfl]; exact e)).md m (fun j => un (by decide) (by decide)) (fun j => un (by decide) (by decide)) rfl
  by_cases h0 : X.2.2.1 = 0
  · have eX : unX X = X := if_pos h0
    have eN : unN X = -1 := if_pos h0
    rw [eX, eN]
    refine keV2 (d := 9) (by omega) hi (C.2.2.2.2.1.trans (by rw [h0]; rfl)) (fun h' r i1 m1 k2 hr => ?_)
    exact ⟨⟨r, rfl, hr⟩, i1, m1.sub rfl, (tl (m1.sub rfl)).1, (tl (m1.sub rfl)).2, C.2.2.1.m2 m1, im (m1.sub rfl), C.2.2.2.2.md m1 rfl (fun j => smemc (by omega) smem0)⟩
  · obtain ⟨k, hk⟩ : ∃ k, X.2.2.1 = k + 1 := ⟨X.2.2.1 - 1, by omega⟩
    have k20 : k < 20 := by omega
    have eX : unX X = (X.2.2.2 k, X.2.1, k, X.2.2.2) := by
      unfold unX
      rw [if_neg (by omega), hk]
      rfl
    have eN : unN X = (k : Int) := by
      unfold unN
      rw [if_neg (by omega), hk]
      rfl
    rw [eX, eN]
    have q80 : pI h 0 80 = (k : Int) + 1 := by
      rw [C.2.2.2.2.1, hk]
      exact Int.natCast_add k 1
    refine keV0 (d := 9) (by omega) k20 hi q80 (fun lo1 h1 y0 i1 m1 k80 k2 l0 hy => ?_)
    refine zcallR (mi := 306) (as := [.int y0, .ref 41]) (rest := []) (q0 := 0) zv_keu rfl (by decide) (shM i1) ?_
    refine (zTakM (d := 8) k20 i1 hy).mono (fun v h2 hv => ?_)
    obtain ⟨rfl, i2, m2, hb⟩ := hv
    have e80 : pI h2 0 80 = (k : Int) := (pI_md m2 (smemc (by omega) (smemc (by omega) (smemc (by omega) (smemc (by omega) smem0))))).trans k80
    refine keV1 (d := 9) (by omega) (n := k) (by omega) i2 l0 e80 (fun h3 r i3 m3 hr => ?_)
    have M : sMd MUn h h3 := ((m1.sub rfl).seq (m2.sub rfl)).seq (m3.sub rfl)
    refine ⟨⟨r, rfl, hr⟩, i3, M, (tl M).1, (tl M).2, ?_, im M, (pI_md m3 rfl).trans e80, fun j hj g hg => ?_⟩
    · refine C.2.2.1.rw M (fun j => un (by decide) (by decide)) (fun q a b j => un (by omega) (by omega)) rfl (hX.2.2.2 k (by omega)).2 (fun g hg => ?_)
      obtain ⟨r0, r1, r2, r3⟩ := hb g (by omega)
      have c := C.2.2.2.2.2 k (by omega) g hg
      have f41 : ∀ j, pI h1 41 j = pI h 41 j := fun j => pI_md m1 (smemc (by omega) (smemc (by omega) smem0))
      rw [f41] at r0 r1 r2 r3
      rw [pI_md m3 rfl, pI_md m3 rfl, pI_md m3 rfl, pI_md m3 rfl]
      exact ⟨r0.symm.trans c.1, r1.symm.trans c.2.1, r2.symm.trans c.2.2.1, r3.symm.trans c.2.2.2⟩
    · have hj : j < k := hj
      have f41 : ∀ j, pI h3 41 j = pI h 41 j := fun j => pI_md M (un (by decide) (by decide))
      rw [f41, f41, f41, f41]
      exact C.2.2.2.2.2 j (by omega) g hg
theorem zv_kek : zcvB 308 16 12 2 247 = true := by decide +kernel
theorem zv_keb : zcvB 309 20 12 2 307 = true := by decide +kernel
theorem keE_s : ((List.range 10).all fun p => ssubB [(43, p, p + 1)] [(43, 0, 20)] && ssubB [(43, p + 8, p + 9)] [(43, 0, 20)]) = true := by decide
theorem zKeL1 {l : Launch} {Γ : zG} {Kp : Option Value → zH → Prop} {h0 : zH} : ∀ (m g : Nat) (lo : zL) (h : zH), g + m = 8 → sInv swM h → sMd [(43, 0, 20)] h0 h → (∀ j, j < g → pI h 43 j = pI h0 32 j) → zget lo 0 = some (.ref 0) → zI lo 1 (g : Int) →
    (∀ lo' h', sInv swM h' → sMd [(43, 0, 20)] h0 h' → (∀ j, j < 8 → pI h' 43 j = pI h0 32 j) → zget lo' 0 = some (.ref 0) → zI lo' 1 0 → zX l Γ false 10 (zhd 308) (zMQ' Γ false (zhd 308) Kp) 0 0 47 lo' [] h') → zX l Γ false 10 (zhd 308) (zMQ' Γ false (zhd 308) Kp) 0 0 21 lo [] h
  | 0, g, lo, h, hg, hi, hm, hb, l0, l1, hE => by
    have : g = 8 := by omega
    subst this
    exact keE3 (d := 9) (by omega) hi l0 l1 (fun lo' h' i1 m1 g0 g1 => hE lo' h' i1 (hm.seq (m1.sub rfl)) (fun j hj => (pI_md m1 rfl).trans (hb j hj)) g0 g1)
  | m + 1, g, lo, h, hg, hi, hm, hb, l0, l1, hE => by
    have ss := zall_r keE_s (k := g) (by omega)
    simp only [Bool.and_eq_true] at ss
    refine keE2 (d := 9) (by omega) (g := g) (by omega) hi (i32e rfl) l0 l1 rfl (fun lo' h' i1 m1 k g0 g1 => ?_)
    refine zKeL1 m (g + 1) lo' h' (by omega) i1 (hm.seq (m1.sub ss.1)) (fun j hj => ?_) g0 (by rw [Int.natCast_add]; exact g1) hE
    by_cases e : j = g
    · subst e
      exact k.trans (pI_md hm (smemc (by omega) smem0))
    · exact (pI_md m1 (smemc (by omega) smem0)).trans (hb j (by omega))
theorem s34b {h : zH} (hi : sInv swM h) {p : Nat} (hp : p < 10) : 0 ≤ pI h 34 p ∧ pI h 34 p ≤ 2 := by
  have t : ((List.range 10).all fun g => decide (sIv swM 34 g = (0, 2))) = true := by decide +kernel
  exact sIbd hi (of_decide_eq_true (zall_r t hp))
theorem s43b {h : zH} (hi : sInv swM h) {p : Nat} (hp : p < 10) : 0 ≤ pI h 43 (p + 8) ∧ pI h 43 (p + 8) ≤ 2 := by
  have t : ((List.range 10).all fun g => decide (sIv swM 43 (g + 8) = (0, 2))) = true := by decide +kernel
  exact sIbd hi (of_decide_eq_true (zall_r t hp))
theorem zKeL2 {l : Launch} {Γ : zG} {Kp : Option Value → zH → Prop} {h0 : zH} : ∀ (m p : Nat) (lo : zL) (h : zH), p + m = 10 → sInv swM h → sMd [(43, 0, 20)] h0 h → (∀ j, j < 8 → pI h 43 j = pI h0 32 j) → (∀ j, j < p → pI h 43 (j + 8) = pI h0 34 j) → zget lo 0 = some (.ref 0) → zI lo 1 (p : Int) →
    (∀ lo' h', sInv swM h' → sMd [(43, 0, 20)] h0 h' → (∀ j, j < 8 → pI h' 43 j = pI h0 32 j) → (∀ j, j < 10 → pI h' 43 (j + 8) = pI h0 34 j) → zget lo' 0 = some (.ref 0) → zI lo' 1 10 → zX l Γ false 10 (zhd 308) (zMQ' Γ false (zhd 308) Kp) 0 0 47 lo' [] h') → zX l Γ false 10 (zhd 308) (zMQ' Γ false (zhd 308) Kp) 0 0 47 lo [] h
  | 0, p, lo, h, hg, hi, hm, hb, hc, l0, l1, hE => by
    have : p = 10 := by omega
    subst this
    exact hE lo h hi hm hb hc l0 l1
  | m + 1, p, lo, h, hg, hi, hm, hb, hc, l0, l1, hE => by
    have ss := zall_r keE_s (k := p) (by omega)
    simp only [Bool.and_eq_true] at ss
    refine keE4 (d := 9) (by omega) (p := p) (by omega) hi (s34b hi (by omega)) l0 l1 rfl (fun lo' h' i1 m1 k g0 g1 => ?_)
    refine zKeL2 m (p + 1) lo' h' (by omega) i1 (hm.seq (m1.sub ss.2)) (fun j hj => (pI_md m1 (smemc (by omega) smem0)).trans (hb j hj)) (fun j hj => ?_) g0 (by rw [Int.natCast_add]; exact g1) hE
    by_cases e : j = p
    · subst e
      exact k.trans (pI_md hm (smemc (by omega) smem0))
    · exact (pI_md m1 (smemc (by omega) smem0)).trans (hc j (by omega))
def MKm : sM := [(0, 2, 3), (0, 82, 83), (0, 85, 86), (42, 0, 32), (43, 0, 20)]
theorem fmKeep {l : Launch} {Γ : zG} {N : zN} {S : zS} {X : zSx} {h : zH} (hT : TB N S) (hi : sInv swM h) (C : SM N S X h) : zSem l Γ false 10 (zhd 308) [.ref 0] h (fun r h' => (∃ a : Int32, r = some (.int a) ∧ a.toInt = X.1 6 0) ∧ sInv swM h' ∧ sMd MKm h h' ∧ SM N S (keX X) h' ∧ pI h' 0 82 = 1) := by
  have b1 := hT.1.2.1
  have kn : ∀ {q j}, q ≠ 0 → q < 42 → smem MKm q j = false := fun a b => smemc (by omega) (smemc (by omega) (smemc (by omega) (smemc (by omega) (smemc (by omega) smem0))))
  refine keE0 (d := 9) (by omega) hi (fun lo1 h1 y0 i1 m1 k82 k2 l0 hy => ?_)
  refine zcallR (mi := 308) (as := [.int y0, .ref 42]) (rest := []) (q0 := 0) zv_kek rfl (by decide) (shM i1) ?_
  refine (zPutI (d := 8) i1 hy).mono (fun v h2 hv => ?_)
  obtain ⟨rfl, i2, m2, hb⟩ := hv
  refine keE1 (d := 9) (by omega) i2 l0 (fun lo3 h3 i3 m3 g0 g1 => ?_)
  refine zKeL1 8 0 lo3 h3 rfl i3 sMd.rf (fun j hj => absurd hj (Nat.not_lt_zero j)) g0 g1 (fun lo4 h4 i4 m4 hc g0 g1 => ?_)
  refine zKeL2 10 0 lo4 h4 rfl i4 m4 hc (fun j hj => absurd hj (Nat.not_lt_zero j)) g0 g1 (fun lo5 h5 i5 m5 hc hd g0 g1 => ?_)
  have M5 : sMd MKm h h5 := (((m1.sub rfl).seq (m2.sub rfl)).seq (m3.sub rfl)).seq (m5.sub rfl)
  have C5 : MS S 0 X.1 h5 := C.2.2.1.md M5 (fun q a b j => kn (by omega) (by omega)) rfl
  refine keE5 (d := 9) (by omega) (tx := X.1 6 1) (m := X.1 6 0) (nu := X.1 6 2) i5 (i32e C5.2.2.2.1) (i32e C5.2.2.1) (i64e C5.2.2.2.2) g0 g1 C5.2.2.2.1 C5.2.2.1 C5.2.2.2.2 (fun h6 u0 r i6 m6 v0 v1 k19 k18 hr => ?_)
  have M6 : sMd MKm h h6 := M5.seq (m6.sub rfl)
  have t := TL.md C.1 C.2.1 M6 (by decide) (fun q a b j => kn (by omega) (by omega))
  have e82 : pI h6 0 82 = 1 := (pI_md m6 rfl).trans ((pI_md m5 rfl).trans ((pI_md m3 rfl).trans ((pI_md m2 (smemc (by omega) smem0)).trans k82)))
  refine ⟨⟨r, rfl, hr⟩, i6, M6, ⟨t.1, t.2, C.2.2.1.md M6 (fun q a b j => kn (by omega) (by omega)) rfl, fun _ => ⟨fun g hg => ?_, fun p hp => ?_, k19, k18, v0.trans v1⟩, C.2.2.2.2.md M6 rfl (fun j => kn (by decide) (by decide))⟩, e82⟩
  · obtain ⟨r0, r1, r2, r3⟩ := hb g (by omega)
    obtain ⟨a0, a1, a2, a3, a4⟩ := C.2.2.1.1 g hg
    rw [show 8 * 0 + g = g from by omega] at a0 a1 a2 a3 a4
    have f42 : ∀ j, pI h6 42 j = pI h2 42 j := fun j => (pI_md m6 (smemc (by omega) (smemc (by omega) smem0))).trans ((pI_md m5 (smemc (by omega) smem0)).trans (pI_md m3 rfl))
    have fh : ∀ q j, 29 ≤ q → q ≤ 33 → pI h1 q j = pI h q j := fun q j a b => pI_md m1 (smemc (by omega) (smemc (by omega) smem0))
    rw [f42, f42, f42, f42]
    refine ⟨r0.trans ((fh 29 g (by decide) (by decide)).trans a0), r1.trans ((fh 30 g (by decide) (by decide)).trans a1), r2.trans ((fh 31 g (by decide) (by decide)).trans a2), r3.trans ((fh 33 g (by decide) (by decide)).trans a4), ?_⟩
    rw [pI_md m6 (smemc (by omega) (smemc (by omega) smem0)), hc g (by omega), pI_md m3 rfl, pI_md m2 (smemc (by omega) smem0), fh 32 g (by decide) (by decide)]
    exact a3
  · have a5 := C.2.2.1.2.1 p hp
    rw [show 10 * 0 + p = p from by omega] at a5
    rw [pI_md m6 (smemc (by omega) (smemc (by omega) smem0)), hd p hp, pI_md m3 rfl, pI_md m2 (smemc (by omega) smem0), pI_md m1 (smemc (by omega) (smemc (by omega) smem0))]
    exact a5
