/-! back in the reference; the first state -/
theorem keH_s : ((List.range 10).all fun p => ssubB [(32, p, p + 1)] [(32, 0, 10), (34, 0, 10)] && ssubB [(34, p, p + 1)] [(32, 0, 10), (34, 0, 10)]) = true := by decide
theorem zBaL1 {l : Launch} {Γ : zG} {Kp : Option Value → zH → Prop} {h0 : zH} : ∀ (m g : Nat) (lo : zL) (h : zH), g + m = 8 → sInv swM h → sMd [(32, 0, 10), (34, 0, 10)] h0 h → (∀ j, j < g → pI h 32 j = pI h0 43 j) → zget lo 0 = some (.ref 0) → zI lo 1 (g : Int) →
    (∀ lo' h', sInv swM h' → sMd [(32, 0, 10), (34, 0, 10)] h0 h' → (∀ j, j < 8 → pI h' 32 j = pI h0 43 j) → zget lo' 0 = some (.ref 0) → zI lo' 1 0 → zX l Γ false 10 (zhd 309) (zMQ' Γ false (zhd 309) Kp) 0 0 51 lo' [] h') → zX l Γ false 10 (zhd 309) (zMQ' Γ false (zhd 309) Kp) 0 0 25 lo [] h
  | 0, g, lo, h, hg, hi, hm, hb, l0, l1, hE => by
    have : g = 8 := by omega
    subst this
    exact keH3 (d := 9) (by omega) hi l0 l1 (fun lo' h' i1 m1 g0 g1 => hE lo' h' i1 (hm.seq (m1.sub rfl)) (fun j hj => (pI_md m1 rfl).trans (hb j hj)) g0 g1)
  | m + 1, g, lo, h, hg, hi, hm, hb, l0, l1, hE => by
    have ss := zall_r keH_s (k := g) (by omega)
    simp only [Bool.and_eq_true] at ss
    refine keH2 (d := 9) (by omega) (g := g) (by omega) hi (i32e rfl) l0 l1 rfl (fun lo' h' i1 m1 k g0 g1 => ?_)
    refine zBaL1 m (g + 1) lo' h' (by omega) i1 (hm.seq (m1.sub ss.1)) (fun j hj => ?_) g0 (by rw [Int.natCast_add]; exact g1) hE
    by_cases e : j = g
    · subst e
      exact k.trans (pI_md hm (smemc (by omega) (smemc (by omega) smem0)))
    · exact (pI_md m1 (smemc (by omega) smem0)).trans (hb j (by omega))
theorem zBaL2 {l : Launch} {Γ : zG} {Kp : Option Value → zH → Prop} {h0 : zH} : ∀ (m p : Nat) (lo : zL) (h : zH), p + m = 10 → sInv swM h → sMd [(32, 0, 10), (34, 0, 10)] h0 h → (∀ j, j < 8 → pI h 32 j = pI h0 43 j) → (∀ j, j < p → pI h 34 j = pI h0 43 (j + 8)) → zget lo 0 = some (.ref 0) → zI lo 1 (p : Int) →
    (∀ lo' h', sInv swM h' → sMd [(32, 0, 10), (34, 0, 10)] h0 h' → (∀ j, j < 8 → pI h' 32 j = pI h0 43 j) → (∀ j, j < 10 → pI h' 34 j = pI h0 43 (j + 8)) → zget lo' 0 = some (.ref 0) → zI lo' 1 10 → zX l Γ false 10 (zhd 309) (zMQ' Γ false (zhd 309) Kp) 0 0 51 lo' [] h') → zX l Γ false 10 (zhd 309) (zMQ' Γ false (zhd 309) Kp) 0 0 51 lo [] h
  | 0, p, lo, h, hg, hi, hm, hb, hc, l0, l1, hE => by
    have : p = 10 := by omega
    subst this
    exact hE lo h hi hm hb hc l0 l1
  | m + 1, p, lo, h, hg, hi, hm, hb, hc, l0, l1, hE => by
    have ss := zall_r keH_s (k := p) (by omega)
    simp only [Bool.and_eq_true] at ss
    refine keH4 (d := 9) (by omega) (p := p) (by omega) hi (s43b hi (by omega)) l0 l1 rfl (fun lo' h' i1 m1 k g0 g1 => ?_)
    refine zBaL2 m (p + 1) lo' h' (by omega) i1 (hm.seq (m1.sub ss.2)) (fun j hj => (pI_md m1 (smemc (by omega) smem0)).trans (hb j hj)) (fun j hj => ?_) g0 (by rw [Int.natCast_add]; exact g1) hE
    by_cases e : j = p
    · subst e
      exact k.trans (pI_md hm (smemc (by omega) (smemc (by omega) smem0)))
    · exact (pI_md m1 (smemc (by omega) smem0)).trans (hc j (by omega))
def MBm : sM := [(0, 2, 3), (0, 65, 66), (0, 80, 81), (29, 0, 8), (30, 0, 8), (31, 0, 8), (32, 0, 10), (33, 0, 8), (34, 0, 10), (35, 0, 1), (36, 0, 1)]
theorem s82b {h : zH} (hi : sInv swM h) : 0 ≤ pI h 0 82 ∧ pI h 0 82 ≤ 1 := sIbd hi (show sIv swM 0 82 = (0, 1) from by decide +kernel)
theorem fmBack {l : Launch} {Γ : zG} {N : zN} {S : zS} {X : zSx} {h : zH} (hT : TB N S) (hi : sInv swM h) (C : SM N S X h) : zSem l Γ false 10 (zhd 309) [.ref 0] h (fun r h' => (∃ a : Int32, r = some (.int a) ∧ a.toInt = if pI h 0 82 = 1 then X.2.1 6 0 else -1) ∧ sInv swM h' ∧ sMd MBm h h' ∧ SM N S (baX X (pI h 0 82)) h') := by
  have b1 := hT.1.2.1
  have h9 := s82b hi
  have bn : ∀ {q j}, q ≠ 0 → (q < 29 ∨ 36 < q) → smem MBm q j = false := fun a b => smemc (by omega) (smemc (by omega) (smemc (by omega) (smemc (by omega) (smemc (by omega) (smemc (by omega) (smemc (by omega) (smemc (by omega) (smemc (by omega) (smemc (by omega) (smemc (by omega) smem0))))))))))
  have tl : ∀ {h' : zH}, sMd MBm h h' → TMt N S h' ∧ LwT N S h' := fun m => TL.md C.1 C.2.1 m (by decide) (fun q a b j => bn (by omega) (by omega))
  have im : ∀ {h' : zH}, sMd MBm h h' → pI h' 0 82 = 1 → IM S X.2.1 h' := fun m e => (C.2.2.2.1 (by rw [← pI_md m (q := 0) (j := 82) rfl]; exact e)).md m (fun j => bn (by decide) (by decide)) (fun j => bn (by decide) (by decide)) rfl
  refine keH0 (d := 9) (by omega) (hi_ := pI h 0 82) hi h9 rfl (fun lo1 h1 y0 i1 m1 e k2 l0 hy => ?_) (fun h' r i1 m1 e k2 hr => ?_)
  · have e1 : pI h 0 82 = 1 := by omega
    rw [if_pos e1]
    have eX : baX X (pI h 0 82) = (X.2.1, X.2.1, 0, X.2.2.2) := if_pos e1
    rw [eX]
    obtain ⟨j1, j2, j3, j4, j5⟩ := (C.2.2.2.1 e1).md m1 (fun j => smemc (by omega) smem0) (fun j => smemc (by omega) smem0) rfl
    refine zcallR (mi := 309) (as := [.int y0, .ref 42]) (rest := []) (q0 := 0) zv_keb rfl (by decide) (shM i1) ?_
    refine (zTakI (d := 8) i1 hy).mono (fun v h2 hv => ?_)
    obtain ⟨rfl, i2, m2, hb⟩ := hv
    refine keH1 (d := 9) (by omega) i2 l0 (fun lo3 h3 i3 m3 g0 g1 => ?_)
    refine zBaL1 8 0 lo3 h3 rfl i3 sMd.rf (fun j hj => absurd hj (Nat.not_lt_zero j)) g0 g1 (fun lo4 h4 i4 m4 hc g0 g1 => ?_)
    refine zBaL2 10 0 lo4 h4 rfl i4 m4 hc (fun j hj => absurd hj (Nat.not_lt_zero j)) g0 g1 (fun lo5 h5 i5 m5 hc hd g0 g1 => ?_)
    have f43 : ∀ j, pI h3 43 j = pI h1 43 j := fun j => (pI_md m3 rfl).trans (pI_md m2 (smemc (by omega) (smemc (by omega) (smemc (by omega) (smemc (by omega) smem0)))))
    have g43 : ∀ j, pI h5 43 j = pI h1 43 j := fun j => (pI_md m5 (smemc (by omega) (smemc (by omega) smem0))).trans (f43 j)
    have n85 : pL h5 0 85 = X.2.1 6 2 := (pL_md m5 (smemc (by omega) (smemc (by omega) smem0))).trans ((pL_md m3 rfl).trans ((pL_md m2 (smemc (by omega) (smemc (by omega) (smemc (by omega) (smemc (by omega) smem0))))).trans j5))
    refine keH5 (d := 9) (by omega) (tx := X.2.1 6 1) (m := X.2.1 6 0) (nu := X.2.1 6 2) i5 (i32e (j4)) (i32e j3) (i64e j5) g0 g1 ((g43 18).trans j4) ((g43 19).trans j3) n85 (fun h6 u0 r i6 m6 v0 v1 k80 k36 k35 hr => ?_)
    have M : sMd MBm h h6 := ((((m1.sub rfl).seq (m2.sub rfl)).seq (m3.sub rfl)).seq (m5.sub rfl)).seq (m6.sub rfl)
    have far : ∀ q j, 29 ≤ q → q ≤ 34 → pI h6 q j = pI h5 q j := fun q j a b => pI_md m6 (smemc (by omega) (smemc (by omega) (smemc (by omega) (smemc (by omega) smem0))))
    have e8 : ∀ g : Nat, 8 * 0 + g = g := fun g => by omega
    refine ⟨⟨r, rfl, hr⟩, i6, M, (tl M).1, (tl M).2, ?_, im M, k80, fun k hk => absurd hk (Nat.not_lt_zero k)⟩
    have bk : ∀ g, g < S 1 → pI h6 29 g = X.2.1 0 g ∧ pI h6 30 g = X.2.1 1 g ∧ pI h6 31 g = X.2.1 2 g ∧ pI h6 32 g = X.2.1 3 g ∧ pI h6 33 g = X.2.1 4 g := fun g hg => by
      obtain ⟨r0, r1, r2, r3⟩ := hb g (by omega)
      obtain ⟨a0, a1, a2, a4, a3⟩ := j1 g hg
      have f5 : ∀ q, 29 ≤ q → q ≤ 33 → q ≠ 32 → ∀ j, pI h6 q j = pI h2 q j := fun q a b c j => (far q j a (by omega)).trans ((pI_md m5 (smemc (by omega) (smemc (by omega) smem0))).trans (pI_md m3 rfl))
      refine ⟨(f5 29 (by decide) (by decide) (by decide) g).trans (r0.symm.trans a0), (f5 30 (by decide) (by decide) (by decide) g).trans (r1.symm.trans a1), (f5 31 (by decide) (by decide) (by decide) g).trans (r2.symm.trans a2), ?_, (f5 33 (by decide) (by decide) (by decide) g).trans (r3.symm.trans a4)⟩
      rw [far 32 g (by decide) (by decide), hc g (by omega), f43]
      exact a3
    refine MS.mk (fun g hg => ?_) (fun g hg => ?_) (fun g hg => ?_) (fun g hg => ?_) (fun g hg => ?_) (fun p hp => ?_) ⟨k36, k35, v0.trans v1⟩
    · rw [e8]; exact (bk g hg).1
    · rw [e8]; exact (bk g hg).2.1
    · rw [e8]; exact (bk g hg).2.2.1
    · rw [e8]; exact (bk g hg).2.2.2.1
    · rw [e8]; exact (bk g hg).2.2.2.2
    · rw [show 10 * 0 + p = p from by omega, far 34 p (by decide) (by decide), hd p hp, f43]
      exact j2 p hp
  · have e1 : ¬ pI h 0 82 = 1 := by omega
    rw [if_neg e1]
    have eX : baX X (pI h 0 82) = X := if_neg e1
    rw [eX]
    exact ⟨⟨r, rfl, hr⟩, i1, m1.sub rfl, (tl (m1.sub rfl)).1, (tl (m1.sub rfl)).2, C.2.2.1.m2 m1, im (m1.sub rfl), C.2.2.2.2.md m1 rfl (fun j => smemc (by omega) smem0)⟩
/-! the first state in the reference -/
def MAf (b : Nat) : sM := [(29, 8 * b, 8 * b + 8), (30, 8 * b, 8 * b + 8), (31, 8 * b, 8 * b + 8), (32, 8 * b, 8 * b + 8), (33, 8 * b, 8 * b + 8), (34, 10 * b, 10 * b + 10), (35, b, b + 1), (36, b, b + 1)]
theorem keA_s : ((List.range 2).all fun b => (List.range 8).all (fun g => ssubB (keA1_m b g) (MAf b)) && ((List.range 10).all (fun p => ssubB (keA3_m b p) (MAf b)) && ssubB (keA4_m b) (MAf b))) = true := by decide
theorem s8b {h : zH} (hi : sInv swM h) {g : Nat} (hg : g < 8) : (0 ≤ pI h 8 g ∧ pI h 8 g ≤ 99) ∧ (0 ≤ pI h 9 g ∧ pI h 9 g ≤ 99) := by
  have t : ((List.range 8).all fun g => decide (sIv swM 8 g = (0, 99)) && decide (sIv swM 9 g = (0, 99))) = true := by decide +kernel
  have u := zall_r t hg
  simp only [Bool.and_eq_true, decide_eq_true_eq] at u
  exact ⟨sIbd hi u.1, sIbd hi u.2⟩
def firM (S : zS) (b : Nat) (h0 h : zH) (g : Nat) : Prop := pI h 29 (8 * b + g) = pI h0 8 g ∧ pI h 30 (8 * b + g) = pI h0 9 g ∧ pI h 31 (8 * b + g) = 0 ∧ pI h 32 (8 * b + g) = 0 ∧ pI h 33 (8 * b + g) = 0
theorem zAfL1 {l : Launch} {Γ : zG} {d b : Nat} (hb : b < 2) {Kp : Option Value → zH → Prop} {S : zS} {h0 : zH} : ∀ (m g : Nat) (lo : zL) (h : zH), g + m = 8 → sInv swM h → sMd (MAf b) h0 h → (∀ j, j < g → firM S b h0 h j) → zget lo 0 = some (.ref 0) → zI lo 1 (b : Int) → zI lo 2 (g : Int) →
    (∀ lo' h', sInv swM h' → sMd (MAf b) h0 h' → (∀ j, j < 8 → firM S b h0 h' j) → zget lo' 0 = some (.ref 0) → zI lo' 1 (b : Int) → zI lo' 2 0 → zX l Γ false (d + 1) (zhd 191) (zMQ' Γ false (zhd 191) Kp) 0 0 86 lo' [] h') → zX l Γ false (d + 1) (zhd 191) (zMQ' Γ false (zhd 191) Kp) 0 0 2 lo [] h
  | 0, g, lo, h, hg, hi, hm, hf, l0, l1, l2, hE => by
    have : g = 8 := by omega
    subst this
    exact keA2 (d := d) (by omega) hb hi l0 l1 l2 (fun lo' h' i1 m1 g0 g1 g2 => hE lo' h' i1 (hm.seq (m1.sub rfl)) (fun j hj => by
      have b := hf j hj
      unfold firM at b ⊢
      rw [pI_md (h' := h') m1 rfl, pI_md (h' := h') m1 rfl, pI_md (h' := h') m1 rfl, pI_md (h' := h') m1 rfl, pI_md (h' := h') m1 rfl]
      exact b) g0 g1 g2)
  | m + 1, g, lo, h, hg, hi, hm, hf, l0, l1, l2, hE => by
    have g8 : g < 8 := by omega
    have ss := zall_r keA_s hb
    simp only [Bool.and_eq_true] at ss
    have s1 := zall_r ss.1 g8
    have far : ∀ q j, q < 29 → pI h q j = pI h0 q j := fun q j a => pI_md hm (smemc (by omega) (smemc (by omega) (smemc (by omega) (smemc (by omega) (smemc (by omega) (smemc (by omega) (smemc (by omega) (smemc (by omega) smem0))))))))
    refine keA1 (d := d) (by omega) hb g8 hi (s8b hi g8).1 (s8b hi g8).2 l0 l1 l2 rfl rfl (fun lo' h' i1 m1 k33 k32 k31 k30 k29 g0 g1 g2 => ?_)
    refine zAfL1 hb m (g + 1) lo' h' (by omega) i1 (hm.seq (m1.sub s1)) (fun j hj => ?_) g0 g1 (by rw [Int.natCast_add]; exact g2) hE
    by_cases e : j = g
    · subst e
      exact ⟨k29.trans (far 8 _ (by decide)), k30.trans (far 9 _ (by decide)), k31, k32, k33⟩
    · obtain ⟨c0, c1, c2, c3, c4⟩ := hf j (by omega)
      have n : ∀ q, pI h' q (8 * b + j) = pI h q (8 * b + j) := fun q => pI_md m1 (smemc (by omega) (smemc (by omega) (smemc (by omega) (smemc (by omega) (smemc (by omega) smem0)))))
      exact ⟨(n 29).trans c0, (n 30).trans c1, (n 31).trans c2, (n 32).trans c3, (n 33).trans c4⟩
theorem zAfL2 {l : Launch} {Γ : zG} {d b : Nat} (hb : b < 2) {Kp : Option Value → zH → Prop} {S : zS} {h0 : zH} : ∀ (m p : Nat) (lo : zL) (h : zH), p + m = 10 → sInv swM h → sMd (MAf b) h0 h → (∀ j, j < 8 → firM S b h0 h j) → (∀ j, j < p → pI h 34 (10 * b + j) = 0) → zget lo 0 = some (.ref 0) → zI lo 1 (b : Int) → zI lo 2 (p : Int) →
    (∀ h', sInv swM h' → sMd (MAf b) h0 h' → (∀ j, j < 8 → firM S b h0 h' j) → (∀ j, j < 10 → pI h' 34 (10 * b + j) = 0) → pI h' 36 b = 0 → pI h' 35 b = 0 → Kp none h') → zX l Γ false (d + 1) (zhd 191) (zMQ' Γ false (zhd 191) Kp) 0 0 86 lo [] h
  | 0, p, lo, h, hg, hi, hm, hf, hc, l0, l1, l2, hE => by
    have : p = 10 := by omega
    subst this
    have ss := zall_r keA_s hb
    simp only [Bool.and_eq_true] at ss
    refine keA4 (d := d) (by omega) hb hi l0 l1 l2 (fun h' i1 m1 k36 k35 => hE h' i1 (hm.seq (m1.sub ss.2.2)) (fun j hj => ?_) (fun j hj => (pI_md m1 (smemc (by omega) (smemc (by omega) smem0))).trans (hc j hj)) k36 k35)
    have n : ∀ q, q ≤ 33 → pI h' q (8 * b + j) = pI h q (8 * b + j) := fun q a => pI_md m1 (smemc (by omega) (smemc (by omega) smem0))
    obtain ⟨c0, c1, c2, c3, c4⟩ := hf j hj
    exact ⟨(n 29 (by decide)).trans c0, (n 30 (by decide)).trans c1, (n 31 (by decide)).trans c2, (n 32 (by decide)).trans c3, (n 33 (by decide)).trans c4⟩
  | m + 1, p, lo, h, hg, hi, hm, hf, hc, l0, l1, l2, hE => by
    have ss := zall_r keA_s hb
    simp only [Bool.and_eq_true] at ss
    have s1 := zall_r ss.2.1 (k := p) (by omega)
    refine keA3 (d := d) (by omega) hb (p := p) (by omega) hi l0 l1 l2 (fun lo' h' i1 m1 k g0 g1 g2 => ?_)
    refine zAfL2 hb m (p + 1) lo' h' (by omega) i1 (hm.seq (m1.sub s1)) (fun j hj => ?_) (fun j hj => ?_) g0 g1 (by rw [Int.natCast_add]; exact g2) hE
    · have n : ∀ q, q ≤ 33 → pI h' q (8 * b + j) = pI h q (8 * b + j) := fun q a => pI_md m1 (smemc (by omega) smem0)
      obtain ⟨c0, c1, c2, c3, c4⟩ := hf j hj
      exact ⟨(n 29 (by decide)).trans c0, (n 30 (by decide)).trans c1, (n 31 (by decide)).trans c2, (n 32 (by decide)).trans c3, (n 33 (by decide)).trans c4⟩
    · by_cases e : j = p
      · subst e
        exact k
      · exact (pI_md m1 (smemc (by omega) smem0)).trans (hc j (by omega))
theorem zAfM {l : Launch} {Γ : zG} {d b : Nat} (hb : b < 2) {S : zS} {h : zH} (hi : sInv swM h) {x : Int32} (hx : x.toInt = (b : Int)) : zSem l Γ false (d + 1) (zhd 191) [.ref 0, .int x] h (fun r h' => r = none ∧ sInv swM h' ∧ sMd (MAf b) h h' ∧ (∀ g, g < 8 → firM S b h h' g) ∧ (∀ p, p < 10 → pI h' 34 (10 * b + p) = 0) ∧ pI h' 36 b = 0 ∧ pI h' 35 b = 0) := by
  refine keA0 (d := d) (by omega) hb hi hx (fun lo1 h1 i1 m1 l0 l1 l2 => ?_)
  refine zAfL1 (S := S) hb 8 0 lo1 h1 rfl i1 sMd.rf (fun j hj => absurd hj (Nat.not_lt_zero j)) l0 l1 l2 (fun lo2 h2 i2 m2 hf g0 g1 g2 => ?_)
  refine zAfL2 hb 10 0 lo2 h2 rfl i2 m2 hf (fun j hj => absurd hj (Nat.not_lt_zero j)) g0 g1 g2 (fun h3 i3 m3 hf hc k36 k35 => ⟨rfl, i3, (m1.sub rfl).seq m3, fun g hg => ?_, hc, k36, k35⟩)
  have b := hf g hg
  unfold firM at b ⊢
  rw [pI_md (h' := h1) m1 rfl, pI_md (h' := h1) m1 rfl] at b
  exact b
/-- the first state, but for the number -/
theorem bgM {b : Nat} {N : zN} {S : zS} {h h' : zH} (hT : TMt N S h) (hS : S 1 ≤ 8) (hf : ∀ g, g < 8 → firM S b h h' g) (hc : ∀ p, p < 10 → pI h' 34 (10 * b + p) = 0) (k36 : pI h' 36 b = 0) (k35 : pI h' 35 b = 0) {nu : Int} (hn : pL h' 0 65 = nu) : MS S b (stS (bgS N S) 6 2 nu) h' := by
  refine MS.mk (fun g hg => ?_) (fun g hg => ?_) (fun g hg => (hf g (by omega)).2.2.1) (fun g hg => (hf g (by omega)).2.2.2.1) (fun g hg => (hf g (by omega)).2.2.2.2) hc ⟨k36, k35, hn⟩
  · obtain ⟨-, -, q3, -, -, -⟩ := hT.2.2.2.1 g hg
    rw [(hf g (by omega)).1, q3]
    exact (if_pos hg).symm
  · obtain ⟨-, -, -, q4, -, -⟩ := hT.2.2.2.1 g hg
    rw [(hf g (by omega)).2.1, q4]
    exact (if_pos hg).symm
