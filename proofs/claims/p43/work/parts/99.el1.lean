/-! see, strike, known -/
def zAs (A : zAb) (s k : Int) : zAb := (A.1, A.2.1, ((A.2.2.1.1, A.2.2.1.2.1, A.2.2.1.2.2.1, A.2.2.1.2.2.2.1, A.2.2.1.2.2.2.2.1, s, k), A.2.2.2))
def zCsB (md : sM) : Bool := !smem md 0 1 && (md.all (fun t => !(t.1 == 1)) && (!smem md 0 2 && (!smem md 0 3 && (!smem md 43 0 && (!smem md 0 9 && (!smem md 49 0 && ctB md))))))
theorem zRC.sn {A : zAb} {f f' : zH} {md : sM} {s k : Int} (h : zRC A f) (hi : sInv swC f') (hm : sMd md f f') (hb : zCsB md = true) (h6 : pI f' 91 6 = s) (h7 : pI f' 91 7 = k) : zRC (zAs A s k) f' := by
  simp only [zCsB, Bool.and_eq_true, Bool.not_eq_true'] at hb
  obtain ⟨b1, b2, b3, b4, b5, b6, b7, b8⟩ := hb
  obtain ⟨c1, c2, c3, c4, c5, -⟩ := h.2.2.2.2.1
  exact h.tp hi hm b1 b2 ⟨⟨(pI_md hm b3).trans c1, (pI_md hm b4).trans c2, (pI_md hm b5).trans c3, (pI_md hm b6).trans c4, fun e => (pI_md hm b7).trans (c5 e), h6, h7⟩, h.2.2.2.2.2.md hm b8⟩
def zMsB (md : sM) : Bool := !smem md 0 1 && (md.all (fun t => !(t.1 == 1)) && (!smem md 0 4 && (!smem md 0 5 && (!smem md 36 0 && (!smem md 0 82 && (!smem md 43 19 && tmB md))))))
theorem zRM.sn {A : zAb} {f f' : zH} {md : sM} {s k : Int} (h : zRM A f) (hi : sInv swM f') (hm : sMd md f f') (hb : zMsB md = true) (h6 : pI f' 0 76 = s) (h7 : pI f' 0 77 = k) : zRM (zAs A s k) f' := by
  simp only [zMsB, Bool.and_eq_true, Bool.not_eq_true'] at hb
  obtain ⟨b1, b2, b3, b4, b5, b6, b7, b8⟩ := hb
  obtain ⟨c1, c2, c3, c4, c5, -⟩ := h.2.2.2.2.1
  exact h.tp hi hm b1 b2 ⟨⟨(pI_md hm b3).trans c1, (pI_md hm b4).trans c2, (pI_md hm b5).trans c3, (pI_md hm b6).trans c4, fun e => (pI_md hm b7).trans (c5 e), h6, h7⟩, h.2.2.2.2.2.md h.1 hm b8⟩
/-- what is noted keeps what is told of what was SEEN -/
theorem seenI {v : Nat} {h h' : zH} (hi : sInv swM h) (h2 : sInv swMs h') (h3 : sMd (seN_m v) h h') (hq : (0 ≤ pI h' 39 (4 * v + 1) ∧ pI h' 39 (4 * v + 1) ≤ 7) ∨ pI h' 39 (4 * v) ≤ -1) : sInv swM h' := by
  refine ⟨h2.1, h2.2.1, h2.2.2.1, fun m hm => ?_⟩
  rcases (swMs_imp m).mp hm with hm | hm
  · exact h2.2.2.2 m hm
  · subst hm
    have h0 := hi.2.2.2 _ ((swMs_imp _).mpr (Or.inr rfl))
    intro i hlt hdv a1 a2
    have hlt : i < 96 := hlt
    have hdv : i % 4 = 0 := hdv
    have a1 : 0 ≤ (h'.2.1 39 i).toInt := a1
    have a2 : (h'.2.1 39 i).toInt ≤ 99 := a2
    show 0 ≤ (h'.2.1 39 (i + 1)).toInt ∧ (h'.2.1 39 (i + 1)).toInt ≤ 7
    by_cases hv : i = 4 * v
    · subst hv
      rcases hq with hq | hq
      · exact hq
      · have hq : (h'.2.1 39 (4 * v)).toInt ≤ -1 := hq
        omega
    · have hm0 : ∀ j, (j < 4 * v ∨ 4 * v + 4 ≤ j) → h'.2.1 39 j = h.2.1 39 j := fun j hj => by
        refine (h3 39 j ?_).1
        simp only [smem, seN_m, List.any_cons, List.any_nil, Bool.or_false]
        have e1 : ((0 : Nat) == 39) = false := rfl
        have e2 : ((39 : Nat) == 39) = true := rfl
        rw [e1, e2, Bool.false_and, Bool.false_or, Bool.true_and]
        rcases hj with hj | hj
        · have : decide (4 * v ≤ j) = false := decide_eq_false (by omega)
          rw [this, Bool.false_and]
        · have : decide (j < 4 * v + 4) = false := decide_eq_false (by omega)
          rw [this, Bool.and_false]
      rw [hm0 i (by omega)] at a1 a2
      rw [hm0 (i + 1) (by omega)]
      exact h0 i hlt hdv a1 a2
theorem seNl {l : Launch} {Γ : zG} {d : Nat} {h : zH} {v : Nat} (hv : v < 24) (hi : sInv swM h) (p_sz : pI h 0 76 = (v : Int)) {x1 x2 x3 x4 : Int32} (h1 : (-1) ≤ x1.toInt ∧ x1.toInt ≤ 99) (h2 : 0 ≤ x2.toInt ∧ x2.toInt ≤ 23) (h3 : 0 ≤ x3.toInt ∧ x3.toInt ≤ 999) (h4 : 0 ≤ x4.toInt ∧ x4.toInt ≤ 1) (h5 : x2.toInt ≤ 7 ∨ x1.toInt ≤ -1) : zSem l Γ false (d + 1) (zhd 296) [.ref 0, .int x1, .int x2, .int x3, .int x4] h (fun r h' => sInv swM h' ∧ sMd (seN_m v) h h' ∧ pI h' 0 76 = (v : Int) + 1 ∧ ∃ y : Int32, r = some (.int y) ∧ y.toInt = (v : Int)) := by
  have hi' : sInv swMs h := ⟨hi.1, hi.2.1, hi.2.2.1, fun m hm => hi.2.2.2 m ((swMs_imp m).mpr (Or.inl hm))⟩
  exact seN (Nat.zero_le _) hv hi' h1 h2 h3 h4 rfl rfl rfl rfl p_sz (fun h' r_ i1 m1 e76 e3 e2 e1 e0 er => ⟨seenI hi i1 m1 (by rcases h5 with h5 | h5; exact Or.inl ⟨by omega, by omega⟩; exact Or.inr (by omega)), m1, e76, r_, rfl, er⟩)
def seA (n s t g b : Int) : Int := if s ≤ 23 ∧ 1 ≤ t ∧ t ≤ 99 ∧ 0 ≤ g ∧ g < n ∧ 0 ≤ b ∧ b ≤ 999 then s else -1
def seU (n s t g b : Int) : Int := if s ≤ 23 ∧ 1 ≤ t ∧ t ≤ 99 ∧ 0 ≤ g ∧ g < n ∧ 0 ≤ b ∧ b ≤ 999 then s + 1 else s
theorem seC_s : (List.range 2).all (fun t => zCsB (seC_m t)) = true := by decide +kernel
theorem seM_s : zMsB [(0, 2, 3)] = true ∧ (List.range 24).all (fun v => zMsB ((0, 2, 3) :: seN_m v) && (ssubB (seN_m v) ((0, 2, 3) :: seN_m v) && (ssubB [(0, 2, 3)] ((0, 2, 3) :: seN_m v) && !smem ((0, 2, 3) :: seN_m v) 0 77))) = true := by decide +kernel
theorem zseC (l : Launch) (Γ : zG) {f : zH} {A : zAb} (g : zRC A f) (hs : 0 ≤ A.2.2.1.2.2.2.2.2.1 ∧ A.2.2.1.2.2.2.2.2.1 ≤ 24) (h8 : A.2.2.2.2 1 ≤ 8) (x1 x2 x3 x4 : Int32) (hx : 0 ≤ x4.toInt ∧ x4.toInt ≤ 1) : zSem l Γ false 10 (zhd 158) [.ref 0, .int x1, .int x2, .int x3, .int x4] f (fun r f' => r = some (.int (Int32.ofInt (seA (A.2.2.2.2 1 : Int) A.2.2.1.2.2.2.2.2.1 x1.toInt x2.toInt x3.toInt))) ∧ zRC (zAs A (seU (A.2.2.2.2 1 : Int) A.2.2.1.2.2.2.2.2.1 x1.toInt x2.toInt x3.toInt) A.2.2.1.2.2.2.2.2.2) f') := by
  obtain ⟨t, ht, hC⟩ := CT.t g.2.2.2.2.2
  have k7 : ∀ f', sMd (seC_m t) f f' → pI f' 91 7 = A.2.2.1.2.2.2.2.2.2 := fun f' m => (pI_md m rfl).trans g.2.2.2.2.1.2.2.2.2.2.2
  have cb := List.all_eq_true.mp seC_s t (List.mem_range.mpr ht)
  have no : ∀ (f' : zH) (r_ : Int32), sInv swC f' → sMd (seC_m t) f f' → r_.toInt = -1 → pI f' 91 6 = A.2.2.1.2.2.2.2.2.1 → ¬ (A.2.2.1.2.2.2.2.2.1 ≤ 23 ∧ 1 ≤ x1.toInt ∧ x1.toInt ≤ 99 ∧ 0 ≤ x2.toInt ∧ x2.toInt < (A.2.2.2.2 1 : Int) ∧ 0 ≤ x3.toInt ∧ x3.toInt ≤ 999) → (some (Value.int r_) = some (.int (Int32.ofInt (seA (A.2.2.2.2 1 : Int) A.2.2.1.2.2.2.2.2.1 x1.toInt x2.toInt x3.toInt))) ∧ zRC (zAs A (seU (A.2.2.2.2 1 : Int) A.2.2.1.2.2.2.2.2.1 x1.toInt x2.toInt x3.toInt) A.2.2.1.2.2.2.2.2.2) f') := fun f' r_ i1 m1 e e6 hn => by
    unfold seA seU
    rw [if_neg hn, if_neg hn, i32of e]
    exact ⟨rfl, g.sn i1 m1 cb e6 (k7 f' m1)⟩
  refine seC (d := 9) (by decide) ht (ti := x1.toInt) (gl := x2.toInt) (be := x3.toInt) (al := x4.toInt) (n := (A.2.2.2.2 1 : Int)) (sz := A.2.2.1.2.2.2.2.2.1) g.1 (i32bd x1) (i32bd x2) (i32bd x3) hx ⟨by omega, by omega⟩ hs rfl rfl rfl rfl hC.2.1.2.1 g.2.2.2.2.1.2.2.2.2.2.1 hC.1 (fun f' r_ i1 m1 c0 e6 e => no f' r_ i1 m1 e e6 (by omega)) (fun f' r_ i1 m1 c0 c1 c2 e6 e => no f' r_ i1 m1 e e6 (by omega)) (fun f' r_ i1 m1 c0 c1 c2 c3 e6 e => no f' r_ i1 m1 e e6 (by omega)) (fun f' r_ i1 m1 c0 c1 c2 c3 c4 c5 e6 e => no f' r_ i1 m1 e e6 (by omega)) (fun f' r_ i1 m1 c0 c1 c2 c3 c4 c5 c6 c7 e6 _ _ _ _ _ e => ?_) (fun f' r_ i1 m1 c0 c1 c2 c3 c4 c5 c6 c7 e6 e => no f' r_ i1 m1 e e6 (by omega)) (fun f' r_ i1 m1 c0 c1 c2 c3 c4 c5 c6 e6 e => no f' r_ i1 m1 e e6 (by omega)) (fun f' r_ i1 m1 c0 c1 c2 c3 c4 e6 e => no f' r_ i1 m1 e e6 (by omega)) (fun f' r_ i1 m1 c0 c1 e6 e => no f' r_ i1 m1 e e6 (by omega))
  have hy : A.2.2.1.2.2.2.2.2.1 ≤ 23 ∧ 1 ≤ x1.toInt ∧ x1.toInt ≤ 99 ∧ 0 ≤ x2.toInt ∧ x2.toInt < (A.2.2.2.2 1 : Int) ∧ 0 ≤ x3.toInt ∧ x3.toInt ≤ 999 := by omega
  unfold seA seU
  rw [if_pos hy, if_pos hy, i32of e]
  exact ⟨rfl, g.sn i1 m1 cb e6 (k7 f' m1)⟩
theorem zv_se : zcvB 295 61 12 4 296 = true := by decide +kernel
theorem zseM (l : Launch) (Γ : zG) {f : zH} {A : zAb} (g : zRM A f) (hs : 0 ≤ A.2.2.1.2.2.2.2.2.1 ∧ A.2.2.1.2.2.2.2.2.1 ≤ 24) (x1 x2 x3 x4 : Int32) (hx : 0 ≤ x4.toInt ∧ x4.toInt ≤ 1) : zSem l Γ false 10 (zhd 295) [.ref 0, .int x1, .int x2, .int x3, .int x4] f (fun r f' => r = some (.int (Int32.ofInt (seA (A.2.2.2.2 1 : Int) A.2.2.1.2.2.2.2.2.1 x1.toInt x2.toInt x3.toInt))) ∧ zRM (zAs A (seU (A.2.2.2.2 1 : Int) A.2.2.1.2.2.2.2.2.1 x1.toInt x2.toInt x3.toInt) A.2.2.1.2.2.2.2.2.2) f') := by
  have hC := TM.t g.1 g.2.2.2.2.2
  have h8 := hC.2.1.2.1
  obtain ⟨s1, s2⟩ := seM_s
  have q6 := g.2.2.2.2.1.2.2.2.2.2.1
  have q7 := g.2.2.2.2.1.2.2.2.2.2.2
  have no : ∀ (f' : zH) (r_ : Int32), sInv swM f' → sMd [(0, 2, 3)] f f' → r_.toInt = -1 → ¬ (A.2.2.1.2.2.2.2.2.1 ≤ 23 ∧ 1 ≤ x1.toInt ∧ x1.toInt ≤ 99 ∧ 0 ≤ x2.toInt ∧ x2.toInt < (A.2.2.2.2 1 : Int) ∧ 0 ≤ x3.toInt ∧ x3.toInt ≤ 999) → (some (Value.int r_) = some (.int (Int32.ofInt (seA (A.2.2.2.2 1 : Int) A.2.2.1.2.2.2.2.2.1 x1.toInt x2.toInt x3.toInt))) ∧ zRM (zAs A (seU (A.2.2.2.2 1 : Int) A.2.2.1.2.2.2.2.2.1 x1.toInt x2.toInt x3.toInt) A.2.2.1.2.2.2.2.2.2) f') := fun f' r_ i1 m1 e hn => by
    unfold seA seU
    rw [if_neg hn, if_neg hn, i32of e]
    exact ⟨rfl, g.sn i1 m1 s1 ((pI_md m1 rfl).trans q6) ((pI_md m1 rfl).trans q7)⟩
  by_cases h24 : A.2.2.1.2.2.2.2.2.1 = 24
  · exact seX (d := 9) (by decide) (ti := x1.toInt) (gl := x2.toInt) (be := x3.toInt) (al := x4.toInt) (n := (A.2.2.2.2 1 : Int)) g.1 (i32bd x1) (i32bd x2) (i32bd x3) hx ⟨by omega, by omega⟩ rfl rfl rfl rfl hC.1.2.1 (q6.trans h24) (fun f' r_ i1 m1 _ e => no f' r_ i1 m1 e (by omega))
  obtain ⟨v, hv⟩ : ∃ v : Nat, A.2.2.1.2.2.2.2.2.1 = (v : Int) := ⟨A.2.2.1.2.2.2.2.2.1.toNat, by omega⟩
  have hv24 : v < 24 := by omega
  have s3 := List.all_eq_true.mp s2 v (List.mem_range.mpr hv24)
  simp only [Bool.and_eq_true, Bool.not_eq_true'] at s3
  obtain ⟨s4, s5, s6, s7⟩ := s3
  have yes : ∀ (f' : zH) (lo' : zL) (y0 y1 y2 y3 : Int32), sInv swM f' → sMd [(0, 2, 3)] f f' → 1 ≤ x1.toInt → x1.toInt ≤ 99 → 0 ≤ x2.toInt → x2.toInt < (A.2.2.2.2 1 : Int) → 0 ≤ x3.toInt → x3.toInt ≤ 999 → (0 ≤ y0.toInt ∧ y0.toInt ≤ 1) → y1.toInt = x3.toInt → y2.toInt = x2.toInt → y3.toInt = x1.toInt → zX l Γ false 10 (zhd 295) (zMQ' Γ false (zhd 295) (fun r f' => r = some (.int (Int32.ofInt (seA (A.2.2.2.2 1 : Int) A.2.2.1.2.2.2.2.2.1 x1.toInt x2.toInt x3.toInt))) ∧ zRM (zAs A (seU (A.2.2.2.2 1 : Int) A.2.2.1.2.2.2.2.2.1 x1.toInt x2.toInt x3.toInt) A.2.2.1.2.2.2.2.2.2) f')) 0 0 61 lo' [.int y0, .int y1, .int y2, .int y3, .ref 0] f' := by
    intro f' lo' y0 y1 y2 y3 i1 m1 c1 c2 c3 c4 c5 c6 h0 e1 e2 e3
    refine zcallV (mi := 295) (as := [.int y0, .int y1, .int y2, .int y3]) zv_se rfl (by rw [i1.1]; rfl) ?_
    refine (seNl (d := 8) hv24 i1 ((pI_md m1 rfl).trans (q6.trans hv)) (x1 := y3) (x2 := y2) (x3 := y1) (x4 := y0) (by omega) (by omega) (by omega) h0 (by omega)).mono ?_
    rintro r f2 ⟨i2, m2, e76, y, rfl, ey⟩
    refine seR (d := 9) (by decide) (yv := y.toInt) i2 (i32bd y) rfl (fun f3 r_ i3 m3 e => ?_)
    have M : sMd ((0, 2, 3) :: seN_m v) f f3 := ((m1.sub s6).seq (m2.sub s5)).seq (m3.sub rfl)
    have hy : A.2.2.1.2.2.2.2.2.1 ≤ 23 ∧ 1 ≤ x1.toInt ∧ x1.toInt ≤ 99 ∧ 0 ≤ x2.toInt ∧ x2.toInt < (A.2.2.2.2 1 : Int) ∧ 0 ≤ x3.toInt ∧ x3.toInt ≤ 999 := by omega
    unfold seA seU
    rw [if_pos hy, if_pos hy, i32of (show r_.toInt = A.2.2.1.2.2.2.2.2.1 from by omega)]
    exact ⟨rfl, g.sn i3 M s4 ((pI_md m3 rfl).trans (by omega)) ((pI_md M s7).trans q7)⟩
  exact seM (d := 9) (by decide) hv24 (ti := x1.toInt) (gl := x2.toInt) (be := x3.toInt) (al := x4.toInt) (n := (A.2.2.2.2 1 : Int)) g.1 (i32bd x1) (i32bd x2) (i32bd x3) hx ⟨by omega, by omega⟩ rfl rfl rfl rfl hC.1.2.1 (q6.trans hv) (fun lo' f' y0 y1 y2 y3 i1 m1 c0 c1 c2 c3 c4 c5 _ _ e0 e1 e2 e3 => yes f' lo' y0 y1 y2 y3 i1 m1 (by omega) (by omega) (by omega) (by omega) (by omega) (by omega) (by omega) e1 e2 e3) (fun lo' f' y0 y1 y2 y3 i1 m1 c0 c1 c2 c3 c4 c5 _ _ e0 e1 e2 e3 => yes f' lo' y0 y1 y2 y3 i1 m1 (by omega) (by omega) (by omega) (by omega) (by omega) (by omega) (by omega) e1 e2 e3) (fun f' r_ i1 m1 c0 _ e => no f' r_ i1 m1 e (by omega)) (fun f' r_ i1 m1 c0 c1 _ e => no f' r_ i1 m1 e (by omega)) (fun f' r_ i1 m1 c0 c1 c2 _ e => no f' r_ i1 m1 e (by omega)) (fun f' r_ i1 m1 c0 c1 c2 c3 _ e => no f' r_ i1 m1 e (by omega)) (fun f' r_ i1 m1 c0 c1 c2 c3 c4 _ e => no f' r_ i1 m1 e (by omega)) (fun f' r_ i1 m1 c0 c1 c2 c3 c4 c5 _ e => no f' r_ i1 m1 e (by omega))
theorem zpr32 (l : Launch) {f1 f2 : zH} {A : zAb} (g1 : zRC A f1) (g2 : zRM A f2) (hb : zB4 A.2.2.1) (x1 x2 x3 x4 : Int32) (hx : 0 ≤ x4.toInt ∧ x4.toInt ≤ 1) : ∃ (a : Int32) (A' : zAb), zB4 A'.2.2.1 ∧ (∀ Γ : zG, zSem l Γ false 10 (zhd 158) [.ref 0, .int x1, .int x2, .int x3, .int x4] f1 (fun r f => r = some (.int a) ∧ zRC A' f)) ∧ (∀ Γ : zG, zSem l Γ false 10 (zhd 295) [.ref 0, .int x1, .int x2, .int x3, .int x4] f2 (fun r f => r = some (.int a) ∧ zRM A' f)) := by
  have hC := TM.t g2.1 g2.2.2.2.2.2
  obtain ⟨b0, b1, b2, b3, b4, b5, b6, b7⟩ := hb
  refine ⟨_, zAs A (seU (A.2.2.2.2 1 : Int) A.2.2.1.2.2.2.2.2.1 x1.toInt x2.toInt x3.toInt) A.2.2.1.2.2.2.2.2.2, ⟨b0, b1, b2, b3, ?_, ?_, b6, b7⟩, fun Γ => zseC l Γ g1 ⟨b4, b5⟩ hC.2.1.2.1 x1 x2 x3 x4 hx, fun Γ => zseM l Γ g2 ⟨b4, b5⟩ x1 x2 x3 x4 hx⟩
  · show 0 ≤ seU (A.2.2.2.2 1 : Int) A.2.2.1.2.2.2.2.2.1 x1.toInt x2.toInt x3.toInt
    unfold seU
    split <;> omega
  · show seU (A.2.2.2.2 1 : Int) A.2.2.1.2.2.2.2.2.1 x1.toInt x2.toInt x3.toInt ≤ 24
    unfold seU
    split <;> omega
/-! strike -/
def skA (s k : Int) : Int := if s ≤ 23 ∧ 0 ≤ k ∧ k < s then s else -1
def skU (s k : Int) : Int := if s ≤ 23 ∧ 0 ≤ k ∧ k < s then s + 1 else s
theorem skC_s : zCsB skC_m = true := by decide +kernel
theorem zskC (l : Launch) (Γ : zG) {f : zH} {A : zAb} (g : zRC A f) (hs : 0 ≤ A.2.2.1.2.2.2.2.2.1 ∧ A.2.2.1.2.2.2.2.2.1 ≤ 24) (x1 : Int32) : zSem l Γ false 10 (zhd 160) [.ref 0, .int x1] f (fun r f' => r = some (.int (Int32.ofInt (skA A.2.2.1.2.2.2.2.2.1 x1.toInt))) ∧ zRC (zAs A (skU A.2.2.1.2.2.2.2.2.1 x1.toInt) A.2.2.1.2.2.2.2.2.2) f') := by
  have k7 : ∀ f', sMd skC_m f f' → pI f' 91 7 = A.2.2.1.2.2.2.2.2.2 := fun f' m => (pI_md m rfl).trans g.2.2.2.2.1.2.2.2.2.2.2
  have no : ∀ (f' : zH) (r_ : Int32), sInv swC f' → sMd skC_m f f' → r_.toInt = -1 → pI f' 91 6 = A.2.2.1.2.2.2.2.2.1 → ¬ (A.2.2.1.2.2.2.2.2.1 ≤ 23 ∧ 0 ≤ x1.toInt ∧ x1.toInt < A.2.2.1.2.2.2.2.2.1) → (some (Value.int r_) = some (.int (Int32.ofInt (skA A.2.2.1.2.2.2.2.2.1 x1.toInt))) ∧ zRC (zAs A (skU A.2.2.1.2.2.2.2.2.1 x1.toInt) A.2.2.1.2.2.2.2.2.2) f') := fun f' r_ i1 m1 e e6 hn => by
    unfold skA skU
    rw [if_neg hn, if_neg hn, i32of e]
    exact ⟨rfl, g.sn i1 m1 skC_s e6 (k7 f' m1)⟩
  refine skC (d := 9) (by decide) (ki := x1.toInt) (sz := A.2.2.1.2.2.2.2.2.1) g.1 (i32bd x1) hs rfl g.2.2.2.2.1.2.2.2.2.2.1 (fun f' r_ i1 m1 c0 e6 e => no f' r_ i1 m1 e e6 (by omega)) (fun f' r_ i1 m1 c0 c1 e6 e => no f' r_ i1 m1 e e6 (by omega)) (fun f' r_ i1 m1 c0 c1 c2 e6 _ e => ?_) (fun f' r_ i1 m1 c0 c1 c2 e6 e => no f' r_ i1 m1 e e6 (by omega))
  have hy : A.2.2.1.2.2.2.2.2.1 ≤ 23 ∧ 0 ≤ x1.toInt ∧ x1.toInt < A.2.2.1.2.2.2.2.2.1 := by omega
  unfold skA skU
  rw [if_pos hy, if_pos hy, i32of e]
  exact ⟨rfl, g.sn i1 m1 skC_s e6 (k7 f' m1)⟩
theorem zv_sk : zcvB 297 35 12 4 296 = true := by decide +kernel
theorem zskM (l : Launch) (Γ : zG) {f : zH} {A : zAb} (g : zRM A f) (hs : 0 ≤ A.2.2.1.2.2.2.2.2.1 ∧ A.2.2.1.2.2.2.2.2.1 ≤ 24) (x1 : Int32) : zSem l Γ false 10 (zhd 297) [.ref 0, .int x1] f (fun r f' => r = some (.int (Int32.ofInt (skA A.2.2.1.2.2.2.2.2.1 x1.toInt))) ∧ zRM (zAs A (skU A.2.2.1.2.2.2.2.2.1 x1.toInt) A.2.2.1.2.2.2.2.2.2) f') := by
  obtain ⟨s1, s2⟩ := seM_s
  have q6 := g.2.2.2.2.1.2.2.2.2.2.1
  have q7 := g.2.2.2.2.1.2.2.2.2.2.2
  have no : ∀ (f' : zH) (r_ : Int32), sInv swM f' → sMd [(0, 2, 3)] f f' → r_.toInt = -1 → ¬ (A.2.2.1.2.2.2.2.2.1 ≤ 23 ∧ 0 ≤ x1.toInt ∧ x1.toInt < A.2.2.1.2.2.2.2.2.1) → (some (Value.int r_) = some (.int (Int32.ofInt (skA A.2.2.1.2.2.2.2.2.1 x1.toInt))) ∧ zRM (zAs A (skU A.2.2.1.2.2.2.2.2.1 x1.toInt) A.2.2.1.2.2.2.2.2.2) f') := fun f' r_ i1 m1 e hn => by
    unfold skA skU
    rw [if_neg hn, if_neg hn, i32of e]
    exact ⟨rfl, g.sn i1 m1 s1 ((pI_md m1 rfl).trans q6) ((pI_md m1 rfl).trans q7)⟩
  by_cases h24 : A.2.2.1.2.2.2.2.2.1 = 24
  · exact skX (d := 9) (by decide) (ki := x1.toInt) g.1 (i32bd x1) rfl (q6.trans h24) (fun f' r_ i1 m1 _ e => no f' r_ i1 m1 e (by omega))
  obtain ⟨v, hv⟩ : ∃ v : Nat, A.2.2.1.2.2.2.2.2.1 = (v : Int) := ⟨A.2.2.1.2.2.2.2.2.1.toNat, by omega⟩
  have hv24 : v < 24 := by omega
  have s3 := List.all_eq_true.mp s2 v (List.mem_range.mpr hv24)
  simp only [Bool.and_eq_true, Bool.not_eq_true'] at s3
  obtain ⟨s4, s5, s6, s7⟩ := s3
  refine skM (d := 9) (by decide) hv24 (ki := x1.toInt) g.1 (i32bd x1) rfl (q6.trans hv) (fun lo' f' y0 y1 y2 y3 i1 m1 c0 c1 _ e0 e1 e2 e3 => ?_) (fun f' r_ i1 m1 c0 _ e => no f' r_ i1 m1 e (by omega)) (fun f' r_ i1 m1 c0 c1 _ e => no f' r_ i1 m1 e (by omega))
  refine zcallV (mi := 297) (as := [.int y0, .int y1, .int y2, .int y3]) zv_sk rfl (by rw [i1.1]; rfl) ?_
  refine (seNl (d := 8) hv24 i1 ((pI_md m1 rfl).trans (q6.trans hv)) (x1 := y3) (x2 := y2) (x3 := y1) (x4 := y0) (by omega) (by omega) (by omega) (by omega) (by omega)).mono ?_
  rintro r f2 ⟨i2, m2, e76, y, rfl, ey⟩
  refine skR (d := 9) (by decide) (yv := y.toInt) i2 (i32bd y) rfl (fun f3 r_ i3 m3 e => ?_)
  have M : sMd ((0, 2, 3) :: seN_m v) f f3 := ((m1.sub s6).seq (m2.sub s5)).seq (m3.sub rfl)
  have hy : A.2.2.1.2.2.2.2.2.1 ≤ 23 ∧ 0 ≤ x1.toInt ∧ x1.toInt < A.2.2.1.2.2.2.2.2.1 := by omega
  unfold skA skU
  rw [if_pos hy, if_pos hy, i32of (show r_.toInt = A.2.2.1.2.2.2.2.2.1 from by omega)]
  exact ⟨rfl, g.sn i3 M s4 ((pI_md m3 rfl).trans (by omega)) ((pI_md M s7).trans q7)⟩
theorem zpr33 (l : Launch) {f1 f2 : zH} {A : zAb} (g1 : zRC A f1) (g2 : zRM A f2) (hb : zB4 A.2.2.1) (x1 : Int32) : ∃ (a : Int32) (A' : zAb), zB4 A'.2.2.1 ∧ (∀ Γ : zG, zSem l Γ false 10 (zhd 160) [.ref 0, .int x1] f1 (fun r f => r = some (.int a) ∧ zRC A' f)) ∧ (∀ Γ : zG, zSem l Γ false 10 (zhd 297) [.ref 0, .int x1] f2 (fun r f => r = some (.int a) ∧ zRM A' f)) := by
  obtain ⟨b0, b1, b2, b3, b4, b5, b6, b7⟩ := hb
  refine ⟨_, zAs A (skU A.2.2.1.2.2.2.2.2.1 x1.toInt) A.2.2.1.2.2.2.2.2.2, ⟨b0, b1, b2, b3, ?_, ?_, b6, b7⟩, fun Γ => zskC l Γ g1 ⟨b4, b5⟩ x1, fun Γ => zskM l Γ g2 ⟨b4, b5⟩ x1⟩
  · show 0 ≤ skU A.2.2.1.2.2.2.2.2.1 x1.toInt
    unfold skU
    split <;> omega
  · show skU A.2.2.1.2.2.2.2.2.1 x1.toInt ≤ 24
    unfold skU
    split <;> omega
/-! known -/
def knA (s k : Int) : Int := if -1 ≤ k ∧ k ≤ s then 1 else 0
def knU (s b k : Int) : Int := if -1 ≤ k ∧ k ≤ s then k else b
theorem knC_s : zCsB knC_m = true := by decide +kernel
theorem knM_s : zMsB [(0, 2, 3), (0, 77, 78)] = true := by decide +kernel
theorem zknC (l : Launch) (Γ : zG) {f : zH} {A : zAb} (g : zRC A f) (hs : 0 ≤ A.2.2.1.2.2.2.2.2.1 ∧ A.2.2.1.2.2.2.2.2.1 ≤ 24) (hk : -1 ≤ A.2.2.1.2.2.2.2.2.2 ∧ A.2.2.1.2.2.2.2.2.2 ≤ 24) (x1 : Int32) : zSem l Γ false 10 (zhd 162) [.ref 0, .int x1] f (fun r f' => r = some (.int (Int32.ofInt (knA A.2.2.1.2.2.2.2.2.1 x1.toInt))) ∧ zRC (zAs A A.2.2.1.2.2.2.2.2.1 (knU A.2.2.1.2.2.2.2.2.1 A.2.2.1.2.2.2.2.2.2 x1.toInt)) f') := by
  have k6 : ∀ f', sMd knC_m f f' → pI f' 91 6 = A.2.2.1.2.2.2.2.2.1 := fun f' m => (pI_md m rfl).trans g.2.2.2.2.1.2.2.2.2.2.1
  have no : ∀ (f' : zH) (r_ : Int32), sInv swC f' → sMd knC_m f f' → r_.toInt = 0 → pI f' 91 7 = A.2.2.1.2.2.2.2.2.2 → ¬ (-1 ≤ x1.toInt ∧ x1.toInt ≤ A.2.2.1.2.2.2.2.2.1) → (some (Value.int r_) = some (.int (Int32.ofInt (knA A.2.2.1.2.2.2.2.2.1 x1.toInt))) ∧ zRC (zAs A A.2.2.1.2.2.2.2.2.1 (knU A.2.2.1.2.2.2.2.2.1 A.2.2.1.2.2.2.2.2.2 x1.toInt)) f') := fun f' r_ i1 m1 e e7 hn => by
    unfold knA knU
    rw [if_neg hn, if_neg hn, i32of e]
    exact ⟨rfl, g.sn i1 m1 knC_s (k6 f' m1) e7⟩
  refine knC (d := 9) (by decide) (ki := x1.toInt) (sz := A.2.2.1.2.2.2.2.2.1) (kb := A.2.2.1.2.2.2.2.2.2) g.1 (i32bd x1) hs hk rfl g.2.2.2.2.1.2.2.2.2.2.1 g.2.2.2.2.1.2.2.2.2.2.2 (fun f' r_ i1 m1 c0 e7 e => no f' r_ i1 m1 e e7 (by omega)) (fun f' r_ i1 m1 c0 c1 e7 e => ?_) (fun f' r_ i1 m1 c0 c1 e7 e => no f' r_ i1 m1 e e7 (by omega))
  have hy : -1 ≤ x1.toInt ∧ x1.toInt ≤ A.2.2.1.2.2.2.2.2.1 := by omega
  unfold knA knU
  rw [if_pos hy, if_pos hy, i32of e]
  exact ⟨rfl, g.sn i1 m1 knC_s (k6 f' m1) e7⟩
theorem zknM (l : Launch) (Γ : zG) {f : zH} {A : zAb} (g : zRM A f) (hs : 0 ≤ A.2.2.1.2.2.2.2.2.1 ∧ A.2.2.1.2.2.2.2.2.1 ≤ 24) (hk : -1 ≤ A.2.2.1.2.2.2.2.2.2 ∧ A.2.2.1.2.2.2.2.2.2 ≤ 24) (x1 : Int32) : zSem l Γ false 10 (zhd 298) [.ref 0, .int x1] f (fun r f' => r = some (.int (Int32.ofInt (knA A.2.2.1.2.2.2.2.2.1 x1.toInt))) ∧ zRM (zAs A A.2.2.1.2.2.2.2.2.1 (knU A.2.2.1.2.2.2.2.2.1 A.2.2.1.2.2.2.2.2.2 x1.toInt)) f') := by
  have q6 := g.2.2.2.2.1.2.2.2.2.2.1
  have q7 := g.2.2.2.2.1.2.2.2.2.2.2
  obtain ⟨v, hv⟩ : ∃ v : Nat, A.2.2.1.2.2.2.2.2.1 = (v : Int) := ⟨A.2.2.1.2.2.2.2.2.1.toNat, by omega⟩
  have no : ∀ (f' : zH) (r_ : Int32), sInv swM f' → sMd (knM_m v) f f' → r_.toInt = 0 → pI f' 0 77 = A.2.2.1.2.2.2.2.2.2 → ¬ (-1 ≤ x1.toInt ∧ x1.toInt ≤ A.2.2.1.2.2.2.2.2.1) → (some (Value.int r_) = some (.int (Int32.ofInt (knA A.2.2.1.2.2.2.2.2.1 x1.toInt))) ∧ zRM (zAs A A.2.2.1.2.2.2.2.2.1 (knU A.2.2.1.2.2.2.2.2.1 A.2.2.1.2.2.2.2.2.2 x1.toInt)) f') := fun f' r_ i1 m1 e e7 hn => by
    unfold knA knU
    rw [if_neg hn, if_neg hn, i32of e]
    exact ⟨rfl, g.sn i1 m1 knM_s ((pI_md m1 rfl).trans q6) e7⟩
  refine knM (d := 9) (by decide) (v := v) (by omega) (ki := x1.toInt) (kb := A.2.2.1.2.2.2.2.2.2) g.1 (i32bd x1) hk rfl (q6.trans hv) q7 (fun f' r_ i1 m1 c0 _ e7 e => no f' r_ i1 m1 e e7 (by omega)) (fun f' r_ i1 m1 c0 c1 _ e7 e => no f' r_ i1 m1 e e7 (by omega)) (fun f' r_ i1 m1 c0 c1 e7 _ e => ?_)
  have hy : -1 ≤ x1.toInt ∧ x1.toInt ≤ A.2.2.1.2.2.2.2.2.1 := by omega
  unfold knA knU
  rw [if_pos hy, if_pos hy, i32of e]
  exact ⟨rfl, g.sn i1 m1 knM_s ((pI_md m1 rfl).trans q6) e7⟩
theorem zpr34 (l : Launch) {f1 f2 : zH} {A : zAb} (g1 : zRC A f1) (g2 : zRM A f2) (hb : zB4 A.2.2.1) (x1 : Int32) : ∃ (a : Int32) (A' : zAb), zB4 A'.2.2.1 ∧ (∀ Γ : zG, zSem l Γ false 10 (zhd 162) [.ref 0, .int x1] f1 (fun r f => r = some (.int a) ∧ zRC A' f)) ∧ (∀ Γ : zG, zSem l Γ false 10 (zhd 298) [.ref 0, .int x1] f2 (fun r f => r = some (.int a) ∧ zRM A' f)) := by
  obtain ⟨b0, b1, b2, b3, b4, b5, b6, b7⟩ := hb
  refine ⟨_, zAs A A.2.2.1.2.2.2.2.2.1 (knU A.2.2.1.2.2.2.2.2.1 A.2.2.1.2.2.2.2.2.2 x1.toInt), ⟨b0, b1, b2, b3, b4, b5, ?_, ?_⟩, fun Γ => zknC l Γ g1 ⟨b4, b5⟩ ⟨b6, b7⟩ x1, fun Γ => zknM l Γ g2 ⟨b4, b5⟩ ⟨b6, b7⟩ x1⟩
  · show -1 ≤ knU A.2.2.1.2.2.2.2.2.1 A.2.2.1.2.2.2.2.2.2 x1.toInt
    unfold knU
    split <;> omega
  · show knU A.2.2.1.2.2.2.2.2.1 A.2.2.1.2.2.2.2.2.2 x1.toInt ≤ 24
    unfold knU
    split <;> omega
