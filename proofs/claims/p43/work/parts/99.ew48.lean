/-! see, strike, known, with the states -/
def zGn (A : zGb) (s k : Int) : zGb := (zAs A.1 s k, A.2)
def zgsC (md : sM) : Bool := zCsB md && srcB md
def zgsM (md : sM) : Bool := zMsB md && (srmB md && !smem md 0 65)
theorem zGC.sn {A : zGb} {f f' : zH} {md : sM} {s k : Int} (h : zGC A f) (hi : sInv swC f') (hm : sMd md f f') (hb : zgsC md = true) (h6 : pI f' 91 6 = s) (h7 : pI f' 91 7 = k) : zGC (zGn A s k) f' := by
  simp only [zgsC, Bool.and_eq_true] at hb
  exact ⟨h.1.sn hi hm hb.1 h6 h7, h.2.md hm hb.2⟩
theorem zGM.sn {A : zGb} {f f' : zH} {md : sM} {s k : Int} (h : zGM A f) (hi : sInv swM f') (hm : sMd md f f') (hb : zgsM md = true) (h6 : pI f' 0 76 = s) (h7 : pI f' 0 77 = k) : zGM (zGn A s k) f' := by
  simp only [zgsM, Bool.and_eq_true, Bool.not_eq_true'] at hb
  exact ⟨h.1.sn hi hm hb.1 h6 h7, h.2.md h.1.s1 hm hb.2.1 (pL_md hm hb.2.2)⟩
theorem seC_g : (List.range 2).all (fun t => zgsC (seC_m t)) = true := by decide +kernel
theorem seM_g : zgsM [(0, 2, 3)] = true ∧ (List.range 24).all (fun v => zgsM ((0, 2, 3) :: seN_m v) && (ssubB (seN_m v) ((0, 2, 3) :: seN_m v) && (ssubB [(0, 2, 3)] ((0, 2, 3) :: seN_m v) && !smem ((0, 2, 3) :: seN_m v) 0 77))) = true := by decide +kernel
theorem skC_g : zgsC skC_m = true := by decide +kernel
theorem knC_g : zgsC knC_m = true := by decide +kernel
theorem knM_g : zgsM [(0, 2, 3), (0, 77, 78)] = true := by decide +kernel
theorem zseCg (l : Launch) (Γ : zG) {f : zH} {A : zGb} (g : zGC A f) (hs : 0 ≤ A.1.2.2.1.2.2.2.2.2.1 ∧ A.1.2.2.1.2.2.2.2.2.1 ≤ 24) (h8 : A.1.2.2.2.2 1 ≤ 8) (x1 x2 x3 x4 : Int32) (hx : 0 ≤ x4.toInt ∧ x4.toInt ≤ 1) : zSem l Γ false 10 (zhd 158) [.ref 0, .int x1, .int x2, .int x3, .int x4] f (fun r f' => r = some (.int (Int32.ofInt (seA (A.1.2.2.2.2 1 : Int) A.1.2.2.1.2.2.2.2.2.1 x1.toInt x2.toInt x3.toInt))) ∧ zGC (zGn A (seU (A.1.2.2.2.2 1 : Int) A.1.2.2.1.2.2.2.2.2.1 x1.toInt x2.toInt x3.toInt) A.1.2.2.1.2.2.2.2.2.2) f') := by
  obtain ⟨t, ht, hC⟩ := CT.t g.1.2.2.2.2.2
  have k7 : ∀ f', sMd (seC_m t) f f' → pI f' 91 7 = A.1.2.2.1.2.2.2.2.2.2 := fun f' m => (pI_md m rfl).trans g.1.2.2.2.2.1.2.2.2.2.2.2
  have cb := List.all_eq_true.mp seC_g t (List.mem_range.mpr ht)
  have no : ∀ (f' : zH) (r_ : Int32), sInv swC f' → sMd (seC_m t) f f' → r_.toInt = -1 → pI f' 91 6 = A.1.2.2.1.2.2.2.2.2.1 → ¬ (A.1.2.2.1.2.2.2.2.2.1 ≤ 23 ∧ 1 ≤ x1.toInt ∧ x1.toInt ≤ 99 ∧ 0 ≤ x2.toInt ∧ x2.toInt < (A.1.2.2.2.2 1 : Int) ∧ 0 ≤ x3.toInt ∧ x3.toInt ≤ 999) → (some (Value.int r_) = some (.int (Int32.ofInt (seA (A.1.2.2.2.2 1 : Int) A.1.2.2.1.2.2.2.2.2.1 x1.toInt x2.toInt x3.toInt))) ∧ zGC (zGn A (seU (A.1.2.2.2.2 1 : Int) A.1.2.2.1.2.2.2.2.2.1 x1.toInt x2.toInt x3.toInt) A.1.2.2.1.2.2.2.2.2.2) f') := fun f' r_ i1 m1 e e6 hn => by
    unfold seA seU
    rw [if_neg hn, if_neg hn, i32of e]
    exact ⟨rfl, g.sn i1 m1 cb e6 (k7 f' m1)⟩
  refine seC (d := 9) (by decide) ht (ti := x1.toInt) (gl := x2.toInt) (be := x3.toInt) (al := x4.toInt) (n := (A.1.2.2.2.2 1 : Int)) (sz := A.1.2.2.1.2.2.2.2.2.1) g.1.1 (i32bd x1) (i32bd x2) (i32bd x3) hx ⟨by omega, by omega⟩ hs rfl rfl rfl rfl hC.2.1.2.1 g.1.2.2.2.2.1.2.2.2.2.2.1 hC.1 (fun f' r_ i1 m1 c0 e6 e => no f' r_ i1 m1 e e6 (by omega)) (fun f' r_ i1 m1 c0 c1 c2 e6 e => no f' r_ i1 m1 e e6 (by omega)) (fun f' r_ i1 m1 c0 c1 c2 c3 e6 e => no f' r_ i1 m1 e e6 (by omega)) (fun f' r_ i1 m1 c0 c1 c2 c3 c4 c5 e6 e => no f' r_ i1 m1 e e6 (by omega)) (fun f' r_ i1 m1 c0 c1 c2 c3 c4 c5 c6 c7 e6 _ _ _ _ _ e => ?_) (fun f' r_ i1 m1 c0 c1 c2 c3 c4 c5 c6 c7 e6 e => no f' r_ i1 m1 e e6 (by omega)) (fun f' r_ i1 m1 c0 c1 c2 c3 c4 c5 c6 e6 e => no f' r_ i1 m1 e e6 (by omega)) (fun f' r_ i1 m1 c0 c1 c2 c3 c4 e6 e => no f' r_ i1 m1 e e6 (by omega)) (fun f' r_ i1 m1 c0 c1 e6 e => no f' r_ i1 m1 e e6 (by omega))
  have hy : A.1.2.2.1.2.2.2.2.2.1 ≤ 23 ∧ 1 ≤ x1.toInt ∧ x1.toInt ≤ 99 ∧ 0 ≤ x2.toInt ∧ x2.toInt < (A.1.2.2.2.2 1 : Int) ∧ 0 ≤ x3.toInt ∧ x3.toInt ≤ 999 := by omega
  unfold seA seU
  rw [if_pos hy, if_pos hy, i32of e]
  exact ⟨rfl, g.sn i1 m1 cb e6 (k7 f' m1)⟩
theorem zseMg (l : Launch) (Γ : zG) {f : zH} {A : zGb} (g : zGM A f) (hs : 0 ≤ A.1.2.2.1.2.2.2.2.2.1 ∧ A.1.2.2.1.2.2.2.2.2.1 ≤ 24) (x1 x2 x3 x4 : Int32) (hx : 0 ≤ x4.toInt ∧ x4.toInt ≤ 1) : zSem l Γ false 10 (zhd 295) [.ref 0, .int x1, .int x2, .int x3, .int x4] f (fun r f' => r = some (.int (Int32.ofInt (seA (A.1.2.2.2.2 1 : Int) A.1.2.2.1.2.2.2.2.2.1 x1.toInt x2.toInt x3.toInt))) ∧ zGM (zGn A (seU (A.1.2.2.2.2 1 : Int) A.1.2.2.1.2.2.2.2.2.1 x1.toInt x2.toInt x3.toInt) A.1.2.2.1.2.2.2.2.2.2) f') := by
  have hC := TM.t g.1.1 g.1.2.2.2.2.2
  have h8 := hC.2.1.2.1
  obtain ⟨s1, s2⟩ := seM_g
  have q6 := g.1.2.2.2.2.1.2.2.2.2.2.1
  have q7 := g.1.2.2.2.2.1.2.2.2.2.2.2
  have no : ∀ (f' : zH) (r_ : Int32), sInv swM f' → sMd [(0, 2, 3)] f f' → r_.toInt = -1 → ¬ (A.1.2.2.1.2.2.2.2.2.1 ≤ 23 ∧ 1 ≤ x1.toInt ∧ x1.toInt ≤ 99 ∧ 0 ≤ x2.toInt ∧ x2.toInt < (A.1.2.2.2.2 1 : Int) ∧ 0 ≤ x3.toInt ∧ x3.toInt ≤ 999) → (some (Value.int r_) = some (.int (Int32.ofInt (seA (A.1.2.2.2.2 1 : Int) A.1.2.2.1.2.2.2.2.2.1 x1.toInt x2.toInt x3.toInt))) ∧ zGM (zGn A (seU (A.1.2.2.2.2 1 : Int) A.1.2.2.1.2.2.2.2.2.1 x1.toInt x2.toInt x3.toInt) A.1.2.2.1.2.2.2.2.2.2) f') := fun f' r_ i1 m1 e hn => by
    unfold seA seU
    rw [if_neg hn, if_neg hn, i32of e]
    exact ⟨rfl, g.sn i1 m1 s1 ((pI_md m1 rfl).trans q6) ((pI_md m1 rfl).trans q7)⟩
  by_cases h24 : A.1.2.2.1.2.2.2.2.2.1 = 24
  · exact seX (d := 9) (by decide) (ti := x1.toInt) (gl := x2.toInt) (be := x3.toInt) (al := x4.toInt) (n := (A.1.2.2.2.2 1 : Int)) g.1.1 (i32bd x1) (i32bd x2) (i32bd x3) hx ⟨by omega, by omega⟩ rfl rfl rfl rfl hC.1.2.1 (q6.trans h24) (fun f' r_ i1 m1 _ e => no f' r_ i1 m1 e (by omega))
  obtain ⟨v, hv⟩ : ∃ v : Nat, A.1.2.2.1.2.2.2.2.2.1 = (v : Int) := ⟨A.1.2.2.1.2.2.2.2.2.1.toNat, by omega⟩
  have hv24 : v < 24 := by omega
  have s3 := List.all_eq_true.mp s2 v (List.mem_range.mpr hv24)
  simp only [Bool.and_eq_true, Bool.not_eq_true'] at s3
  obtain ⟨s4, s5, s6, s7⟩ := s3
  have yes : ∀ (f' : zH) (lo' : zL) (y0 y1 y2 y3 : Int32), sInv swM f' → sMd [(0, 2, 3)] f f' → 1 ≤ x1.toInt → x1.toInt ≤ 99 → 0 ≤ x2.toInt → x2.toInt < (A.1.2.2.2.2 1 : Int) → 0 ≤ x3.toInt → x3.toInt ≤ 999 → (0 ≤ y0.toInt ∧ y0.toInt ≤ 1) → y1.toInt = x3.toInt → y2.toInt = x2.toInt → y3.toInt = x1.toInt → zX l Γ false 10 (zhd 295) (zMQ' Γ false (zhd 295) (fun r f' => r = some (.int (Int32.ofInt (seA (A.1.2.2.2.2 1 : Int) A.1.2.2.1.2.2.2.2.2.1 x1.toInt x2.toInt x3.toInt))) ∧ zGM (zGn A (seU (A.1.2.2.2.2 1 : Int) A.1.2.2.1.2.2.2.2.2.1 x1.toInt x2.toInt x3.toInt) A.1.2.2.1.2.2.2.2.2.2) f')) 0 0 61 lo' [.int y0, .int y1, .int y2, .int y3, .ref 0] f' := by
    intro f' lo' y0 y1 y2 y3 i1 m1 c1 c2 c3 c4 c5 c6 h0 e1 e2 e3
    refine zcallV (mi := 295) (as := [.int y0, .int y1, .int y2, .int y3]) zv_se rfl (by rw [i1.1]; rfl) ?_
    refine (seNl (d := 8) hv24 i1 ((pI_md m1 rfl).trans (q6.trans hv)) (x1 := y3) (x2 := y2) (x3 := y1) (x4 := y0) (by omega) (by omega) (by omega) h0 (by omega)).mono ?_
    rintro r f2 ⟨i2, m2, e76, y, rfl, ey⟩
    refine seR (d := 9) (by decide) (yv := y.toInt) i2 (i32bd y) rfl (fun f3 r_ i3 m3 e => ?_)
    have M : sMd ((0, 2, 3) :: seN_m v) f f3 := ((m1.sub s6).seq (m2.sub s5)).seq (m3.sub rfl)
    have hy : A.1.2.2.1.2.2.2.2.2.1 ≤ 23 ∧ 1 ≤ x1.toInt ∧ x1.toInt ≤ 99 ∧ 0 ≤ x2.toInt ∧ x2.toInt < (A.1.2.2.2.2 1 : Int) ∧ 0 ≤ x3.toInt ∧ x3.toInt ≤ 999 := by omega
    unfold seA seU
    rw [if_pos hy, if_pos hy, i32of (show r_.toInt = A.1.2.2.1.2.2.2.2.2.1 from by omega)]
    exact ⟨rfl, g.sn i3 M s4 ((pI_md m3 rfl).trans (by omega)) ((pI_md M s7).trans q7)⟩
  exact seM (d := 9) (by decide) hv24 (ti := x1.toInt) (gl := x2.toInt) (be := x3.toInt) (al := x4.toInt) (n := (A.1.2.2.2.2 1 : Int)) g.1.1 (i32bd x1) (i32bd x2) (i32bd x3) hx ⟨by omega, by omega⟩ rfl rfl rfl rfl hC.1.2.1 (q6.trans hv) (fun lo' f' y0 y1 y2 y3 i1 m1 c0 c1 c2 c3 c4 c5 _ _ e0 e1 e2 e3 => yes f' lo' y0 y1 y2 y3 i1 m1 (by omega) (by omega) (by omega) (by omega) (by omega) (by omega) (by omega) e1 e2 e3) (fun lo' f' y0 y1 y2 y3 i1 m1 c0 c1 c2 c3 c4 c5 _ _ e0 e1 e2 e3 => yes f' lo' y0 y1 y2 y3 i1 m1 (by omega) (by omega) (by omega) (by omega) (by omega) (by omega) (by omega) e1 e2 e3) (fun f' r_ i1 m1 c0 _ e => no f' r_ i1 m1 e (by omega)) (fun f' r_ i1 m1 c0 c1 _ e => no f' r_ i1 m1 e (by omega)) (fun f' r_ i1 m1 c0 c1 c2 _ e => no f' r_ i1 m1 e (by omega)) (fun f' r_ i1 m1 c0 c1 c2 c3 _ e => no f' r_ i1 m1 e (by omega)) (fun f' r_ i1 m1 c0 c1 c2 c3 c4 _ e => no f' r_ i1 m1 e (by omega)) (fun f' r_ i1 m1 c0 c1 c2 c3 c4 c5 _ e => no f' r_ i1 m1 e (by omega))
theorem zps32 (l : Launch) {f1 f2 : zH} {A : zGb} (g1 : zGC A f1) (g2 : zGM A f2) {n : Int} (hb : zGB n A) (x1 x2 x3 x4 : Int32) (hx : 0 ≤ x4.toInt ∧ x4.toInt ≤ 1) : ∃ (a : Int32) (A' : zGb), zGB n A' ∧ (∀ Γ : zG, zSem l Γ false 10 (zhd 158) [.ref 0, .int x1, .int x2, .int x3, .int x4] f1 (fun r f => r = some (.int a) ∧ zGC A' f)) ∧ (∀ Γ : zG, zSem l Γ false 10 (zhd 295) [.ref 0, .int x1, .int x2, .int x3, .int x4] f2 (fun r f => r = some (.int a) ∧ zGM A' f)) := by
  have hC := TM.t g2.1.1 g2.1.2.2.2.2.2
  obtain ⟨⟨b4, b5, b6, b7, b8⟩, hr⟩ := hb
  refine ⟨_, zGn A (seU (A.1.2.2.2.2 1 : Int) A.1.2.2.1.2.2.2.2.2.1 x1.toInt x2.toInt x3.toInt) A.1.2.2.1.2.2.2.2.2.2, ⟨⟨?_, ?_, b6, b7, ?_⟩, hr⟩, fun Γ => zseCg l Γ g1 ⟨b4, b5⟩ hC.2.1.2.1 x1 x2 x3 x4 hx, fun Γ => zseMg l Γ g2 ⟨b4, b5⟩ x1 x2 x3 x4 hx⟩
  · show 0 ≤ seU (A.1.2.2.2.2 1 : Int) A.1.2.2.1.2.2.2.2.2.1 x1.toInt x2.toInt x3.toInt
    unfold seU
    split <;> omega
  · show seU (A.1.2.2.2.2 1 : Int) A.1.2.2.1.2.2.2.2.2.1 x1.toInt x2.toInt x3.toInt ≤ 24
    unfold seU
    split <;> omega
  · show A.1.2.2.1.2.2.2.2.2.2 ≤ seU (A.1.2.2.2.2 1 : Int) A.1.2.2.1.2.2.2.2.2.1 x1.toInt x2.toInt x3.toInt
    unfold seU
    split <;> omega
/-! strike -/
theorem zskCg (l : Launch) (Γ : zG) {f : zH} {A : zGb} (g : zGC A f) (hs : 0 ≤ A.1.2.2.1.2.2.2.2.2.1 ∧ A.1.2.2.1.2.2.2.2.2.1 ≤ 24) (x1 : Int32) : zSem l Γ false 10 (zhd 160) [.ref 0, .int x1] f (fun r f' => r = some (.int (Int32.ofInt (skA A.1.2.2.1.2.2.2.2.2.1 x1.toInt))) ∧ zGC (zGn A (skU A.1.2.2.1.2.2.2.2.2.1 x1.toInt) A.1.2.2.1.2.2.2.2.2.2) f') := by
  have k7 : ∀ f', sMd skC_m f f' → pI f' 91 7 = A.1.2.2.1.2.2.2.2.2.2 := fun f' m => (pI_md m rfl).trans g.1.2.2.2.2.1.2.2.2.2.2.2
  have no : ∀ (f' : zH) (r_ : Int32), sInv swC f' → sMd skC_m f f' → r_.toInt = -1 → pI f' 91 6 = A.1.2.2.1.2.2.2.2.2.1 → ¬ (A.1.2.2.1.2.2.2.2.2.1 ≤ 23 ∧ 0 ≤ x1.toInt ∧ x1.toInt < A.1.2.2.1.2.2.2.2.2.1) → (some (Value.int r_) = some (.int (Int32.ofInt (skA A.1.2.2.1.2.2.2.2.2.1 x1.toInt))) ∧ zGC (zGn A (skU A.1.2.2.1.2.2.2.2.2.1 x1.toInt) A.1.2.2.1.2.2.2.2.2.2) f') := fun f' r_ i1 m1 e e6 hn => by
    unfold skA skU
    rw [if_neg hn, if_neg hn, i32of e]
    exact ⟨rfl, g.sn i1 m1 skC_g e6 (k7 f' m1)⟩
  refine skC (d := 9) (by decide) (ki := x1.toInt) (sz := A.1.2.2.1.2.2.2.2.2.1) g.1.1 (i32bd x1) hs rfl g.1.2.2.2.2.1.2.2.2.2.2.1 (fun f' r_ i1 m1 c0 e6 e => no f' r_ i1 m1 e e6 (by omega)) (fun f' r_ i1 m1 c0 c1 e6 e => no f' r_ i1 m1 e e6 (by omega)) (fun f' r_ i1 m1 c0 c1 c2 e6 _ e => ?_) (fun f' r_ i1 m1 c0 c1 c2 e6 e => no f' r_ i1 m1 e e6 (by omega))
  have hy : A.1.2.2.1.2.2.2.2.2.1 ≤ 23 ∧ 0 ≤ x1.toInt ∧ x1.toInt < A.1.2.2.1.2.2.2.2.2.1 := by omega
  unfold skA skU
  rw [if_pos hy, if_pos hy, i32of e]
  exact ⟨rfl, g.sn i1 m1 skC_g e6 (k7 f' m1)⟩
theorem zskMg (l : Launch) (Γ : zG) {f : zH} {A : zGb} (g : zGM A f) (hs : 0 ≤ A.1.2.2.1.2.2.2.2.2.1 ∧ A.1.2.2.1.2.2.2.2.2.1 ≤ 24) (x1 : Int32) : zSem l Γ false 10 (zhd 297) [.ref 0, .int x1] f (fun r f' => r = some (.int (Int32.ofInt (skA A.1.2.2.1.2.2.2.2.2.1 x1.toInt))) ∧ zGM (zGn A (skU A.1.2.2.1.2.2.2.2.2.1 x1.toInt) A.1.2.2.1.2.2.2.2.2.2) f') := by
  obtain ⟨s1, s2⟩ := seM_g
  have q6 := g.1.2.2.2.2.1.2.2.2.2.2.1
  have q7 := g.1.2.2.2.2.1.2.2.2.2.2.2
  have no : ∀ (f' : zH) (r_ : Int32), sInv swM f' → sMd [(0, 2, 3)] f f' → r_.toInt = -1 → ¬ (A.1.2.2.1.2.2.2.2.2.1 ≤ 23 ∧ 0 ≤ x1.toInt ∧ x1.toInt < A.1.2.2.1.2.2.2.2.2.1) → (some (Value.int r_) = some (.int (Int32.ofInt (skA A.1.2.2.1.2.2.2.2.2.1 x1.toInt))) ∧ zGM (zGn A (skU A.1.2.2.1.2.2.2.2.2.1 x1.toInt) A.1.2.2.1.2.2.2.2.2.2) f') := fun f' r_ i1 m1 e hn => by
    unfold skA skU
    rw [if_neg hn, if_neg hn, i32of e]
    exact ⟨rfl, g.sn i1 m1 s1 ((pI_md m1 rfl).trans q6) ((pI_md m1 rfl).trans q7)⟩
  by_cases h24 : A.1.2.2.1.2.2.2.2.2.1 = 24
  · exact skX (d := 9) (by decide) (ki := x1.toInt) g.1.1 (i32bd x1) rfl (q6.trans h24) (fun f' r_ i1 m1 _ e => no f' r_ i1 m1 e (by omega))
  obtain ⟨v, hv⟩ : ∃ v : Nat, A.1.2.2.1.2.2.2.2.2.1 = (v : Int) := ⟨A.1.2.2.1.2.2.2.2.2.1.toNat, by omega⟩
  have hv24 : v < 24 := by omega
  have s3 := List.all_eq_true.mp s2 v (List.mem_range.mpr hv24)
  simp only [Bool.and_eq_true, Bool.not_eq_true'] at s3
  obtain ⟨s4, s5, s6, s7⟩ := s3
  refine skM (d := 9) (by decide) hv24 (ki := x1.toInt) g.1.1 (i32bd x1) rfl (q6.trans hv) (fun lo' f' y0 y1 y2 y3 i1 m1 c0 c1 _ e0 e1 e2 e3 => ?_) (fun f' r_ i1 m1 c0 _ e => no f' r_ i1 m1 e (by omega)) (fun f' r_ i1 m1 c0 c1 _ e => no f' r_ i1 m1 e (by omega))
  refine zcallV (mi := 297) (as := [.int y0, .int y1, .int y2, .int y3]) zv_sk rfl (by rw [i1.1]; rfl) ?_
  refine (seNl (d := 8) hv24 i1 ((pI_md m1 rfl).trans (q6.trans hv)) (x1 := y3) (x2 := y2) (x3 := y1) (x4 := y0) (by omega) (by omega) (by omega) (by omega) (by omega)).mono ?_
  rintro r f2 ⟨i2, m2, e76, y, rfl, ey⟩
  refine skR (d := 9) (by decide) (yv := y.toInt) i2 (i32bd y) rfl (fun f3 r_ i3 m3 e => ?_)
  have M : sMd ((0, 2, 3) :: seN_m v) f f3 := ((m1.sub s6).seq (m2.sub s5)).seq (m3.sub rfl)
  have hy : A.1.2.2.1.2.2.2.2.2.1 ≤ 23 ∧ 0 ≤ x1.toInt ∧ x1.toInt < A.1.2.2.1.2.2.2.2.2.1 := by omega
  unfold skA skU
  rw [if_pos hy, if_pos hy, i32of (show r_.toInt = A.1.2.2.1.2.2.2.2.2.1 from by omega)]
  exact ⟨rfl, g.sn i3 M s4 ((pI_md m3 rfl).trans (by omega)) ((pI_md M s7).trans q7)⟩
theorem zps33 (l : Launch) {f1 f2 : zH} {A : zGb} (g1 : zGC A f1) (g2 : zGM A f2) {n : Int} (hb : zGB n A) (x1 : Int32) : ∃ (a : Int32) (A' : zGb), zGB n A' ∧ (∀ Γ : zG, zSem l Γ false 10 (zhd 160) [.ref 0, .int x1] f1 (fun r f => r = some (.int a) ∧ zGC A' f)) ∧ (∀ Γ : zG, zSem l Γ false 10 (zhd 297) [.ref 0, .int x1] f2 (fun r f => r = some (.int a) ∧ zGM A' f)) := by
  obtain ⟨⟨b4, b5, b6, b7, b8⟩, hr⟩ := hb
  refine ⟨_, zGn A (skU A.1.2.2.1.2.2.2.2.2.1 x1.toInt) A.1.2.2.1.2.2.2.2.2.2, ⟨⟨?_, ?_, b6, b7, ?_⟩, hr⟩, fun Γ => zskCg l Γ g1 ⟨b4, b5⟩ x1, fun Γ => zskMg l Γ g2 ⟨b4, b5⟩ x1⟩
  · show 0 ≤ skU A.1.2.2.1.2.2.2.2.2.1 x1.toInt
    unfold skU
    split <;> omega
  · show skU A.1.2.2.1.2.2.2.2.2.1 x1.toInt ≤ 24
    unfold skU
    split <;> omega
  · show A.1.2.2.1.2.2.2.2.2.2 ≤ skU A.1.2.2.1.2.2.2.2.2.1 x1.toInt
    unfold skU
    split <;> omega
/-! known -/
theorem zknCg (l : Launch) (Γ : zG) {f : zH} {A : zGb} (g : zGC A f) (hs : 0 ≤ A.1.2.2.1.2.2.2.2.2.1 ∧ A.1.2.2.1.2.2.2.2.2.1 ≤ 24) (hk : -1 ≤ A.1.2.2.1.2.2.2.2.2.2 ∧ A.1.2.2.1.2.2.2.2.2.2 ≤ 24) (x1 : Int32) : zSem l Γ false 10 (zhd 162) [.ref 0, .int x1] f (fun r f' => r = some (.int (Int32.ofInt (knA A.1.2.2.1.2.2.2.2.2.1 x1.toInt))) ∧ zGC (zGn A A.1.2.2.1.2.2.2.2.2.1 (knU A.1.2.2.1.2.2.2.2.2.1 A.1.2.2.1.2.2.2.2.2.2 x1.toInt)) f') := by
  have k6 : ∀ f', sMd knC_m f f' → pI f' 91 6 = A.1.2.2.1.2.2.2.2.2.1 := fun f' m => (pI_md m rfl).trans g.1.2.2.2.2.1.2.2.2.2.2.1
  have no : ∀ (f' : zH) (r_ : Int32), sInv swC f' → sMd knC_m f f' → r_.toInt = 0 → pI f' 91 7 = A.1.2.2.1.2.2.2.2.2.2 → ¬ (-1 ≤ x1.toInt ∧ x1.toInt ≤ A.1.2.2.1.2.2.2.2.2.1) → (some (Value.int r_) = some (.int (Int32.ofInt (knA A.1.2.2.1.2.2.2.2.2.1 x1.toInt))) ∧ zGC (zGn A A.1.2.2.1.2.2.2.2.2.1 (knU A.1.2.2.1.2.2.2.2.2.1 A.1.2.2.1.2.2.2.2.2.2 x1.toInt)) f') := fun f' r_ i1 m1 e e7 hn => by
    unfold knA knU
    rw [if_neg hn, if_neg hn, i32of e]
    exact ⟨rfl, g.sn i1 m1 knC_g (k6 f' m1) e7⟩
  refine knC (d := 9) (by decide) (ki := x1.toInt) (sz := A.1.2.2.1.2.2.2.2.2.1) (kb := A.1.2.2.1.2.2.2.2.2.2) g.1.1 (i32bd x1) hs hk rfl g.1.2.2.2.2.1.2.2.2.2.2.1 g.1.2.2.2.2.1.2.2.2.2.2.2 (fun f' r_ i1 m1 c0 e7 e => no f' r_ i1 m1 e e7 (by omega)) (fun f' r_ i1 m1 c0 c1 e7 e => ?_) (fun f' r_ i1 m1 c0 c1 e7 e => no f' r_ i1 m1 e e7 (by omega))
  have hy : -1 ≤ x1.toInt ∧ x1.toInt ≤ A.1.2.2.1.2.2.2.2.2.1 := by omega
  unfold knA knU
  rw [if_pos hy, if_pos hy, i32of e]
  exact ⟨rfl, g.sn i1 m1 knC_g (k6 f' m1) e7⟩
theorem zknMg (l : Launch) (Γ : zG) {f : zH} {A : zGb} (g : zGM A f) (hs : 0 ≤ A.1.2.2.1.2.2.2.2.2.1 ∧ A.1.2.2.1.2.2.2.2.2.1 ≤ 24) (hk : -1 ≤ A.1.2.2.1.2.2.2.2.2.2 ∧ A.1.2.2.1.2.2.2.2.2.2 ≤ 24) (x1 : Int32) : zSem l Γ false 10 (zhd 298) [.ref 0, .int x1] f (fun r f' => r = some (.int (Int32.ofInt (knA A.1.2.2.1.2.2.2.2.2.1 x1.toInt))) ∧ zGM (zGn A A.1.2.2.1.2.2.2.2.2.1 (knU A.1.2.2.1.2.2.2.2.2.1 A.1.2.2.1.2.2.2.2.2.2 x1.toInt)) f') := by
  have q6 := g.1.2.2.2.2.1.2.2.2.2.2.1
  have q7 := g.1.2.2.2.2.1.2.2.2.2.2.2
  obtain ⟨v, hv⟩ : ∃ v : Nat, A.1.2.2.1.2.2.2.2.2.1 = (v : Int) := ⟨A.1.2.2.1.2.2.2.2.2.1.toNat, by omega⟩
  have no : ∀ (f' : zH) (r_ : Int32), sInv swM f' → sMd (knM_m v) f f' → r_.toInt = 0 → pI f' 0 77 = A.1.2.2.1.2.2.2.2.2.2 → ¬ (-1 ≤ x1.toInt ∧ x1.toInt ≤ A.1.2.2.1.2.2.2.2.2.1) → (some (Value.int r_) = some (.int (Int32.ofInt (knA A.1.2.2.1.2.2.2.2.2.1 x1.toInt))) ∧ zGM (zGn A A.1.2.2.1.2.2.2.2.2.1 (knU A.1.2.2.1.2.2.2.2.2.1 A.1.2.2.1.2.2.2.2.2.2 x1.toInt)) f') := fun f' r_ i1 m1 e e7 hn => by
    unfold knA knU
    rw [if_neg hn, if_neg hn, i32of e]
    exact ⟨rfl, g.sn i1 m1 knM_g ((pI_md m1 rfl).trans q6) e7⟩
  refine knM (d := 9) (by decide) (v := v) (by omega) (ki := x1.toInt) (kb := A.1.2.2.1.2.2.2.2.2.2) g.1.1 (i32bd x1) hk rfl (q6.trans hv) q7 (fun f' r_ i1 m1 c0 _ e7 e => no f' r_ i1 m1 e e7 (by omega)) (fun f' r_ i1 m1 c0 c1 _ e7 e => no f' r_ i1 m1 e e7 (by omega)) (fun f' r_ i1 m1 c0 c1 e7 _ e => ?_)
  have hy : -1 ≤ x1.toInt ∧ x1.toInt ≤ A.1.2.2.1.2.2.2.2.2.1 := by omega
  unfold knA knU
  rw [if_pos hy, if_pos hy, i32of e]
  exact ⟨rfl, g.sn i1 m1 knM_g ((pI_md m1 rfl).trans q6) e7⟩
theorem zps34 (l : Launch) {f1 f2 : zH} {A : zGb} (g1 : zGC A f1) (g2 : zGM A f2) {n : Int} (hb : zGB n A) (x1 : Int32) : ∃ (a : Int32) (A' : zGb), zGB n A' ∧ (∀ Γ : zG, zSem l Γ false 10 (zhd 162) [.ref 0, .int x1] f1 (fun r f => r = some (.int a) ∧ zGC A' f)) ∧ (∀ Γ : zG, zSem l Γ false 10 (zhd 298) [.ref 0, .int x1] f2 (fun r f => r = some (.int a) ∧ zGM A' f)) := by
  obtain ⟨⟨b4, b5, b6, b7, b8⟩, hr⟩ := hb
  refine ⟨_, zGn A A.1.2.2.1.2.2.2.2.2.1 (knU A.1.2.2.1.2.2.2.2.2.1 A.1.2.2.1.2.2.2.2.2.2 x1.toInt), ⟨⟨b4, b5, ?_, ?_, ?_⟩, hr⟩, fun Γ => zknCg l Γ g1 ⟨b4, b5⟩ ⟨b6, b7⟩ x1, fun Γ => zknMg l Γ g2 ⟨b4, b5⟩ ⟨b6, b7⟩ x1⟩
  · show -1 ≤ knU A.1.2.2.1.2.2.2.2.2.1 A.1.2.2.1.2.2.2.2.2.2 x1.toInt
    unfold knU
    split <;> omega
  · show knU A.1.2.2.1.2.2.2.2.2.1 A.1.2.2.1.2.2.2.2.2.2 x1.toInt ≤ 24
    unfold knU
    split <;> omega
  · show knU A.1.2.2.1.2.2.2.2.2.1 A.1.2.2.1.2.2.2.2.2.2 x1.toInt ≤ A.1.2.2.1.2.2.2.2.2.1
    unfold knU
    split <;> omega
