/-! what stands on both sides, with the states -/
abbrev zGb : Type := zAb × zSx
def SRC (X : zSx) (h : zH) : Prop := CS 43 X.1 h ∧ (pI h 0 9 = 1 → CS 49 X.2.1 h) ∧ UC X h
def SRM (S : zS) (X : zSx) (h : zH) : Prop := MS S 0 X.1 h ∧ (pI h 0 82 = 1 → IM S X.2.1 h) ∧ UM S X h
def zGC (A : zGb) (f : zH) : Prop := zRC A.1 f ∧ SRC A.2 f
def zGM (A : zGb) (f : zH) : Prop := zRM A.1 f ∧ SRM A.1.2.2.2.2 A.2 f
/-- the bounds of what was SEEN, of what is told, of the states -/
def zGB (n : Int) (A : zGb) : Prop := (0 ≤ A.1.2.2.1.2.2.2.2.2.1 ∧ A.1.2.2.1.2.2.2.2.2.1 ≤ 24 ∧ -1 ≤ A.1.2.2.1.2.2.2.2.2.2 ∧ A.1.2.2.1.2.2.2.2.2.2 ≤ 24 ∧ A.1.2.2.1.2.2.2.2.2.2 ≤ A.1.2.2.1.2.2.2.2.2.1) ∧ PB A.1.2.2.2.1 A.1.2.2.2.2 ∧ XB A.1.2.2.2.2 n A.2
theorem zGC.sc {A : zGb} {f : zH} (g : zGC A f) : ∃ t, t < 2 ∧ SC t A.1.2.2.2.1 A.1.2.2.2.2 A.2 f := by
  obtain ⟨t, ht, hT⟩ := g.1.2.2.2.2.2.tl
  exact ⟨t, ht, hT, g.2⟩
theorem zGM.sm {A : zGb} {f : zH} (g : zGM A f) : SM A.1.2.2.2.1 A.1.2.2.2.2 A.2 f := ⟨g.1.2.2.2.2.2.t g.1.1, g.1.2.2.2.2.2.2.2.2.2, g.2⟩
theorem zGM.tb {A : zGb} {f : zH} (g : zGM A f) (hP : PB A.1.2.2.2.1 A.1.2.2.2.2) : TB A.1.2.2.2.1 A.1.2.2.2.2 := TB.of hP g.1.2.2.2.2.2.2.2.2.2 g.1.1
/-- these cells are no part of the states -/
def srcB (md : sM) : Bool := md.all (fun t => decide (t.1 < 43) || decide (55 ≤ t.1 ∧ t.1 < 86) || decide (91 ≤ t.1)) && !smem md 0 9
def srmB (md : sM) : Bool := md.all (fun t => decide (t.1 < 29) || decide (36 < t.1 ∧ t.1 < 41) || decide (44 ≤ t.1) || decide (t.1 ≤ 33 ∧ 8 ≤ t.2.1) || decide (t.1 = 34 ∧ 10 ≤ t.2.1) || decide (35 ≤ t.1 ∧ t.1 ≤ 36 ∧ 1 ≤ t.2.1)) && (!smem md 0 80 && (!smem md 0 82 && !smem md 0 85))
theorem srcB_k {md : sM} (hb : srcB md = true) {q j : Nat} (hq : (43 ≤ q ∧ q < 55) ∨ (86 ≤ q ∧ q < 91)) : smem md q j = false := by
  simp only [srcB, Bool.and_eq_true] at hb
  cases hc : smem md q j with
  | false => rfl
  | true =>
    obtain ⟨t, ht, h1⟩ := List.any_eq_true.mp hc
    have h2 := List.all_eq_true.mp hb.1 t ht
    simp only [Bool.and_eq_true, Bool.or_eq_true, beq_iff_eq, decide_eq_true_eq] at h1 h2
    omega
theorem srmB_k {md : sM} (hb : srmB md = true) {q j : Nat} (hq : (29 ≤ q ∧ q ≤ 33 ∧ j < 8) ∨ (q = 34 ∧ j < 10) ∨ (35 ≤ q ∧ q ≤ 36 ∧ j < 1) ∨ (41 ≤ q ∧ q < 44)) : smem md q j = false := by
  simp only [srmB, Bool.and_eq_true] at hb
  cases hc : smem md q j with
  | false => rfl
  | true =>
    obtain ⟨t, ht, h1⟩ := List.any_eq_true.mp hc
    have h2 := List.all_eq_true.mp hb.1 t ht
    simp only [Bool.and_eq_true, Bool.or_eq_true, beq_iff_eq, decide_eq_true_eq] at h1 h2
    omega
theorem SRC.md {X : zSx} {f f' : zH} {md : sM} (h : SRC X f) (hm : sMd md f f') (hb : srcB md = true) : SRC X f' := by
  have h9 : smem md 0 9 = false := by
    simp only [srcB, Bool.and_eq_true, Bool.not_eq_true'] at hb
    exact hb.2
  exact ⟨CS.md h.1 hm (fun q a b j => srcB_k hb (by omega)), fun e => CS.md (h.2.1 ((pI_md hm h9).symm.trans e)) hm (fun q a b j => srcB_k hb (by omega)), h.2.2.md hm (fun q a b j => srcB_k hb (by omega))⟩
theorem SRM.md {S : zS} {X : zSx} {f f' : zH} {md : sM} (hS : S 1 ≤ 8) (h : SRM S X f) (hm : sMd md f f') (hb : srmB md = true) (h65 : pL f' 0 65 = pL f 0 65) : SRM S X f' := by
  have hb' := hb
  simp only [srmB, Bool.and_eq_true, Bool.not_eq_true'] at hb'
  obtain ⟨-, h80, h82, h85⟩ := hb'
  obtain ⟨⟨m1, m2, m3, m4, m5⟩, i, u⟩ := h
  refine ⟨⟨fun g hg => ?_, fun p hp => ?_, ?_, ?_, h65.trans m5⟩, fun e => (i ((pI_md hm h82).symm.trans e)).md hm (fun j => srmB_k hb (by omega)) (fun j => srmB_k hb (by omega)) h85, u.md hm h80 (fun j => srmB_k hb (by omega))⟩
  · obtain ⟨a0, a1, a2, a3, a4⟩ := m1 g hg
    exact ⟨(pI_md hm (srmB_k hb (by omega))).trans a0, (pI_md hm (srmB_k hb (by omega))).trans a1, (pI_md hm (srmB_k hb (by omega))).trans a2, (pI_md hm (srmB_k hb (by omega))).trans a3, (pI_md hm (srmB_k hb (by omega))).trans a4⟩
  · exact (pI_md hm (srmB_k hb (by omega))).trans (m2 p hp)
  · exact (pI_md hm (srmB_k hb (by omega))).trans m3
  · exact (pI_md hm (srmB_k hb (by omega))).trans m4
/-- what is told holds at most eight of them -/
theorem zRM.s1 {A : zAb} {f : zH} (g : zRM A f) : A.2.2.2.2 1 ≤ 8 := g.2.2.2.2.2.b g.1 1 (by decide)
theorem zGC.md {A : zGb} {f f' : zH} {md : sM} (h : zGC A f) (hi : sInv swC f') (hm : sMd md f f') (hb : zRCB md = true) (hs : srcB md = true) : zGC A f' := ⟨h.1.md hi hm hb, h.2.md hm hs⟩
theorem zGM.md {A : zGb} {f f' : zH} {md : sM} (h : zGM A f) (hi : sInv swM f') (hm : sMd md f f') (hb : zRMB md = true) (hs : srmB md = true) (h65 : pL f' 0 65 = pL f 0 65) : zGM A f' := ⟨h.1.md hi hm hb, h.2.md h.1.s1 hm hs h65⟩
/-- contracts keep them -/
theorem zgCI {l : Launch} {Γ : zG} {mi : Nat} {ct : sCt} {iv : Int × Int} {args : List Value} {f : zH} {A : zGb} (hc : sCon l Γ swC mi ct) (hfr : ct.2.2.2.2.2 ≤ 10) (hpre : ct.2.1 = sA0) (hres : ct.2.2.1 = some (.inl iv)) (hmd : (zRCB ct.2.2.2.2.1 && srcB ct.2.2.2.2.1) = true) (ha : sTL ct.1 args) (h : zGC A f) : zSem l Γ false 10 (zhd mi) args f (fun r f' => (∃ a : Int32, r = some (.int a)) ∧ zGC A f') := by
  simp only [Bool.and_eq_true] at hmd
  refine (hc 10 hfr args f ha h.1.1 (by rw [hpre]; exact sA0_ok f)).mono ?_
  rintro r h' ⟨h1, h2, h3, -⟩
  rw [hres] at h1
  obtain ⟨x, e, a, rfl, -⟩ := h1
  exact ⟨⟨a, e⟩, h.md h2 h3 hmd.1 hmd.2⟩
theorem zgCJ {l : Launch} {Γ : zG} {mi : Nat} {ct : sCt} {iv : Int × Int} {args : List Value} {f : zH} {A : zGb} (hc : sCon l Γ swC mi ct) (hfr : ct.2.2.2.2.2 ≤ 10) (hpre : ct.2.1 = sA0) (hres : ct.2.2.1 = some (.inr (.inr iv))) (hmd : (zRCB ct.2.2.2.2.1 && srcB ct.2.2.2.2.1) = true) (ha : sTL ct.1 args) (h : zGC A f) : zSem l Γ false 10 (zhd mi) args f (fun r f' => (∃ a : Int64, r = some (.long a)) ∧ zGC A f') := by
  simp only [Bool.and_eq_true] at hmd
  refine (hc 10 hfr args f ha h.1.1 (by rw [hpre]; exact sA0_ok f)).mono ?_
  rintro r h' ⟨h1, h2, h3, -⟩
  rw [hres] at h1
  obtain ⟨x, e, a, rfl, -⟩ := h1
  exact ⟨⟨a, e⟩, h.md h2 h3 hmd.1 hmd.2⟩
def zGMB (md : sM) : Bool := zRMB md && (srmB md && !smem md 0 65)
theorem zGM.md' {A : zGb} {f f' : zH} {md : sM} (h : zGM A f) (hi : sInv swM f') (hm : sMd md f f') (hb : zGMB md = true) : zGM A f' := by
  simp only [zGMB, Bool.and_eq_true, Bool.not_eq_true'] at hb
  exact h.md hi hm hb.1 hb.2.1 (pL_md hm hb.2.2)
theorem zgMI {l : Launch} {Γ : zG} {mi : Nat} {ct : sCt} {iv : Int × Int} {args : List Value} {f : zH} {A : zGb} (hc : sCon l Γ swM mi ct) (hfr : ct.2.2.2.2.2 ≤ 10) (hpre : ct.2.1 = sA0) (hres : ct.2.2.1 = some (.inl iv)) (hmd : zGMB ct.2.2.2.2.1 = true) (ha : sTL ct.1 args) (h : zGM A f) : zSem l Γ false 10 (zhd mi) args f (fun r f' => (∃ a : Int32, r = some (.int a)) ∧ zGM A f') := by
  refine (hc 10 hfr args f ha h.1.1 (by rw [hpre]; exact sA0_ok f)).mono ?_
  rintro r h' ⟨h1, h2, h3, -⟩
  rw [hres] at h1
  obtain ⟨x, e, a, rfl, -⟩ := h1
  exact ⟨⟨a, e⟩, h.md' h2 h3 hmd⟩
theorem zgMJ {l : Launch} {Γ : zG} {mi : Nat} {ct : sCt} {iv : Int × Int} {args : List Value} {f : zH} {A : zGb} (hc : sCon l Γ swM mi ct) (hfr : ct.2.2.2.2.2 ≤ 10) (hpre : ct.2.1 = sA0) (hres : ct.2.2.1 = some (.inr (.inr iv))) (hmd : zGMB ct.2.2.2.2.1 = true) (ha : sTL ct.1 args) (h : zGM A f) : zSem l Γ false 10 (zhd mi) args f (fun r f' => (∃ a : Int64, r = some (.long a)) ∧ zGM A f') := by
  refine (hc 10 hfr args f ha h.1.1 (by rw [hpre]; exact sA0_ok f)).mono ?_
  rintro r h' ⟨h1, h2, h3, -⟩
  rw [hres] at h1
  obtain ⟨x, e, a, rfl, -⟩ := h1
  exact ⟨⟨a, e⟩, h.md' h2 h3 hmd⟩
/-! a call that changes the state -/
def zGs (A : zGb) (X : zSx) (v : Int) : zGb := ((A.1.1, A.1.2.1, ((A.1.2.2.1.1, A.1.2.2.1.2.1, X.1 6 0, v, X.2.1 6 0, A.1.2.2.1.2.2.2.2.2), A.1.2.2.2)), X)
def zGtB (md : sM) : Bool := !smem md 0 1 && (md.all (fun t => !(t.1 == 1)) && (!smem md 0 2 && (!smem md 0 3 && (!smem md 91 6 && (!smem md 91 7 && ctB md)))))
def zGuB (md : sM) : Bool := !smem md 0 1 && (md.all (fun t => !(t.1 == 1)) && (!smem md 0 4 && (!smem md 0 5 && (!smem md 0 76 && (!smem md 0 77 && tmB md)))))
theorem zGC.st {A : zGb} {X : zSx} {v : Int} {t : Nat} {N : zN} {S : zS} {f f' : zH} {md : sM} (g : zGC A f) (hi : sInv swC f') (hm : sMd md f f') (hb : zGtB md = true) (hS : SC t N S X f') (hv : pI f' 0 9 = v) : zGC (zGs A X v) f' := by
  simp only [zGtB, Bool.and_eq_true, Bool.not_eq_true'] at hb
  obtain ⟨b1, b2, b3, b4, b5, b6, b7⟩ := hb
  obtain ⟨c1, c2, c3, c4, c5, c6, c7⟩ := g.1.2.2.2.2.1
  obtain ⟨-, s1, s2, s3⟩ := hS
  exact ⟨g.1.tp hi hm b1 b2 ⟨⟨(pI_md hm b3).trans c1, (pI_md hm b4).trans c2, s1.2.2.1.1, hv, fun e => (s2 (hv.trans e)).2.2.1.1, (pI_md hm b5).trans c6, (pI_md hm b6).trans c7⟩, g.1.2.2.2.2.2.md hm b7⟩, s1, s2, s3⟩
theorem zGM.st {A : zGb} {X : zSx} {v : Int} {f f' : zH} {md : sM} (g : zGM A f) (hi : sInv swM f') (hm : sMd md f f') (hb : zGuB md = true) (hS : SM A.1.2.2.2.1 A.1.2.2.2.2 X f') (hv : pI f' 0 82 = v) : zGM (zGs A X v) f' := by
  simp only [zGuB, Bool.and_eq_true, Bool.not_eq_true'] at hb
  obtain ⟨b1, b2, b3, b4, b5, b6, b7⟩ := hb
  obtain ⟨c1, c2, c3, c4, c5, c6, c7⟩ := g.1.2.2.2.2.1
  obtain ⟨-, -, s1, s2, s3⟩ := hS
  exact ⟨g.1.tp hi hm b1 b2 ⟨⟨(pI_md hm b3).trans c1, (pI_md hm b4).trans c2, s1.2.2.1, hv, fun e => (s2 (hv.trans e)).2.2.1, (pI_md hm b5).trans c6, (pI_md hm b6).trans c7⟩, g.1.2.2.2.2.2.md g.1.1 hm b7⟩, s1, s2, s3⟩
