/-! what stands on both sides, and the calls that change it -/
/-- the tape's length by twenty, its bytes, what is alike -/
abbrev zAb : Type := Nat × (Nat → Int) × zA6
def zRC (A : zAb) (f : zH) : Prop := sInv swC f ∧ A.1 ≤ 35 ∧ pI f 0 1 = 20 * (A.1 : Int) ∧ rT f A.2.1 ∧ zC6 A.2.2 f
def zRM (A : zAb) (f : zH) : Prop := sInv swM f ∧ A.1 ≤ 35 ∧ pI f 0 1 = 20 * (A.1 : Int) ∧ mT f A.2.1 ∧ zM6 A.2.2 f
def zRCB (md : sM) : Bool := !smem md 0 1 && (md.all (fun t => !(t.1 == 1)) && zC6B md)
def zRMB (md : sM) : Bool := !smem md 0 1 && (md.all (fun t => !(t.1 == 1)) && zM6B md)
theorem zRC.md {A : zAb} {f f' : zH} {md : sM} (h : zRC A f) (hi : sInv swC f') (hm : sMd md f f') (hb : zRCB md = true) : zRC A f' := by
  simp only [zRCB, Bool.and_eq_true, Bool.not_eq_true'] at hb
  exact ⟨hi, h.2.1, (pI_md hm hb.1).trans h.2.2.1, fun j hj => (pI_md hm (smem_q hb.2.1 j)).trans (h.2.2.2.1 j hj), h.2.2.2.2.md hm hb.2.2⟩
theorem zRM.md {A : zAb} {f f' : zH} {md : sM} (h : zRM A f) (hi : sInv swM f') (hm : sMd md f f') (hb : zRMB md = true) : zRM A f' := by
  simp only [zRMB, Bool.and_eq_true, Bool.not_eq_true'] at hb
  exact ⟨hi, h.2.1, (pI_md hm hb.1).trans h.2.2.1, fun j hj => (pI_md hm (smem_q hb.2.1 j)).trans (h.2.2.2.1 j hj), h.2.2.2.2.md h.1 hm hb.2.2⟩
/-- the tape alone stays -/
theorem zRC.tp {A : zAb} {a : zA6} {f f' : zH} {md : sM} (h : zRC A f) (hi : sInv swC f') (hm : sMd md f f') (h1 : smem md 0 1 = false) (h2 : md.all (fun t => !(t.1 == 1)) = true) (h4 : zC6 a f') : zRC (A.1, A.2.1, a) f' :=
  ⟨hi, h.2.1, (pI_md hm h1).trans h.2.2.1, fun j hj => (pI_md hm (smem_q h2 j)).trans (h.2.2.2.1 j hj), h4⟩
theorem zRM.tp {A : zAb} {a : zA6} {f f' : zH} {md : sM} (h : zRM A f) (hi : sInv swM f') (hm : sMd md f f') (h1 : smem md 0 1 = false) (h2 : md.all (fun t => !(t.1 == 1)) = true) (h4 : zM6 a f') : zRM (A.1, A.2.1, a) f' :=
  ⟨hi, h.2.1, (pI_md hm h1).trans h.2.2.1, fun j hj => (pI_md hm (smem_q h2 j)).trans (h.2.2.2.1 j hj), h4⟩
theorem zoCI {l : Launch} {Γ : zG} {mi : Nat} {ct : sCt} {iv : Int × Int} {args : List Value} {f : zH} {A : zAb} (hc : sCon l Γ swC mi ct) (hfr : ct.2.2.2.2.2 ≤ 10) (hpre : ct.2.1 = sA0) (hres : ct.2.2.1 = some (.inl iv)) (hmd : zRCB ct.2.2.2.2.1 = true) (ha : sTL ct.1 args) (h : zRC A f) : zSem l Γ false 10 (zhd mi) args f (fun r f' => (∃ a : Int32, r = some (.int a)) ∧ zRC A f') := by
  refine (hc 10 hfr args f ha h.1 (by rw [hpre]; exact sA0_ok f)).mono ?_
  rintro r h' ⟨h1, h2, h3, -⟩
  rw [hres] at h1
  obtain ⟨x, e, a, rfl, -⟩ := h1
  exact ⟨⟨a, e⟩, h.md h2 h3 hmd⟩
theorem zoCJ {l : Launch} {Γ : zG} {mi : Nat} {ct : sCt} {iv : Int × Int} {args : List Value} {f : zH} {A : zAb} (hc : sCon l Γ swC mi ct) (hfr : ct.2.2.2.2.2 ≤ 10) (hpre : ct.2.1 = sA0) (hres : ct.2.2.1 = some (.inr (.inr iv))) (hmd : zRCB ct.2.2.2.2.1 = true) (ha : sTL ct.1 args) (h : zRC A f) : zSem l Γ false 10 (zhd mi) args f (fun r f' => (∃ a : Int64, r = some (.long a)) ∧ zRC A f') := by
  refine (hc 10 hfr args f ha h.1 (by rw [hpre]; exact sA0_ok f)).mono ?_
  rintro r h' ⟨h1, h2, h3, -⟩
  rw [hres] at h1
  obtain ⟨x, e, a, rfl, -⟩ := h1
  exact ⟨⟨a, e⟩, h.md h2 h3 hmd⟩
theorem zoMI {l : Launch} {Γ : zG} {mi : Nat} {ct : sCt} {iv : Int × Int} {args : List Value} {f : zH} {A : zAb} (hc : sCon l Γ swM mi ct) (hfr : ct.2.2.2.2.2 ≤ 10) (hpre : ct.2.1 = sA0) (hres : ct.2.2.1 = some (.inl iv)) (hmd : zRMB ct.2.2.2.2.1 = true) (ha : sTL ct.1 args) (h : zRM A f) : zSem l Γ false 10 (zhd mi) args f (fun r f' => (∃ a : Int32, r = some (.int a)) ∧ zRM A f') := by
  refine (hc 10 hfr args f ha h.1 (by rw [hpre]; exact sA0_ok f)).mono ?_
  rintro r h' ⟨h1, h2, h3, -⟩
  rw [hres] at h1
  obtain ⟨x, e, a, rfl, -⟩ := h1
  exact ⟨⟨a, e⟩, h.md h2 h3 hmd⟩
theorem zoMJ {l : Launch} {Γ : zG} {mi : Nat} {ct : sCt} {iv : Int × Int} {args : List Value} {f : zH} {A : zAb} (hc : sCon l Γ swM mi ct) (hfr : ct.2.2.2.2.2 ≤ 10) (hpre : ct.2.1 = sA0) (hres : ct.2.2.1 = some (.inr (.inr iv))) (hmd : zRMB ct.2.2.2.2.1 = true) (ha : sTL ct.1 args) (h : zRM A f) : zSem l Γ false 10 (zhd mi) args f (fun r f' => (∃ a : Int64, r = some (.long a)) ∧ zRM A f') := by
  refine (hc 10 hfr args f ha h.1 (by rw [hpre]; exact sA0_ok f)).mono ?_
  rintro r h' ⟨h1, h2, h3, -⟩
  rw [hres] at h1
  obtain ⟨x, e, a, rfl, -⟩ := h1
  exact ⟨⟨a, e⟩, h.md h2 h3 hmd⟩
/-- feed -/
theorem zpr0 (l : Launch) {f1 f2 : zH} {A : zAb} (g1 : zRC A f1) (g2 : zRM A f2) (hb : zB4 A.2.2.1) (x1 x2 x3 x4 x5 : Int32) : ∃ (a : Int32) (A' : zAb), zB4 A'.2.2.1 ∧ (∀ Γ : zG, zSem l Γ false 10 (zhd 26) [.ref 0, .int x1, .int x2, .int x3, .int x4, .int x5] f1 (fun r f => r = some (.int a) ∧ zRC A' f)) ∧ (∀ Γ : zG, zSem l Γ false 10 (zhd 193) [.ref 0, .int x1, .int x2, .int x3, .int x4, .int x5] f2 (fun r f => r = some (.int a) ∧ zRM A' f)) := by
  obtain ⟨a, t2, T2, ht2, hc, hm⟩ := zfeed2 l g1.2.1 g1.1 g2.1 g1.2.2.1 g2.2.2.1 g1.2.2.2.1 g2.2.2.2.1 x1 x2 x3 x4 x5
  refine ⟨a, (t2, T2, A.2.2), hb, fun Γ => (hc Γ).mono ?_, fun Γ => (hm Γ).mono ?_⟩
  · rintro r f ⟨e, j1, n1, v1, m1⟩
    exact ⟨e, j1, ht2, n1, v1, g1.2.2.2.2.md m1 (by decide +kernel)⟩
  · rintro r f ⟨e, j1, n1, v1, m1⟩
    exact ⟨e, j1, ht2, n1, v1, g2.2.2.2.2.md g2.1 m1 (by decide +kernel)⟩
/-- text -/
theorem zpr1 (l : Launch) {f1 f2 : zH} {A : zAb} (g1 : zRC A f1) (g2 : zRM A f2) (hb : zB4 A.2.2.1) (x1 : Int32) : ∃ (a : Int32) (A' : zAb), zB4 A'.2.2.1 ∧ (∀ Γ : zG, zSem l Γ false 10 (zhd 28) [.ref 0, .int x1] f1 (fun r f => r = some (.int a) ∧ zRC A' f)) ∧ (∀ Γ : zG, zSem l Γ false 10 (zhd 194) [.ref 0, .int x1] f2 (fun r f => r = some (.int a) ∧ zRM A' f)) := by
  obtain ⟨a, t2, b4, ht2, hb2, hc, hm⟩ := zptxt l g1.2.1 g1.1 g2.1 g1.2.2.1 g2.2.2.1 g1.2.2.2.1 g2.2.2.2.1 hb g1.2.2.2.2 g2.2.2.2.2 x1
  refine ⟨a, (t2, A.2.1, b4), hb2, fun Γ => (hc Γ).mono ?_, fun Γ => (hm Γ).mono ?_⟩
  · rintro r f ⟨e, j1, n1, v1, m1⟩
    exact ⟨e, j1, ht2, n1, v1, m1⟩
  · rintro r f ⟨e, j1, n1, v1, m1⟩
    exact ⟨e, j1, ht2, n1, v1, m1⟩
/-- fault -/
def fA (a b x : Int) : Int := if x = 0 then a else if x = 1 then b else -1
def ftE : sEf := ([], [(0, ([(1, 1)], 0))], [], [])
def ftF : sEf := ([], [(0, ([(2, 1)], 0))], [], [])
def sF32 : Int × Int := (-2147483648, 2147483647)
def ftP (q : Nat) : List sP0 := [(0, (none, (q : Int)), sF32), (0, (none, (q : Int) + 1), sF32)]
theorem ft_C : spfB swC sTC [] 100 2 76 [.inr (.inl 0), .inl (0, 0)] sA0 (ftP 2) [] [(some (.inl sF32), sA0, ftE)] = true ∧ spfB swC sTC [] 100 2 76 [.inr (.inl 0), .inl (1, 1)] sA0 (ftP 2) [] [(some (.inl sF32), sA0, ftF)] = true ∧ spfB swC sTC [] 100 2 76 [.inr (.inl 0), .inl (-2147483648, -1)] sA0 (ftP 2) [] [rK (-1)] = true ∧ spfB swC sTC [] 100 2 76 [.inr (.inl 0), .inl (2, 2147483647)] sA0 (ftP 2) [] [rK (-1)] = true := by decide +kernel
theorem ft_M : spfB swM sTM [(0, 2, 3)] 100 2 226 [.inr (.inl 0), .inl (0, 0)] sA0 (ftP 4) [] [(some (.inl sF32), sA0, ftE)] = true ∧ spfB swM sTM [(0, 2, 3)] 100 2 226 [.inr (.inl 0), .inl (1, 1)] sA0 (ftP 4) [] [(some (.inl sF32), sA0, ftF)] = true ∧ spfB swM sTM [(0, 2, 3)] 100 2 226 [.inr (.inl 0), .inl (-2147483648, -1)] sA0 (ftP 4) [] [rK (-1)] = true ∧ spfB swM sTM [(0, 2, 3)] 100 2 226 [.inr (.inl 0), .inl (2, 2147483647)] sA0 (ftP 4) [] [rK (-1)] = true := by decide +kernel
theorem zftA {l : Launch} {Γ : zG} {w : sW} {T : Nat → List sCt} {md : sM} {mi q : Nat} (hT : ∀ mi, ∀ c ∈ T mi, c.2.2.2.2.2 ≤ 2 → sCon l Γ w mi c) (hB : spfB w T md 100 2 mi [.inr (.inl 0), .inl (0, 0)] sA0 (ftP q) [] [(some (.inl sF32), sA0, ftE)] = true ∧ spfB w T md 100 2 mi [.inr (.inl 0), .inl (1, 1)] sA0 (ftP q) [] [(some (.inl sF32), sA0, ftF)] = true ∧ spfB w T md 100 2 mi [.inr (.inl 0), .inl (-2147483648, -1)] sA0 (ftP q) [] [rK (-1)] = true ∧ spfB w T md 100 2 mi [.inr (.inl 0), .inl (2, 2147483647)] sA0 (ftP q) [] [rK (-1)] = true) {h : zH} (hi : sInv w h) (x : Int32) : zSem l Γ false 10 (zhd mi) [.ref 0, .int x] h (fun r h' => r = some (.int (Int32.ofInt (fA (pI h 0 q) (pI h 0 (q + 1)) x.toInt))) ∧ sInv w h' ∧ sMd md h h') := by
  have nb := i32bd x
  obtain ⟨b1, b2, b3, b4⟩ := hB
  have e1 : ((q : Int)).toNat = q := Int.toNat_natCast q
  have e2 : ((q : Int) + 1).toNat = q + 1 := by omega
  have hP : sPok (fun i => [x.toInt, pI h 0 q, pI h 0 (q + 1)].getD i 0) h (ftP q) 1 := by
    refine ⟨⟨?_, (i32bd (h.2.1 0 q)).1, (i32bd (h.2.1 0 q)).2⟩, ⟨?_, (i32bd (h.2.1 0 (q + 1))).1, (i32bd (h.2.1 0 (q + 1))).2⟩, trivial⟩
    · show (h.2.1 0 ((q : Int)).toNat).toInt = pI h 0 q
      rw [e1]
      rfl
    · show (h.2.1 0 ((q : Int) + 1).toNat).toInt = pI h 0 (q + 1)
      rw [e2]
      rfl
  have arg : ∀ a b : Int, a ≤ x.toInt → x.toInt ≤ b → sTL [.inr (.inl 0), .inl (a, b)] [.ref 0, .int x] ∧ sNmL (fun i => [x.toInt, pI h 0 q, pI h 0 (q + 1)].getD i 0) (lv_args 0 [.ref 0, .int x]) (sslot 0 [.inr (.inl 0), .inl (a, b)]) 0 := fun a b p r => ⟨⟨_, _, rfl, rfl, _, _, rfl, ⟨x, rfl, p, r⟩, rfl⟩, ⟨rfl, ⟨x, rfl, rfl, p, r⟩, trivial⟩⟩
  by_cases c0 : x.toInt = 0
  · obtain ⟨a1, a2⟩ := arg 0 0 (by omega) (by omega)
    refine spf_ok (d := 9) _ b1 hT (by decide) a1 a2 (sA0_ok _) hP hi (fun e he => nomatch he) ?_
    intro e he r' h' hp hi' hm
    have he := List.mem_singleton.mp he
    subst he
    obtain ⟨y, er, ey⟩ := ansI hp.1 (hp.2.2.2.1 (0, ([(1, 1)], 0)) List.mem_cons_self)
    have ey : y.toInt = 1 * pI h 0 q + 0 + 0 := ey
    refine ⟨?_, hi', hm⟩
    rw [er, show fA (pI h 0 q) (pI h 0 (q + 1)) x.toInt = y.toInt from by unfold fA; rw [if_pos c0]; omega, Int32.ofInt_toInt]
  by_cases c1 : x.toInt = 1
  · obtain ⟨a1, a2⟩ := arg 1 1 (by omega) (by omega)
    refine spf_ok (d := 9) _ b2 hT (by decide) a1 a2 (sA0_ok _) hP hi (fun e he => nomatch he) ?_
    intro e he r' h' hp hi' hm
    have he := List.mem_singleton.mp he
    subst he
    obtain ⟨y, er, ey⟩ := ansI hp.1 (hp.2.2.2.1 (0, ([(2, 1)], 0)) List.mem_cons_self)
    have ey : y.toInt = 1 * pI h 0 (q + 1) + 0 + 0 := ey
    refine ⟨?_, hi', hm⟩
    rw [er, show fA (pI h 0 q) (pI h 0 (q + 1)) x.toInt = y.toInt from by unfold fA; rw [if_neg c0, if_pos c1]; omega, Int32.ofInt_toInt]
  have ef : fA (pI h 0 q) (pI h 0 (q + 1)) x.toInt = -1 := by
    unfold fA
    rw [if_neg c0, if_neg c1]
  rw [ef]
  by_cases c2 : x.toInt < 0
  · obtain ⟨a1, a2⟩ := arg (-2147483648) (-1) nb.1 (by omega)
    refine spf_ok (d := 9) _ b3 hT (by decide) a1 a2 (sA0_ok _) hP hi (fun e he => nomatch he) ?_
    intro e he r' h' hp hi' hm
    have he := List.mem_singleton.mp he
    subst he
    exact ⟨rK_ok hp, hi', hm⟩
  · obtain ⟨a1, a2⟩ := arg 2 2147483647 (by omega) nb.2
    refine spf_ok (d := 9) _ b4 hT (by decide) a1 a2 (sA0_ok _) hP hi (fun e he => nomatch he) ?_
    intro e he r' h' hp hi' hm
    have he := List.mem_singleton.mp he
    subst he
    exact ⟨rK_ok hp, hi', hm⟩
theorem zpr2 (l : Launch) {f1 f2 : zH} {A : zAb} (g1 : zRC A f1) (g2 : zRM A f2) (hb : zB4 A.2.2.1) (x1 : Int32) : ∃ (a : Int32) (A' : zAb), zB4 A'.2.2.1 ∧ (∀ Γ : zG, zSem l Γ false 10 (zhd 76) [.ref 0, .int x1] f1 (fun r f => r = some (.int a) ∧ zRC A' f)) ∧ (∀ Γ : zG, zSem l Γ false 10 (zhd 226) [.ref 0, .int x1] f2 (fun r f => r = some (.int a) ∧ zRM A' f)) := by
  refine ⟨Int32.ofInt (fA A.2.2.1.1 A.2.2.1.2.1 x1.toInt), A, hb, fun Γ => ?_, fun Γ => ?_⟩
  · refine (zftA (q := 2) (fun mi c hc _ => sTC_ok l Γ mi c hc) ft_C g1.1 x1).mono ?_
    rintro r f ⟨e, j1, m1⟩
    rw [g1.2.2.2.2.1.1, g1.2.2.2.2.1.2.1] at e
    exact ⟨e, g1.md j1 m1 (by decide +kernel)⟩
  · refine (zftA (q := 4) (fun mi c hc _ => sTM_ok l Γ mi c hc) ft_M g2.1 x1).mono ?_
    rintro r f ⟨e, j1, m1⟩
    rw [g2.2.2.2.2.1.1, g2.2.2.2.2.1.2.1] at e
    exact ⟨e, g2.md j1 m1 (by decide +kernel)⟩
/-- go -/
theorem zpr11 (l : Launch) {f1 f2 : zH} {A : zAb} (g1 : zRC A f1) (g2 : zRM A f2) (hb : zB4 A.2.2.1) (x1 : Int32) : ∃ (a : Int32) (A' : zAb), zB4 A'.2.2.1 ∧ (∀ Γ : zG, zSem l Γ false 10 (zhd 98) [.ref 0, .int x1] f1 (fun r f => r = some (.int a) ∧ zRC A' f)) ∧ (∀ Γ : zG, zSem l Γ false 10 (zhd 252) [.ref 0, .int x1] f2 (fun r f => r = some (.int a) ∧ zRM A' f)) := by
  obtain ⟨b0, b1, b2, b3⟩ := hb
  refine ⟨Int32.ofInt (goA A.2.2.1.2.2.1 x1.toInt), (A.1, A.2.1, ((A.2.2.1.1, A.2.2.1.2.1, goN A.2.2.1.2.2.1 x1.toInt, A.2.2.1.2.2.2), A.2.2.2)), ⟨?_, ?_, b2, b3⟩, fun Γ => ?_, fun Γ => ?_⟩
  · show 0 ≤ goN A.2.2.1.2.2.1 x1.toInt
    unfold goN
    split <;> omega
  · show goN A.2.2.1.2.2.1 x1.toInt ≤ 9000
    unfold goN
    split <;> omega
  · refine (zgoC g1.1 g1.2.2.2.2.1.2.2.1 b0 b1).mono ?_
    rintro r f ⟨e, j1, m1, q⟩
    refine ⟨e, g1.tp j1 m1 (by decide +kernel) (by decide +kernel) ⟨⟨(pI_md m1 (by decide +kernel)).trans g1.2.2.2.2.1.1, (pI_md m1 (by decide +kernel)).trans g1.2.2.2.2.1.2.1, q, (pI_md m1 (by decide +kernel)).trans g1.2.2.2.2.1.2.2.2.1, fun e => (pI_md m1 (by decide +kernel)).trans (g1.2.2.2.2.1.2.2.2.2.1 e), (pI_md m1 (by decide +kernel)).trans g1.2.2.2.2.1.2.2.2.2.2.1, (pI_md m1 (by decide +kernel)).trans g1.2.2.2.2.1.2.2.2.2.2.2⟩, g1.2.2.2.2.2.md m1 (by decide +kernel)⟩⟩
  · refine (zgoM g2.1 g2.2.2.2.2.1.2.2.1 b0 b1).mono ?_
    rintro r f ⟨e, j1, m1, q⟩
    refine ⟨e, g2.tp j1 m1 (by decide +kernel) (by decide +kernel) ⟨⟨(pI_md m1 (by decide +kernel)).trans g2.2.2.2.2.1.1, (pI_md m1 (by decide +kernel)).trans g2.2.2.2.2.1.2.1, q, (pI_md m1 (by decide +kernel)).trans g2.2.2.2.2.1.2.2.2.1, fun e => (pI_md m1 (by decide +kernel)).trans (g2.2.2.2.2.1.2.2.2.2.1 e), (pI_md m1 (by decide +kernel)).trans g2.2.2.2.2.1.2.2.2.2.2.1, (pI_md m1 (by decide +kernel)).trans g2.2.2.2.2.1.2.2.2.2.2.2⟩, g2.2.2.2.2.2.md g2.1 m1 (by decide +kernel)⟩⟩
/-! images -/
def kcT (mi : Nat) : List sCt := if mi = 112 then [] else sTC mi
theorem kcTd (l : Launch) (Γ : zG) (dep : Nat) : ∀ mi, ∀ c ∈ kcT mi, c.2.2.2.2.2 ≤ dep → sCon l Γ swC mi c := fun mi c hc _ => by
  unfold kcT at hc
  split at hc
  · cases hc
  · exact sTC_ok l Γ mi c hc
def kcM : sM := [(0, 9, 10), (49, 0, 4), (50, 0, 8), (51, 0, 8), (52, 0, 8), (53, 0, 8), (54, 0, 10)]
def kcR (q1 j1 q2 j2 : Nat) (A : sAs) : sRv := (some (.inl sF32), A, ([(q1, (none, (j1 : Int)), ([(0, 1)], 0)), (q2, (none, (j2 : Int)), ([(0, 1)], 0))], [(0, ([(0, 1)], 0))], [], []))
theorem kc_b : spfB swC kcT kcM 600 6 173 [.inr (.inl 0)] sA0 [(43, (none, 0), sF32)] [] [kcR 43 0 49 0 (a1 [(0, 9, (1, 1))])] = true := by decide +kernel
def kmM : sM := [(0, 2, 3), (0, 82, 83), (0, 85, 86), (42, 0, 32), (43, 0, 20)]
theorem km_b : spfB swM sTM kmM 2000 6 308 [.inr (.inl 0)] sA0 [(36, (none, 0), sF32)] [] [kcR 36 0 43 19 (a1 [(0, 82, (1, 1))])] = true := by decide +kernel
def bcM : sM := [(43, 0, 4), (44, 0, 8), (45, 0, 8), (46, 0, 8), (47, 0, 8), (48, 0, 10), (86, 4, 5)]
theorem bc_0 : spfB swC kcT [] 100 6 174 [.inr (.inl 0)] (a1 [(0, 9, (0, 0))]) [] [] [rK (-1)] = true := by decide +kernel
theorem bc_1 : spfB swC kcT bcM 600 6 174 [.inr (.inl 0)] (a1 [(0, 9, (1, 1))]) [(49, (none, 0), sF32)] [] [kcR 49 0 43 0 sA0] = true := by decide +kernel
def bmM : sM := [(0, 2, 3), (0, 65, 66), (0, 80, 81), (29, 0, 8), (30, 0, 8), (31, 0, 8), (32, 0, 8), (33, 0, 8), (34, 0, 10), (35, 0, 1), (36, 0, 1)]
theorem bm_0 : spfB swM sTM [(0, 2, 3)] 100 6 309 [.inr (.inl 0)] (a1 [(0, 82, (0, 0))]) [] [] [rK (-1)] = true := by decide +kernel
theorem bm_1 : spfB swM sTM bmM 2000 6 309 [.inr (.inl 0)] (a1 [(0, 82, (1, 1))]) [(43, (none, 19), sF32)] [] [kcR 43 19 36 0 sA0] = true := by decide +kernel
theorem zkr {l : Launch} {Γ : zG} {w : sW} {T : Nat → List sCt} {md : sM} {n mi q1 j1 q2 j2 : Nat} {A0 A1 : sAs} (hT : ∀ mi, ∀ c ∈ T mi, c.2.2.2.2.2 ≤ 6 → sCon l Γ w mi c) (hB : spfB w T md n 6 mi [.inr (.inl 0)] A0 [(q1, (none, (j1 : Int)), sF32)] [] [kcR q1 j1 q2 j2 A1] = true) {h : zH} (hi : sInv w h) (hA : sAok A0 h) : zSem l Γ false 10 (zhd mi) [.ref 0] h (fun r h' => r = some (.int (Int32.ofInt (pI h q1 j1))) ∧ sInv w h' ∧ sMd md h h' ∧ pI h' q1 j1 = pI h q1 j1 ∧ pI h' q2 j2 = pI h q1 j1 ∧ sAok A1 h') := by
  have e1 : ((j1 : Int)).toNat = j1 := Int.toNat_natCast j1
  have e2 : ((j2 : Int)).toNat = j2 := Int.toNat_natCast j2
  refine spf_ok (d := 9) (fun i => [pI h q1 j1].getD i 0) hB hT (by decide) ⟨_, _, rfl, rfl, rfl⟩ ⟨rfl, trivial⟩ hA ⟨⟨?_, (i32bd (h.2.1 q1 j1)).1, (i32bd (h.2.1 q1 j1)).2⟩, trivial⟩ hi (fun e he => nomatch he) ?_
  · show (h.2.1 q1 ((j1 : Int)).toNat).toInt = pI h q1 j1
    rw [e1]
    rfl
  · intro e he r' h' hp hi' hm
    have he := List.mem_singleton.mp he
    subst he
    obtain ⟨y, er, ey⟩ := ansI hp.1 (hp.2.2.2.1 (0, ([(0, 1)], 0)) List.mem_cons_self)
    have ey : y.toInt = 1 * pI h q1 j1 + 0 + 0 := ey
    have p1 : (h'.2.1 q1 ((j1 : Int)).toNat).toInt = 1 * pI h q1 j1 + 0 + 0 := hp.2.2.1 (q1, (none, (j1 : Int)), ([(0, 1)], 0)) List.mem_cons_self
    have p2 : (h'.2.1 q2 ((j2 : Int)).toNat).toInt = 1 * pI h q1 j1 + 0 + 0 := hp.2.2.1 (q2, (none, (j2 : Int)), ([(0, 1)], 0)) (List.mem_cons_of_mem _ List.mem_cons_self)
    rw [e1] at p1
    rw [e2] at p2
    refine ⟨?_, hi', hm, ?_, ?_, hp.2.1⟩
    · rw [er, show pI h q1 j1 = y.toInt from by omega, Int32.ofInt_toInt]
    · show (h'.2.1 q1 j1).toInt = _
      omega
    · show (h'.2.1 q2 j2).toInt = _
      omega
theorem zpr39 (l : Launch) {f1 f2 : zH} {A : zAb} (g1 : zRC A f1) (g2 : zRM A f2) (hb : zB4 A.2.2.1) : ∃ (a : Int32) (A' : zAb), zB4 A'.2.2.1 ∧ (∀ Γ : zG, zSem l Γ false 10 (zhd 173) [.ref 0] f1 (fun r f => r = some (.int a) ∧ zRC A' f)) ∧ (∀ Γ : zG, zSem l Γ false 10 (zhd 308) [.ref 0] f2 (fun r f => r = some (.int a) ∧ zRM A' f)) := by
  obtain ⟨b0, b1, b2, b3⟩ := hb
  refine ⟨Int32.ofInt A.2.2.1.2.2.1, (A.1, A.2.1, ((A.2.2.1.1, A.2.2.1.2.1, A.2.2.1.2.2.1, 1, A.2.2.1.2.2.1, A.2.2.1.2.2.2.2.2), A.2.2.2)), ⟨b0, b1, Or.inr rfl, fun _ => ⟨b0, b1⟩, b3.2⟩, fun Γ => ?_, fun Γ => ?_⟩
  · refine (zkr (q1 := 43) (j1 := 0) (q2 := 49) (j2 := 0) (kcTd l Γ 6) kc_b g1.1 (sA0_ok _)).mono ?_
    rintro r f ⟨e, j1, m1, p1, p2, p3⟩
    have p4 : 1 ≤ pI f 0 9 ∧ pI f 0 9 ≤ 1 := p3.1 (0, 9, (1, 1)) List.mem_cons_self
    rw [g1.2.2.2.2.1.2.2.1] at e p1 p2
    exact ⟨e, g1.tp j1 m1 (by decide +kernel) (by decide +kernel) ⟨⟨(pI_md m1 (by decide +kernel)).trans g1.2.2.2.2.1.1, (pI_md m1 (by decide +kernel)).trans g1.2.2.2.2.1.2.1, p1, by show pI f 0 9 = 1; omega, fun _ => p2, (pI_md m1 (by decide +kernel)).trans g1.2.2.2.2.1.2.2.2.2.2.1, (pI_md m1 (by decide +kernel)).trans g1.2.2.2.2.1.2.2.2.2.2.2⟩, g1.2.2.2.2.2.md m1 (by decide +kernel)⟩⟩
  · refine (zkr (q1 := 36) (j1 := 0) (q2 := 43) (j2 := 19) (fun mi c hc _ => sTM_ok l Γ mi c hc) km_b g2.1 (sA0_ok _)).mono ?_
    rintro r f ⟨e, j1, m1, p1, p2, p3⟩
    have p4 : 1 ≤ pI f 0 82 ∧ pI f 0 82 ≤ 1 := p3.1 (0, 82, (1, 1)) List.mem_cons_self
    rw [g2.2.2.2.2.1.2.2.1] at e p1 p2
    exact ⟨e, g2.tp j1 m1 (by decide +kernel) (by decide +kernel) ⟨⟨(pI_md m1 (by decide +kernel)).trans g2.2.2.2.2.1.1, (pI_md m1 (by decide +kernel)).trans g2.2.2.2.2.1.2.1, p1, by show pI f 0 82 = 1; omega, fun _ => p2, (pI_md m1 (by decide +kernel)).trans g2.2.2.2.2.1.2.2.2.2.2.1, (pI_md m1 (by decide +kernel)).trans g2.2.2.2.2.1.2.2.2.2.2.2⟩, g2.2.2.2.2.2.md g2.1 m1 (by decide +kernel)⟩⟩
theorem zpr40 (l : Launch) {f1 f2 : zH} {A : zAb} (g1 : zRC A f1) (g2 : zRM A f2) (hb : zB4 A.2.2.1) : ∃ (a : Int32) (A' : zAb), zB4 A'.2.2.1 ∧ (∀ Γ : zG, zSem l Γ false 10 (zhd 174) [.ref 0] f1 (fun r f => r = some (.int a) ∧ zRC A' f)) ∧ (∀ Γ : zG, zSem l Γ false 10 (zhd 309) [.ref 0] f2 (fun r f => r = some (.int a) ∧ zRM A' f)) := by
  obtain ⟨b0, b1, b2, b3⟩ := hb
  rcases b2 with b2 | b2
  · refine ⟨Int32.ofInt (-1), A, ⟨b0, b1, Or.inl b2, b3⟩, fun Γ => ?_, fun Γ => ?_⟩
    · have q9 : pI f1 0 9 = A.2.2.1.2.2.2.1 := g1.2.2.2.2.1.2.2.2.1
      refine spf_ok (mi := 174) (d := 9) (fun _ => 0) bc_0 (kcTd l Γ 6) (by decide) ⟨_, _, rfl, rfl, rfl⟩ ⟨rfl, trivial⟩ (sAok.of (iB (by omega) (by omega) iE)) trivial g1.1 (fun e he => nomatch he) ?_
      intro e he r' h' hp hi' hm
      have he := List.mem_singleton.mp he
      subst he
      exact ⟨rK_ok hp, g1.md hi' hm rfl⟩
    · have q9 : pI f2 0 82 = A.2.2.1.2.2.2.1 := g2.2.2.2.2.1.2.2.2.1
      refine spf_ok (mi := 309) (d := 9) (fun _ => 0) bm_0 (fun mi c hc _ => sTM_ok l Γ mi c hc) (by decide) ⟨_, _, rfl, rfl, rfl⟩ ⟨rfl, trivial⟩ (sAok.of (iB (by omega) (by omega) iE)) trivial g2.1 (fun e he => nomatch he) ?_
      intro e he r' h' hp hi' hm
      have he := List.mem_singleton.mp he
      subst he
      exact ⟨rK_ok hp, g2.md hi' hm (by decide +kernel)⟩
  · obtain ⟨b4, b5⟩ := b3.1 b2
    refine ⟨Int32.ofInt A.2.2.1.2.2.2.2.1, (A.1, A.2.1, ((A.2.2.1.1, A.2.2.1.2.1, A.2.2.1.2.2.2.2.1, A.2.2.1.2.2.2.1, A.2.2.1.2.2.2.2.1, A.2.2.1.2.2.2.2.2), A.2.2.2)), ⟨b4, b5, Or.inr b2, fun _ => ⟨b4, b5⟩, b3.2⟩, fun Γ => ?_, fun Γ => ?_⟩
    · have q9 : pI f1 0 9 = A.2.2.1.2.2.2.1 := g1.2.2.2.2.1.2.2.2.1
      refine (zkr (q1 := 49) (j1 := 0) (q2 := 43) (j2 := 0) (kcTd l Γ 6) bc_1 g1.1 (sAok.of (iB (by omega) (by omega) iE))).mono ?_
      rintro r f ⟨e, j1, m1, p1, p2, p3⟩
      rw [g1.2.2.2.2.1.2.2.2.2.1 b2] at e p1 p2
      exact ⟨e, g1.tp j1 m1 (by decide +kernel) (by decide +kernel) ⟨⟨(pI_md m1 (by decide +kernel)).trans g1.2.2.2.2.1.1, (pI_md m1 (by decide +kernel)).trans g1.2.2.2.2.1.2.1, p2, (pI_md m1 (by decide +kernel)).trans q9, fun _ => p1, (pI_md m1 (by decide +kernel)).trans g1.2.2.2.2.1.2.2.2.2.2.1, (pI_md m1 (by decide +kernel)).trans g1.2.2.2.2.1.2.2.2.2.2.2⟩, g1.2.2.2.2.2.md m1 (by decide +kernel)⟩⟩
    · have q9 : pI f2 0 82 = A.2.2.1.2.2.2.1 := g2.2.2.2.2.1.2.2.2.1
      refine (zkr (q1 := 43) (j1 := 19) (q2 := 36) (j2 := 0) (fun mi c hc _ => sTM_ok l Γ mi c hc) bm_1 g2.1 (sAok.of (iB (by omega) (by omega) iE))).mono ?_
      rintro r f ⟨e, j1, m1, p1, p2, p3⟩
      rw [g2.2.2.2.2.1.2.2.2.2.1 b2] at e p1 p2
      exact ⟨e, g2.tp j1 m1 (by decide +kernel) (by decide +kernel) ⟨⟨(pI_md m1 (by decide +kernel)).trans g2.2.2.2.2.1.1, (pI_md m1 (by decide +kernel)).trans g2.2.2.2.2.1.2.1, p2, (pI_md m1 (by decide +kernel)).trans q9, fun _ => p1, (pI_md m1 (by decide +kernel)).trans g2.2.2.2.2.1.2.2.2.2.2.1, (pI_md m1 (by decide +kernel)).trans g2.2.2.2.2.1.2.2.2.2.2.2⟩, g2.2.2.2.2.2.md g2.1 m1 (by decide +kernel)⟩⟩
