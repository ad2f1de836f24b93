/-! the reference: names -/
def kA5 (r : Nat) : List sT := [sr0, .inr (.inl 5), sI1 5 5, sI1 r r]
def kL5 (r : Nat) : List (Nat × sT) := [(0, sr0), (1, .inr (.inl 5)), (2, sI1 5 5), (3, sI1 r r)]
def kE5 (r : Nat) : sEd := (21, [sI1 (-2147483648) 2147483647, sI1 r r, sI1 5 5, .inr (.inl 5)], kL5 r, sA0, [], [(0, 0, 0)])
def kFl5 (mi r : Nat) : Bool := spmB swM sT0 [(0, 4, 6)] 100 1 mi [] (kA5 r) ([(0, 8, (0, 1))], [], [], []) fP [] [fR 1] && (spmB swM sT0 [(0, 4, 6)] 100 1 mi [] (kA5 r) ([(0, 8, (3, 6))], [], [], []) fP [] [fR 1] && spmB swM sT0 [] 100 1 mi [] (kA5 r) ([(0, 8, (2, 2))], [], [], []) [(0, (none, 9), (-2147483648, 2147483647))] [kE5 r] [])
theorem kF5N : (List.range 5).all (kFl5 204) = true := by decide +kernel
theorem kF5T : (List.range (5 + 1)).all (kFl5 207) = true := by decide +kernel
theorem kN51 : (List.range 5).all (fun r => (List.range 5).all (fun k => spqB swM sT0 [(0, 4, 6)] 100 1 204 (kL5 r) sA0 fP [(k : Int)] 24 [] [fR 3])) = true := by decide +kernel
def kN5E (r : Nat) : sEd := (43, [sr0], kL5 r, sA0, [(5, 5 + r, 0, 0)], [])
theorem kN52 : (List.range 5).all (fun r => spqB swM sT0 [(5, 5 + r, 5 + r + 1)] 100 1 204 (kL5 r) sA0 [(0, (none, 9), (-2147483648, 2147483647))] [-1] 24 [kN5E r] []) = true := by decide +kernel
theorem kN53 : (List.range 5).all (fun r => spqB swM sT0 [] 100 1 204 (kL5 r) sA0 [] [] 46 [] [rI 1 sA0 []]) = true := by decide +kernel
theorem kT51 : (List.range (5 + 1)).all (fun r => spqB swM sT0 [(0, 4, 6)] 100 1 207 (kL5 r) sA0 fP [-1] 24 [] [fR 4]) = true := by decide +kernel
def kT5L (r k : Nat) : List (Nat × sT) := (4, sI1 k k) :: kL5 r
def kT5E (r k : Nat) : sEd := (38, [sr0], kT5L r k, sA0, [], [])
theorem kT52 : (List.range (5 + 1)).all (fun r => (List.range 5).all (fun k => spqB swM sT0 [] 100 1 207 (kL5 r) sA0 [] [(k : Int)] 24 [kT5E r k] [])) = true := by decide +kernel
theorem kT53 : (List.range (5 + 1)).all (fun r => (List.range 5).all (fun k => spqB swM sT0 [(0, 11, 12)] 100 1 207 (kT5L r k) sA0 [] [] 41 [] [rI 1 ([(0, 11, (k, k))], [], [], []) []])) = true := by decide +kernel
def kA6 (r : Nat) : List sT := [sr0, .inr (.inl 6), sI1 8 8, sI1 r r]
def kL6 (r : Nat) : List (Nat × sT) := [(0, sr0), (1, .inr (.inl 6)), (2, sI1 8 8), (3, sI1 r r)]
def kE6 (r : Nat) : sEd := (21, [sI1 (-2147483648) 2147483647, sI1 r r, sI1 8 8, .inr (.inl 6)], kL6 r, sA0, [], [(0, 0, 0)])
def kFl6 (mi r : Nat) : Bool := spmB swM sT0 [(0, 4, 6)] 100 1 mi [] (kA6 r) ([(0, 8, (0, 1))], [], [], []) fP [] [fR 1] && (spmB swM sT0 [(0, 4, 6)] 100 1 mi [] (kA6 r) ([(0, 8, (3, 6))], [], [], []) fP [] [fR 1] && spmB swM sT0 [] 100 1 mi [] (kA6 r) ([(0, 8, (2, 2))], [], [], []) [(0, (none, 9), (-2147483648, 2147483647))] [kE6 r] [])
theorem kF6N : (List.range 8).all (kFl6 204) = true := by decide +kernel
theorem kF6T : (List.range (8 + 1)).all (kFl6 207) = true := by decide +kernel
theorem kN61 : (List.range 8).all (fun r => (List.range 8).all (fun k => spqB swM sT0 [(0, 4, 6)] 100 1 204 (kL6 r) sA0 fP [(k : Int)] 24 [] [fR 3])) = true := by decide +kernel
def kN6E (r : Nat) : sEd := (43, [sr0], kL6 r, sA0, [(6, 8 + r, 0, 0)], [])
theorem kN62 : (List.range 8).all (fun r => spqB swM sT0 [(6, 8 + r, 8 + r + 1)] 100 1 204 (kL6 r) sA0 [(0, (none, 9), (-2147483648, 2147483647))] [-1] 24 [kN6E r] []) = true := by decide +kernel
theorem kN63 : (List.range 8).all (fun r => spqB swM sT0 [] 100 1 204 (kL6 r) sA0 [] [] 46 [] [rI 1 sA0 []]) = true := by decide +kernel
theorem kT61 : (List.range (8 + 1)).all (fun r => spqB swM sT0 [(0, 4, 6)] 100 1 207 (kL6 r) sA0 fP [-1] 24 [] [fR 4]) = true := by decide +kernel
def kT6L (r k : Nat) : List (Nat × sT) := (4, sI1 k k) :: kL6 r
def kT6E (r k : Nat) : sEd := (38, [sr0], kT6L r k, sA0, [], [])
theorem kT62 : (List.range (8 + 1)).all (fun r => (List.range 8).all (fun k => spqB swM sT0 [] 100 1 207 (kL6 r) sA0 [] [(k : Int)] 24 [kT6E r k] [])) = true := by decide +kernel
theorem kT63 : (List.range (8 + 1)).all (fun r => (List.range 8).all (fun k => spqB swM sT0 [(0, 11, 12)] 100 1 207 (kT6L r k) sA0 [] [] 41 [] [rI 1 ([(0, 11, (k, k))], [], [], []) []])) = true := by decide +kernel
theorem zv_kN : zcvB 204 43 12 0 195 = true := by decide +kernel
theorem zv_kT : zcvB 207 38 12 0 195 = true := by decide +kernel
theorem zs_kN : zcsB 204 21 4 205 = true := by decide +kernel
theorem zs_kT : zcsB 207 21 4 205 = true := by decide +kernel
def nwMd (c i : Nat) : sM := [(0, 4, 6), (0, 7, 11), (c, i, i + 1)]
theorem nwMd_s {c i : Nat} : ∀ q k, smem [(c, i, i + 1)] q k = true → smem (nwMd c i) q k = true := fun q k h => by
  obtain ⟨e, h1, h2⟩ := smem1 h
  refine List.any_eq_true.mpr ⟨(c, i, i + 1), List.mem_cons_of_mem _ (List.mem_cons_of_mem _ List.mem_cons_self), ?_⟩
  simp only [Bool.and_eq_true, beq_iff_eq, decide_eq_true_eq]
  exact ⟨e.symm, h1, h2⟩
theorem nwMd_t {c i : Nat} {a b : Nat} (hab : (a = 4 ∧ b = 6) ∨ (a = 7 ∧ b = 11)) : ∀ q k, smem [(0, a, b)] q k = true → smem (nwMd c i) q k = true := fun q k h => by
  obtain ⟨e, h1, h2⟩ := smem1 h
  rcases hab with ⟨rfl, rfl⟩ | ⟨rfl, rfl⟩
  · refine List.any_eq_true.mpr ⟨(0, 4, 6), List.mem_cons_self, ?_⟩
    simp only [Bool.and_eq_true, beq_iff_eq, decide_eq_true_eq]
    exact ⟨e.symm, h1, h2⟩
  · refine List.any_eq_true.mpr ⟨(0, 7, 11), List.mem_cons_of_mem _ List.mem_cons_self, ?_⟩
    simp only [Bool.and_eq_true, beq_iff_eq, decide_eq_true_eq]
    exact ⟨e.symm, h1, h2⟩
theorem zNew5 {l : Launch} {Γ : zG} {d : Nat} {D : zD} {q : Nat} {h : zH} (hi : sInv swM h) (hT : tTk D q h) {f : Nat → Int} {r : Nat} (hr : r < 5) (hf : ∀ i, i < r → pI h 5 (5 + i) = f i) {F R : Int32} (hF : F.toInt = 5) (hR : R.toInt = (r : Int)) : zSem l Γ false (d + 3) (zhd 204) [.ref 0, .ref 5, .int F, .int R] h (fun rr h' => sInv swM h' ∧ sMd (nwMd 5 (5 + r)) h h' ∧ ∃ x : Int32, rr = some (.int x) ∧ ∀ KF KO, wNew D f r q KF KO → (∃ c p, KF c p ∧ x.toInt = 0 ∧ fM c p h') ∨ (∃ v q', KO v q' ∧ x.toInt = 1 ∧ tTk D q' h' ∧ pI h' 5 (5 + r) = v)) := by
  have hs : sTL (kA5 r) [.ref 0, .ref 5, .int F, .int R] := ⟨_, _, rfl, rfl, _, _, rfl, rfl, _, _, rfl, ⟨F, rfl, by show 5 ≤ _; omega, by show _ ≤ 5; omega⟩, _, _, rfl, ⟨R, rfl, by show (r : Int) ≤ _; omega, by show _ ≤ (r : Int); omega⟩, rfl⟩
  have f1 := tkB_f hT.2.2.2
  have e10 := hT.2.2.1
  have w9 : -2147483648 ≤ pI h 0 9 ∧ pI h 0 9 ≤ 2147483647 := i32bd (h.2.1 0 9)
  have b0 := List.all_eq_true.mp kF5N r (List.mem_range.mpr (by omega))
  simp only [kFl5, Bool.and_eq_true] at b0
  obtain ⟨b1, b2, b3⟩ := b0
  by_cases h2 : kF D q = 2
  · refine spm_c (fun _ => pI h 0 9) b3 (by omega) hs (sAok.of (iB (a := 2) (b := 2) (by omega) (by omega) iE)) ⟨⟨rfl, w9.1, w9.2⟩, trivial⟩ hi ?_
    intro lo1 st1 h1 hp hi1 hm1
    obtain ⟨p1, p2, p3, p4, p5⟩ := hp
    obtain ⟨_, _, rfl, ⟨W, rfl, hW⟩, _, _, rfl, ⟨R', rfl, r1, r2⟩, _, _, rfl, ⟨F', rfl, g1, g2⟩, vr, _, rfl, hr1, hn⟩ := p1
    have hr1 : vr = .ref 5 := hr1
    subst hr1
    have hn : _ = [] := hn
    subst hn
    obtain ⟨W', eW, hW'⟩ := p5 (0, 0, 0) List.mem_cons_self
    cases eW
    have hW' : W.toInt = pI h 0 9 + 0 := hW'
    have r1 : (r : Int) ≤ R'.toInt := r1
    have r2 : R'.toInt ≤ (r : Int) := r2
    have g1 : 5 ≤ F'.toInt := g1
    have g2 : F'.toInt ≤ 5 := g2
    have w1 : ∀ q j, pI h1 q j = pI h q j := fun q j => pI_md hm1 rfl
    refine zcallS (as := [.int W, .int R', .int F', .ref 5]) zs_kN rfl ?_
    refine (zfind5 (d := d + 1) hi1 (F := F') (R := R') (v := W) (r := r) (by omega) (by omega) (by omega)).mono ?_
    rintro rr h1' ⟨rfl, y, rfl, hy⟩
    have hy : y.toInt = fIx f r (lF D q) := by
      rw [hy, fIx_eq (g := f) (fun i hlt => (w1 _ _).trans (hf i hlt))]
      congr 1
      omega
    have yb := fIx_bd f r (lF D q)
    have hT1 : tTk D q h1' := hT.md hm1 rfl
    by_cases hneg : fIx f r (lF D q) < 0
    · have ey : sIts [-1] [Value.int y] := ⟨y, [], rfl, by omega, rfl⟩
      refine spq_c (pc := 24) (fun _ => pI h1' 0 9) (List.all_eq_true.mp kN52 r (List.mem_range.mpr hr)) (by omega) p2 (sA0_ok _) ⟨⟨rfl, i32bd _⟩, trivial⟩ hi1 ey ?_
      intro lo2 st2 h2' hp2 hi2 hm2
      obtain ⟨s1, s2, s3, s4, s5⟩ := hp2
      obtain ⟨vr, _, rfl, hr2, hn⟩ := s1
      have hr2 : vr = .ref 0 := hr2
      subst hr2
      have hn : _ = [] := hn
      subst hn
      have g11 : pI h2' 5 (5 + r) = pI h1' 0 9 + 0 := s4 (5, 5 + r, 0, 0) List.mem_cons_self
      refine zcallV (as := []) zv_kN rfl (by rw [hi2.1]; rfl) ?_
      refine (ztokR (d := d) hi2 (hT1.1.md hm2 (by rfl) (by rfl) (by rfl))).mono ?_
      rintro r3 h3 ⟨rfl, hi3, ht3, hm3⟩
      refine spq_r (pc := 46) (fun _ => 0) (List.all_eq_true.mp kN53 r (List.mem_range.mpr hr)) (by omega) s2 (sA0_ok _) trivial hi3 rfl ?_
      intro x h4 hx hi4 hm4 _ _
      refine ⟨hi4, ((((hm1.sub (md := nwMd 5 (5 + r)) rfl).tr hm2 nwMd_s).tr hm3 (nwMd_t (Or.inr ⟨rfl, rfl⟩))).seq (hm4.sub rfl)), x, rfl, fun KF KO hw => Or.inr ⟨lF D q, qF D q, ?_, hx, ht3.md hm4 rfl, ?_⟩⟩
      · unfold wNew at hw
        rw [if_pos h2, if_pos hneg] at hw
        exact hw
      · rw [pI_md hm4 rfl, pI_md hm3 (q := 5) (j := 5 + r) (smem1n (fun g => by omega)), g11, w1]
        omega
    · have ek : ∃ k : Nat, k < 5 ∧ y.toInt = (k : Int) := ⟨y.toInt.toNat, by omega, by omega⟩
      obtain ⟨k, hk, ek⟩ := ek
      refine spq_f (pc := 24) (List.all_eq_true.mp (List.all_eq_true.mp kN51 r (List.mem_range.mpr hr)) k (List.mem_range.mpr hk)) (by omega) p2 (sA0_ok _) hi1 ⟨y, [], rfl, ek, rfl⟩ ?_
      intro x h' hx hi' hm' hfm
      refine ⟨hi', (hm1.sub rfl).tr hm' (nwMd_t (Or.inl ⟨rfl, rfl⟩)), x, rfl, fun KF KO hw => Or.inl ⟨3, q, ?_, hx, ?_⟩⟩
      · unfold wNew at hw
        rw [if_pos h2, if_neg hneg] at hw
        exact hw
      · rw [w1, e10] at hfm
        exact hfm
  · have hw : ∀ KF KO, wNew D f r q KF KO → KF 1 q := fun KF KO hw => by
      unfold wNew at hw
      rw [if_neg h2] at hw
      exact hw
    have fin : ∀ (x : Int32) h', x.toInt = 0 → sInv swM h' → sMd [(0, 4, 6)] h h' → fM 1 (pI h 0 10) h' → sInv swM h' ∧ sMd (nwMd 5 (5 + r)) h h' ∧ ∃ y : Int32, some (Value.int x) = some (.int y) ∧ ∀ KF KO, wNew D f r q KF KO → (∃ c p, KF c p ∧ y.toInt = 0 ∧ fM c p h') ∨ (∃ v q', KO v q' ∧ y.toInt = 1 ∧ tTk D q' h' ∧ pI h' 5 (5 + r) = v) := fun x h' hx hi' hm' hf => ⟨hi', sMd.rf.tr hm' (nwMd_t (Or.inl ⟨rfl, rfl⟩)), x, rfl, fun KF KO g => Or.inl ⟨1, q, hw KF KO g, hx, by rw [← e10]; exact hf⟩⟩
    by_cases hlt : pI h 0 8 < 2
    · exact spm_f b1 (by omega) hs (sAok.of (iB (by omega) (by omega) iE)) hi fin
    · exact spm_f b2 (by omega) hs (sAok.of (iB (by omega) (by omega) iE)) hi fin
theorem zThr5 {l : Launch} {Γ : zG} {d : Nat} {D : zD} {q : Nat} {h : zH} (hi : sInv swM h) (hT : tTk D q h) {f : Nat → Int} {r : Nat} (hr : r ≤ 5) (hf : ∀ i, i < r → pI h 5 (5 + i) = f i) {F R : Int32} (hF : F.toInt = 5) (hR : R.toInt = (r : Int)) : zSem l Γ false (d + 3) (zhd 207) [.ref 0, .ref 5, .int F, .int R] h (fun rr h' => sInv swM h' ∧ sMd nMd1 h h' ∧ ∃ x : Int32, rr = some (.int x) ∧ ∀ KF KO, wThr D f r q KF KO → (∃ c p, KF c p ∧ x.toInt = 0 ∧ fM c p h') ∨ (∃ v q', KO v q' ∧ x.toInt = 1 ∧ tTk D q' h' ∧ pI h' 0 11 = v ∧ 0 ≤ v ∧ v < (r : Int))) := by
  have hs : sTL (kA5 r) [.ref 0, .ref 5, .int F, .int R] := ⟨_, _, rfl, rfl, _, _, rfl, rfl, _, _, rfl, ⟨F, rfl, by show 5 ≤ _; omega, by show _ ≤ 5; omega⟩, _, _, rfl, ⟨R, rfl, by show (r : Int) ≤ _; omega, by show _ ≤ (r : Int); omega⟩, rfl⟩
  have f1 := tkB_f hT.2.2.2
  have e10 := hT.2.2.1
  have w9 : -2147483648 ≤ pI h 0 9 ∧ pI h 0 9 ≤ 2147483647 := i32bd (h.2.1 0 9)
  have b0 := List.all_eq_true.mp kF5T r (List.mem_range.mpr (by omega))
  simp only [kFl5, Bool.and_eq_true] at b0
  obtain ⟨b1, b2, b3⟩ := b0
  by_cases h2 : kF D q = 2
  · refine spm_c (fun _ => pI h 0 9) b3 (by omega) hs (sAok.of (iB (a := 2) (b := 2) (by omega) (by omega) iE)) ⟨⟨rfl, w9.1, w9.2⟩, trivial⟩ hi ?_
    intro lo1 st1 h1 hp hi1 hm1
    obtain ⟨p1, p2, p3, p4, p5⟩ := hp
    obtain ⟨_, _, rfl, ⟨W, rfl, hW⟩, _, _, rfl, ⟨R', rfl, r1, r2⟩, _, _, rfl, ⟨F', rfl, g1, g2⟩, vr, _, rfl, hr1, hn⟩ := p1
    have hr1 : vr = .ref 5 := hr1
    subst hr1
    have hn : _ = [] := hn
    subst hn
    obtain ⟨W', eW, hW'⟩ := p5 (0, 0, 0) List.mem_cons_self
    cases eW
    have hW' : W.toInt = pI h 0 9 + 0 := hW'
    have r1 : (r : Int) ≤ R'.toInt := r1
    have r2 : R'.toInt ≤ (r : Int) := r2
    have g1 : 5 ≤ F'.toInt := g1
    have g2 : F'.toInt ≤ 5 := g2
    have w1 : ∀ q j, pI h1 q j = pI h q j := fun q j => pI_md hm1 rfl
    refine zcallS (as := [.int W, .int R', .int F', .ref 5]) zs_kT rfl ?_
    refine (zfind5 (d := d + 1) hi1 (F := F') (R := R') (v := W) (r := r) (by omega) (by omega) (by omega)).mono ?_
    rintro rr h1' ⟨rfl, y, rfl, hy⟩
    have hy : y.toInt = fIx f r (lF D q) := by
      rw [hy, fIx_eq (g := f) (fun i hlt => (w1 _ _).trans (hf i hlt))]
      congr 1
      omega
    have yb := fIx_bd f r (lF D q)
    have hT1 : tTk D q h1' := hT.md hm1 rfl
    by_cases hneg : fIx f r (lF D q) < 0
    · refine spq_f (pc := 24) (List.all_eq_true.mp kT51 r (List.mem_range.mpr (by omega))) (by omega) p2 (sA0_ok _) hi1 ⟨y, [], rfl, by omega, rfl⟩ ?_
      intro x h' hx hi' hm' hfm
      refine ⟨hi', (hm1.sub rfl).seq (hm'.sub rfl), x, rfl, fun KF KO hw => Or.inl ⟨4, q, ?_, hx, ?_⟩⟩
      · unfold wThr at hw
        rw [if_pos h2, if_pos hneg] at hw
        exact hw
      · rw [w1, e10] at hfm
        exact hfm
    · have ek : ∃ k : Nat, k < 5 ∧ y.toInt = (k : Int) := ⟨y.toInt.toNat, by omega, by omega⟩
      obtain ⟨k, hk, ek⟩ := ek
      refine spq_c (pc := 24) (fun _ => 0) (List.all_eq_true.mp (List.all_eq_true.mp kT52 r (List.mem_range.mpr (by omega))) k (List.mem_range.mpr hk)) (by omega) p2 (sA0_ok _) trivial hi1 ⟨y, [], rfl, ek, rfl⟩ ?_
      intro lo2 st2 h2' hp2 hi2 hm2
      obtain ⟨s1, s2, s3, s4, s5⟩ := hp2
      obtain ⟨vr, _, rfl, hr2, hn⟩ := s1
      have hr2 : vr = .ref 0 := hr2
      subst hr2
      have hn : _ = [] := hn
      subst hn
      refine zcallV (as := []) zv_kT rfl (by rw [hi2.1]; rfl) ?_
      refine (ztokR (d := d) hi2 (hT1.1.md hm2 rfl rfl rfl)).mono ?_
      rintro r3 h3 ⟨rfl, hi3, ht3, hm3⟩
      refine spq_r (pc := 41) (fun _ => 0) (List.all_eq_true.mp (List.all_eq_true.mp kT53 r (List.mem_range.mpr (by omega))) k (List.mem_range.mpr hk)) (by omega) s2 (sA0_ok _) trivial hi3 rfl ?_
      intro x h4 hx hi4 hm4 hA4 _
      have q1 : (k : Int) ≤ pI h4 0 11 ∧ pI h4 0 11 ≤ (k : Int) := hA4.1 (0, 11, ((k : Int), (k : Int))) List.mem_cons_self
      refine ⟨hi4, (((hm1.sub rfl).seq (hm2.sub rfl)).seq (hm3.sub rfl)).seq (hm4.sub rfl), x, rfl, fun KF KO hw => Or.inr ⟨fIx f r (lF D q), qF D q, ?_, hx, ht3.md hm4 rfl, ?_⟩⟩
      · unfold wThr at hw
        rw [if_pos h2, if_neg hneg] at hw
        exact hw
      · exact ⟨by omega, by omega, by omega⟩
  · have hw : ∀ KF KO, wThr D f r q KF KO → KF 1 q := fun KF KO hw => by
      unfold wThr at hw
      rw [if_neg h2] at hw
      exact hw
    have fin : ∀ (x : Int32) h', x.toInt = 0 → sInv swM h' → sMd [(0, 4, 6)] h h' → fM 1 (pI h 0 10) h' → sInv swM h' ∧ sMd nMd1 h h' ∧ ∃ y : Int32, some (Value.int x) = some (.int y) ∧ ∀ KF KO, wThr D f r q KF KO → (∃ c p, KF c p ∧ y.toInt = 0 ∧ fM c p h') ∨ (∃ v q', KO v q' ∧ y.toInt = 1 ∧ tTk D q' h' ∧ pI h' 0 11 = v ∧ 0 ≤ v ∧ v < (r : Int)) := fun x h' hx hi' hm' hf => ⟨hi', hm'.sub rfl, x, rfl, fun KF KO g => Or.inl ⟨1, q, hw KF KO g, hx, by rw [← e10]; exact hf⟩⟩
    by_cases hlt : pI h 0 8 < 2
    · exact spm_f b1 (by omega) hs (sAok.of (iB (by omega) (by omega) iE)) hi fin
    · exact spm_f b2 (by omega) hs (sAok.of (iB (by omega) (by omega) iE)) hi fin
theorem zNew6 {l : Launch} {Γ : zG} {d : Nat} {D : zD} {q : Nat} {h : zH} (hi : sInv swM h) (hT : tTk D q h) {f : Nat → Int} {r : Nat} (hr : r < 8) (hf : ∀ i, i < r → pI h 6 (8 + i) = f i) {F R : Int32} (hF : F.toInt = 8) (hR : R.toInt = (r : Int)) : zSem l Γ false (d + 3) (zhd 204) [.ref 0, .ref 6, .int F, .int R] h (fun rr h' => sInv swM h' ∧ sMd (nwMd 6 (8 + r)) h h' ∧ ∃ x : Int32, rr = some (.int x) ∧ ∀ KF KO, wNew D f r q KF KO → (∃ c p, KF c p ∧ x.toInt = 0 ∧ fM c p h') ∨ (∃ v q', KO v q' ∧ x.toInt = 1 ∧ tTk D q' h' ∧ pI h' 6 (8 + r) = v)) := by
  have hs : sTL (kA6 r) [.ref 0, .ref 6, .int F, .int R] := ⟨_, _, rfl, rfl, _, _, rfl, rfl, _, _, rfl, ⟨F, rfl, by show 8 ≤ _; omega, by show _ ≤ 8; omega⟩, _, _, rfl, ⟨R, rfl, by show (r : Int) ≤ _; omega, by show _ ≤ (r : Int); omega⟩, rfl⟩
  have f1 := tkB_f hT.2.2.2
  have e10 := hT.2.2.1
  have w9 : -2147483648 ≤ pI h 0 9 ∧ pI h 0 9 ≤ 2147483647 := i32bd (h.2.1 0 9)
  have b0 := List.all_eq_true.mp kF6N r (List.mem_range.mpr (by omega))
  simp only [kFl6, Bool.and_eq_true] at b0
  obtain ⟨b1, b2, b3⟩ := b0
  by_cases h2 : kF D q = 2
  · refine spm_c (fun _ => pI h 0 9) b3 (by omega) hs (sAok.of (iB (a := 2) (b := 2) (by omega) (by omega) iE)) ⟨⟨rfl, w9.1, w9.2⟩, trivial⟩ hi ?_
    intro lo1 st1 h1 hp hi1 hm1
    obtain ⟨p1, p2, p3, p4, p5⟩ := hp
    obtain ⟨_, _, rfl, ⟨W, rfl, hW⟩, _, _, rfl, ⟨R', rfl, r1, r2⟩, _, _, rfl, ⟨F', rfl, g1, g2⟩, vr, _, rfl, hr1, hn⟩ := p1
    have hr1 : vr = .ref 6 := hr1
    subst hr1
    have hn : _ = [] := hn
    subst hn
    obtain ⟨W', eW, hW'⟩ := p5 (0, 0, 0) List.mem_cons_self
    cases eW
    have hW' : W.toInt = pI h 0 9 + 0 := hW'
    have r1 : (r : Int) ≤ R'.toInt := r1
    have r2 : R'.toInt ≤ (r : Int) := r2
    have g1 : 8 ≤ F'.toInt := g1
    have g2 : F'.toInt ≤ 8 := g2
    have w1 : ∀ q j, pI h1 q j = pI h q j := fun q j => pI_md hm1 rfl
    refine zcallS (as := [.int W, .int R', .int F', .ref 6]) zs_kN rfl ?_
    refine (zfind6 (d := d + 1) hi1 (F := F') (R := R') (v := W) (r := r) (by omega) (by omega) (by omega)).mono ?_
    rintro rr h1' ⟨rfl, y, rfl, hy⟩
    have hy : y.toInt = fIx f r (lF D q) := by
      rw [hy, fIx_eq (g := f) (fun i hlt => (w1 _ _).trans (hf i hlt))]
      congr 1
      omega
    have yb := fIx_bd f r (lF D q)
    have hT1 : tTk D q h1' := hT.md hm1 rfl
    by_cases hneg : fIx f r (lF D q) < 0
    · have ey : sIts [-1] [Value.int y] := ⟨y, [], rfl, by omega, rfl⟩
      refine spq_c (pc := 24) (fun _ => pI h1' 0 9) (List.all_eq_true.mp kN62 r (List.mem_range.mpr hr)) (by omega) p2 (sA0_ok _) ⟨⟨rfl, i32bd _⟩, trivial⟩ hi1 ey ?_
      intro lo2 st2 h2' hp2 hi2 hm2
      obtain ⟨s1, s2, s3, s4, s5⟩ := hp2
      obtain ⟨vr, _, rfl, hr2, hn⟩ := s1
      have hr2 : vr = .ref 0 := hr2
      subst hr2
      have hn : _ = [] := hn
      subst hn
      have g11 : pI h2' 6 (8 + r) = pI h1' 0 9 + 0 := s4 (6, 8 + r, 0, 0) List.mem_cons_self
      refine zcallV (as := []) zv_kN rfl (by rw [hi2.1]; rfl) ?_
      refine (ztokR (d := d) hi2 (hT1.1.md hm2 (by rfl) (by rfl) (by rfl))).mono ?_
      rintro r3 h3 ⟨rfl, hi3, ht3, hm3⟩
      refine spq_r (pc := 46) (fun _ => 0) (List.all_eq_true.mp kN63 r (List.mem_range.mpr hr)) (by omega) s2 (sA0_ok _) trivial hi3 rfl ?_
      intro x h4 hx hi4 hm4 _ _
      refine ⟨hi4, ((((hm1.sub (md := nwMd 6 (8 + r)) rfl).tr hm2 nwMd_s).tr hm3 (nwMd_t (Or.inr ⟨rfl, rfl⟩))).seq (hm4.sub rfl)), x, rfl, fun KF KO hw => Or.inr ⟨lF D q, qF D q, ?_, hx, ht3.md hm4 rfl, ?_⟩⟩
      · unfold wNew at hw
        rw [if_pos h2, if_pos hneg] at hw
        exact hw
      · rw [pI_md hm4 rfl, pI_md hm3 (q := 6) (j := 8 + r) (smem1n (fun g => by omega)), g11, w1]
        omega
    · have ek : ∃ k : Nat, k < 8 ∧ y.toInt = (k : Int) := ⟨y.toInt.toNat, by omega, by omega⟩
      obtain ⟨k, hk, ek⟩ := ek
      refine spq_f (pc := 24) (List.all_eq_true.mp (List.all_eq_true.mp kN61 r (List.mem_range.mpr hr)) k (List.mem_range.mpr hk)) (by omega) p2 (sA0_ok _) hi1 ⟨y, [], rfl, ek, rfl⟩ ?_
      intro x h' hx hi' hm' hfm
      refine ⟨hi', (hm1.sub rfl).tr hm' (nwMd_t (Or.inl ⟨rfl, rfl⟩)), x, rfl, fun KF KO hw => Or.inl ⟨3, q, ?_, hx, ?_⟩⟩
      · unfold wNew at hw
        rw [if_pos h2, if_neg hneg] at hw
        exact hw
      · rw [w1, e10] at hfm
        exact hfm
  · have hw : ∀ KF KO, wNew D f r q KF KO → KF 1 q := fun KF KO hw => by
      unfold wNew at hw
      rw [if_neg h2] at hw
      exact hw
    have fin : ∀ (x : Int32) h', x.toInt = 0 → sInv swM h' → sMd [(0, 4, 6)] h h' → fM 1 (pI h 0 10) h' → sInv swM h' ∧ sMd (nwMd 6 (8 + r)) h h' ∧ ∃ y : Int32, some (Value.int x) = some (.int y) ∧ ∀ KF KO, wNew D f r q KF KO → (∃ c p, KF c p ∧ y.toInt = 0 ∧ fM c p h') ∨ (∃ v q', KO v q' ∧ y.toInt = 1 ∧ tTk D q' h' ∧ pI h' 6 (8 + r) = v) := fun x h' hx hi' hm' hf => ⟨hi', sMd.rf.tr hm' (nwMd_t (Or.inl ⟨rfl, rfl⟩)), x, rfl, fun KF KO g => Or.inl ⟨1, q, hw KF KO g, hx, by rw [← e10]; exact hf⟩⟩
    by_cases hlt : pI h 0 8 < 2
    · exact spm_f b1 (by omega) hs (sAok.of (iB (by omega) (by omega) iE)) hi fin
    · exact spm_f b2 (by omega) hs (sAok.of (iB (by omega) (by omega) iE)) hi fin
theorem zThr6 {l : Launch} {Γ : zG} {d : Nat} {D : zD} {q : Nat} {h : zH} (hi : sInv swM h) (hT : tTk D q h) {f : Nat → Int} {r : Nat} (hr : r ≤ 8) (hf : ∀ i, i < r → pI h 6 (8 + i) = f i) {F R : Int32} (hF : F.toInt = 8) (hR : R.toInt = (r : Int)) : zSem l Γ false (d + 3) (zhd 207) [.ref 0, .ref 6, .int F, .int R] h (fun rr h' => sInv swM h' ∧ sMd nMd1 h h' ∧ ∃ x : Int32, rr = some (.int x) ∧ ∀ KF KO, wThr D f r q KF KO → (∃ c p, KF c p ∧ x.toInt = 0 ∧ fM c p h') ∨ (∃ v q', KO v q' ∧ x.toInt = 1 ∧ tTk D q' h' ∧ pI h' 0 11 = v ∧ 0 ≤ v ∧ v < (r : Int))) := by
  have hs : sTL (kA6 r) [.ref 0, .ref 6, .int F, .int R] := ⟨_, _, rfl, rfl, _, _, rfl, rfl, _, _, rfl, ⟨F, rfl, by show 8 ≤ _; omega, by show _ ≤ 8; omega⟩, _, _, rfl, ⟨R, rfl, by show (r : Int) ≤ _; omega, by show _ ≤ (r : Int); omega⟩, rfl⟩
  have f1 := tkB_f hT.2.2.2
  have e10 := hT.2.2.1
  have w9 : -2147483648 ≤ pI h 0 9 ∧ pI h 0 9 ≤ 2147483647 := i32bd (h.2.1 0 9)
  have b0 := List.all_eq_true.mp kF6T r (List.mem_range.mpr (by omega))
  simp only [kFl6, Bool.and_eq_true] at b0
  obtain ⟨b1, b2, b3⟩ := b0
  by_cases h2 : kF D q = 2
  · refine spm_c (fun _ => pI h 0 9) b3 (by omega) hs (sAok.of (iB (a := 2) (b := 2) (by omega) (by omega) iE)) ⟨⟨rfl, w9.1, w9.2⟩, trivial⟩ hi ?_
    intro lo1 st1 h1 hp hi1 hm1
    obtain ⟨p1, p2, p3, p4, p5⟩ := hp
    obtain ⟨_, _, rfl, ⟨W, rfl, hW⟩, _, _, rfl, ⟨R', rfl, r1, r2⟩, _, _, rfl, ⟨F', rfl, g1, g2⟩, vr, _, rfl, hr1, hn⟩ := p1
    have hr1 : vr = .ref 6 := hr1
    subst hr1
    have hn : _ = [] := hn
    subst hn
    obtain ⟨W', eW, hW'⟩ := p5 (0, 0, 0) List.mem_cons_self
    cases eW
    have hW' : W.toInt = pI h 0 9 + 0 := hW'
    have r1 : (r : Int) ≤ R'.toInt := r1
    have r2 : R'.toInt ≤ (r : Int) := r2
    have g1 : 8 ≤ F'.toInt := g1
    have g2 : F'.toInt ≤ 8 := g2
    have w1 : ∀ q j, pI h1 q j = pI h q j := fun q j => pI_md hm1 rfl
    refine zcallS (as := [.int W, .int R', .int F', .ref 6]) zs_kT rfl ?_
    refine (zfind6 (d := d + 1) hi1 (F := F') (R := R') (v := W) (r := r) (by omega) (by omega) (by omega)).mono ?_
    rintro rr h1' ⟨rfl, y, rfl, hy⟩
    have hy : y.toInt = fIx f r (lF D q) := by
      rw [hy, fIx_eq (g := f) (fun i hlt => (w1 _ _).trans (hf i hlt))]
      congr 1
      omega
    have yb := fIx_bd f r (lF D q)
    have hT1 : tTk D q h1' := hT.md hm1 rfl
    by_cases hneg : fIx f r (lF D q) < 0
    · refine spq_f (pc := 24) (List.all_eq_true.mp kT61 r (List.mem_range.mpr (by omega))) (by omega) p2 (sA0_ok _) hi1 ⟨y, [], rfl, by omega, rfl⟩ ?_
      intro x h' hx hi' hm' hfm
      refine ⟨hi', (hm1.sub rfl).seq (hm'.sub rfl), x, rfl, fun KF KO hw => Or.inl ⟨4, q, ?_, hx, ?_⟩⟩
      · unfold wThr at hw
        rw [if_pos h2, if_pos hneg] at hw
        exact hw
      · rw [w1, e10] at hfm
        exact hfm
    · have ek : ∃ k : Nat, k < 8 ∧ y.toInt = (k : Int) := ⟨y.toInt.toNat, by omega, by omega⟩
      obtain ⟨k, hk, ek⟩ := ek
      refine spq_c (pc := 24) (fun _ => 0) (List.all_eq_true.mp (List.all_eq_true.mp kT62 r (List.mem_range.mpr (by omega))) k (List.mem_range.mpr hk)) (by omega) p2 (sA0_ok _) trivial hi1 ⟨y, [], rfl, ek, rfl⟩ ?_
      intro lo2 st2 h2' hp2 hi2 hm2
      obtain ⟨s1, s2, s3, s4, s5⟩ := hp2
      obtain ⟨vr, _, rfl, hr2, hn⟩ := s1
      have hr2 : vr = .ref 0 := hr2
      subst hr2
      have hn : _ = [] := hn
      subst hn
      refine zcallV (as := []) zv_kT rfl (by rw [hi2.1]; rfl) ?_
      refine (ztokR (d := d) hi2 (hT1.1.md hm2 rfl rfl rfl)).mono ?_
      rintro r3 h3 ⟨rfl, hi3, ht3, hm3⟩
      refine spq_r (pc := 41) (fun _ => 0) (List.all_eq_true.mp (List.all_eq_true.mp kT63 r (List.mem_range.mpr (by omega))) k (List.mem_range.mpr hk)) (by omega) s2 (sA0_ok _) trivial hi3 rfl ?_
      intro x h4 hx hi4 hm4 hA4 _
      have q1 : (k : Int) ≤ pI h4 0 11 ∧ pI h4 0 11 ≤ (k : Int) := hA4.1 (0, 11, ((k : Int), (k : Int))) List.mem_cons_self
      refine ⟨hi4, (((hm1.sub rfl).seq (hm2.sub rfl)).seq (hm3.sub rfl)).seq (hm4.sub rfl), x, rfl, fun KF KO hw => Or.inr ⟨fIx f r (lF D q), qF D q, ?_, hx, ht3.md hm4 rfl, ?_⟩⟩
      · unfold wThr at hw
        rw [if_pos h2, if_neg hneg] at hw
        exact hw
      · exact ⟨by omega, by omega, by omega⟩
  · have hw : ∀ KF KO, wThr D f r q KF KO → KF 1 q := fun KF KO hw => by
      unfold wThr at hw
      rw [if_neg h2] at hw
      exact hw
    have fin : ∀ (x : Int32) h', x.toInt = 0 → sInv swM h' → sMd [(0, 4, 6)] h h' → fM 1 (pI h 0 10) h' → sInv swM h' ∧ sMd nMd1 h h' ∧ ∃ y : Int32, some (Value.int x) = some (.int y) ∧ ∀ KF KO, wThr D f r q KF KO → (∃ c p, KF c p ∧ y.toInt = 0 ∧ fM c p h') ∨ (∃ v q', KO v q' ∧ y.toInt = 1 ∧ tTk D q' h' ∧ pI h' 0 11 = v ∧ 0 ≤ v ∧ v < (r : Int)) := fun x h' hx hi' hm' hf => ⟨hi', hm'.sub rfl, x, rfl, fun KF KO g => Or.inl ⟨1, q, hw KF KO g, hx, by rw [← e10]; exact hf⟩⟩
    by_cases hlt : pI h 0 8 < 2
    · exact spm_f b1 (by omega) hs (sAok.of (iB (by omega) (by omega) iE)) hi fin
    · exact spm_f b2 (by omega) hs (sAok.of (iB (by omega) (by omega) iE)) hi fin
