/-! the reference: lines -/
def rmP : List (Nat × Nat) := [(0, 18), (0, 19), (0, 20), (0, 21), (0, 22), (3, 0), (3, 1), (19, 3), (19, 4), (19, 5), (0, 51)]
def rmA (j : Nat) : Nat × Nat := rmP.getD j (0, 0)
theorem rmA_mem : (List.range 11).all (fun j => decide (rmA j ∈ rmP)) = true := by decide +kernel
theorem rmA_in {j : Nat} (hj : j < 11) : rmA j ∈ rmP := of_decide_eq_true (List.all_eq_true.mp rmA_mem j (List.mem_range.mpr hj))
/-- what a text has told so far, in the reference's heap -/
def RM (N : zN) (S : zS) (h : zH) : Prop := (∀ j, j < 11 → pI h (rmA j).1 (rmA j).2 = (S j : Int)) ∧ (∀ i, i < S 0 → pI h 5 (5 + i) = N 0 i) ∧ (∀ i, i < S 1 → pI h 6 (8 + i) = N 1 i) ∧ pI h 0 23 = pI h 0 51 ∧ (∀ j, 3 ≤ j → j < 6 → pLaw h j)
def rmB (md : sM) : Bool := rmP.all (fun t => !smem md t.1 t.2) && (md.all (fun t => !(t.1 == 5)) && (md.all (fun t => !(t.1 == 6)) && (md.all (fun t => !(t.1 == 19)) && (md.all (fun t => !(t.1 == 21)) && !smem md 0 23))))
theorem RM.md {N : zN} {S : zS} {h h' : zH} {md : sM} (hR : RM N S h) (hm : sMd md h h') (hb : rmB md = true) : RM N S h' := by
  simp only [rmB, Bool.and_eq_true, Bool.not_eq_true'] at hb
  obtain ⟨b1, b5, b6, b19, b21, b23⟩ := hb
  obtain ⟨r1, r2, r3, r4, r5⟩ := hR
  have k : ∀ t ∈ rmP, smem md t.1 t.2 = false := fun t ht => by simpa using List.all_eq_true.mp b1 t ht
  refine ⟨fun j hj => (pI_md hm (k _ (rmA_in hj))).trans (r1 j hj), fun i hlt => (pI_md hm (smem_q b5 _)).trans (r2 i hlt), fun i hlt => (pI_md hm (smem_q b6 _)).trans (r3 i hlt), ?_, fun j h3 h6 => (r5 j h3 h6).congr (pI_md hm (smem_q b19 _)) (pI_md hm (smem_q b21 _))⟩
  rw [pI_md hm b23, pI_md hm (k (0, 51) (by decide))]
  exact r4
theorem RM.nw {N : zN} {S : zS} {h h' : zH} {c r : Nat} (hR : RM N S h) (hc : (c = 5 ∧ r = S 0) ∨ (c = 6 ∧ r = S 1)) {o : Nat} (ho : o = if c = 5 then 5 else 8) (hm : sMd (nwMd c (o + r)) h h') : RM N S h' := by
  have f : ∀ q k, smem (nwMd c (o + r)) q k = true → (q = 0 ∧ 4 ≤ k ∧ k ≤ 10) ∨ (q = c ∧ k = o + r) := fun q k h => by
    simp only [smem, nwMd, List.any_cons, List.any_nil, Bool.or_eq_true, Bool.and_eq_true, beq_iff_eq, decide_eq_true_eq, Bool.or_false] at h
    omega
  have g : ∀ q k, ¬ ((q = 0 ∧ 4 ≤ k ∧ k ≤ 10) ∨ (q = c ∧ k = o + r)) → pI h' q k = pI h q k := fun q k hn => pI_md hm (by
    cases hc : smem (nwMd c (o + r)) q k with
    | false => rfl
    | true => exact absurd (f q k hc) hn)
  obtain ⟨r1, r2, r3, r4, r5⟩ := hR
  have k : ∀ t ∈ rmP, pI h' t.1 t.2 = pI h t.1 t.2 := fun t ht => g _ _ (by
    simp only [rmP, List.mem_cons, List.not_mem_nil, or_false] at ht
    rcases ht with rfl | rfl | rfl | rfl | rfl | rfl | rfl | rfl | rfl | rfl | rfl <;> omega)
  have ho' : o = 5 ∧ c = 5 ∨ o = 8 ∧ c = 6 := by
    rcases hc with ⟨e, _⟩ | ⟨e, _⟩
    · rw [e, if_pos rfl] at ho
      omega
    · rw [e, if_neg (by decide)] at ho
      omega
  refine ⟨fun j hj => (k _ (rmA_in hj)).trans (r1 j hj), fun i hlt => (g _ _ (by omega)).trans (r2 i hlt), fun i hlt => (g _ _ (by omega)).trans (r3 i hlt), ?_, fun j h3 h6 => (r5 j h3 h6).congr (g _ _ (by omega)) (g _ _ (by omega))⟩
  rw [g 0 23 (by omega), g 0 51 (by omega)]
  exact r4
def rmU (j0 : Nat) (md : sM) : Bool := (List.range 11).all (fun j => j == j0 || !smem md (rmA j).1 (rmA j).2) && (md.all (fun t => !(t.1 == 5)) && (md.all (fun t => !(t.1 == 6)) && (md.all (fun t => !(t.1 == 19)) && (md.all (fun t => !(t.1 == 21)) && (!smem md 0 23 && !smem md 0 51)))))
theorem RM.up {N : zN} {S : zS} {h h' : zH} {md : sM} {j0 v : Nat} (hR : RM N S h) (hm : sMd md h h') (hb : rmU j0 md = true) (hv : pI h' (rmA j0).1 (rmA j0).2 = (v : Int)) (hj : 2 ≤ j0) : RM N (sU S j0 v) h' := by
  simp only [rmU, Bool.and_eq_true, Bool.not_eq_true'] at hb
  obtain ⟨b1, b5, b6, b19, b21, b23, b51⟩ := hb
  obtain ⟨r1, r2, r3, r4, r5⟩ := hR
  refine ⟨fun j hlt => ?_, fun i hlt => ?_, fun i hlt => ?_, ?_, fun j h3 h6 => (r5 j h3 h6).congr (pI_md hm (smem_q b19 _)) (pI_md hm (smem_q b21 _))⟩
  · by_cases e : j = j0
    · subst e
      rw [sU_at]
      exact hv
    · rw [sU_ne e]
      have h1 := List.all_eq_true.mp b1 j (List.mem_range.mpr hlt)
      simp only [Bool.or_eq_true, beq_iff_eq, Bool.not_eq_true'] at h1
      rcases h1 with h1 | h1
      · exact absurd h1 e
      · exact (pI_md hm h1).trans (r1 j hlt)
  · rw [sU_ne (by omega)] at hlt
    exact (pI_md hm (smem_q b5 _)).trans (r2 i hlt)
  · rw [sU_ne (by omega)] at hlt
    exact (pI_md hm (smem_q b6 _)).trans (r3 i hlt)
  · rw [pI_md hm b23, pI_md hm b51]
    exact r4
theorem RM.upN {N : zN} {S : zS} {h h' : zH} {md : sM} {j0 : Nat} {v : Int} (hR : RM N S h) (hm : sMd md h h') (hb : rmU j0 md = true) (hv : pI h' (rmA j0).1 (rmA j0).2 = (S j0 : Int) + 1) (hj : (j0 = 0 ∧ pI h 5 (5 + S 0) = v) ∨ (j0 = 1 ∧ pI h 6 (8 + S 1) = v)) : RM (nU N j0 (S j0) v) (sU S j0 (S j0 + 1)) h' := by
  simp only [rmU, Bool.and_eq_true, Bool.not_eq_true'] at hb
  obtain ⟨b1, b5, b6, b19, b21, b23, b51⟩ := hb
  obtain ⟨r1, r2, r3, r4, r5⟩ := hR
  refine ⟨fun j hlt => ?_, fun i hlt => ?_, fun i hlt => ?_, ?_, fun j h3 h6 => (r5 j h3 h6).congr (pI_md hm (smem_q b19 _)) (pI_md hm (smem_q b21 _))⟩
  · by_cases e : j = j0
    · subst e
      rw [sU_at, hv]
      rfl
    · rw [sU_ne e]
      have h1 := List.all_eq_true.mp b1 j (List.mem_range.mpr hlt)
      simp only [Bool.or_eq_true, beq_iff_eq, Bool.not_eq_true'] at h1
      rcases h1 with h1 | h1
      · exact absurd h1 e
      · exact (pI_md hm h1).trans (r1 j hlt)
  · rw [pI_md hm (smem_q b5 _)]
    rcases hj with ⟨rfl, e⟩ | ⟨rfl, e⟩
    · rw [sU_at] at hlt
      unfold nU
      by_cases ei : i = S 0
      · rw [if_pos ⟨rfl, ei⟩, ei]
        exact e
      · rw [if_neg (fun g => ei g.2)]
        exact r2 i (by omega)
    · rw [sU_ne (by decide)] at hlt
      unfold nU
      rw [if_neg (fun g => nomatch g.1)]
      exact r2 i hlt
  · rw [pI_md hm (smem_q b6 _)]
    rcases hj with ⟨rfl, e⟩ | ⟨rfl, e⟩
    · rw [sU_ne (by decide)] at hlt
      unfold nU
      rw [if_neg (fun g => nomatch g.1)]
      exact r3 i hlt
    · rw [sU_at] at hlt
      unfold nU
      by_cases ei : i = S 1
      · rw [if_pos ⟨rfl, ei⟩, ei]
        exact e
      · rw [if_neg (fun g => ei g.2)]
        exact r3 i (by omega)
  · rw [pI_md hm b23, pI_md hm b51]
    exact r4
/-- how a line ends -/
def zLP (D : zD) (KF : zKF) (KO : zKO) (h : zH) (r : Option Value) (h' : zH) : Prop := sInv swM h' ∧ sMd lnMd h h' ∧ ∃ x : Int32, r = some (.int x) ∧ ((∃ c p, KF c p ∧ x.toInt = 0 ∧ fM c p h') ∨ (∃ N' S' q', KO N' S' q' ∧ x.toInt = 1 ∧ tTk D q' h' ∧ RM N' S' h'))
theorem nwMd_l {c r : Nat} (hc : (c = 5 ∧ r < 5) ∨ (c = 6 ∧ r < 8)) {o : Nat} (ho : o = if c = 5 then 5 else 8) : ∀ q k, smem (nwMd c (o + r)) q k = true → smem lnMd q k = true := by
  rcases hc with ⟨rfl, hr⟩ | ⟨rfl, hr⟩
  · rw [if_pos rfl] at ho
    subst ho
    have : r = 0 ∨ r = 1 ∨ r = 2 ∨ r = 3 ∨ r = 4 := by omega
    rcases this with rfl | rfl | rfl | rfl | rfl <;> exact smd_sub rfl
  · rw [if_neg (by decide)] at ho
    subst ho
    have : r = 0 ∨ r = 1 ∨ r = 2 ∨ r = 3 ∨ r = 4 ∨ r = 5 ∨ r = 6 ∨ r = 7 := by omega
    rcases this with rfl | rfl | rfl | rfl | rfl | rfl | rfl | rfl <;> exact smd_sub rfl
theorem mdN {h h' : zH} {q j : Nat} {a b : Int} {md : sM} (hm : sMd md h h') (hb : smem md q j = false) (h1 : a ≤ pI h q j) (h2 : pI h q j ≤ b) : a ≤ pI h' q j ∧ pI h' q j ≤ b := by
  rw [pI_md hm hb]
  exact ⟨h1, h2⟩
theorem ManB0 : spmB swM sT0 [(0, 4, 6)] 100 1 203 [] [sr0] ([(0, 18, (5, 5))], [], [], []) fP [] [fR 2] = true := by decide +kernel
theorem ManB1 : spmB swM sT0 [] 100 1 203 [] [sr0] ([(0, 18, (0, 4))], [], [], []) [] [(15, [sr0], [(0, sr0)], sA0, [], [])] [] = true := by decide +kernel
theorem zv_Man15 : zcvB 203 15 12 0 195 = true := by decide +kernel
theorem ManB2 : spqB swM sT0 [] 100 1 203 [(0, sr0)] sA0 [(0, (none, 18), (0, 4))] [] 18 [(28, [sI1 0 4, sI1 5 5, .inr (.inl 5), sr0], [(0, sr0)], sA0, [], [(0, 0, 0)])] [] = true := by decide +kernel
theorem zv_Man28 : zcvB 203 28 12 3 204 = true := by decide +kernel
theorem ManB3 : spqB swM sT0 [] 100 1 203 [(0, sr0)] sA0 [] [0] 31 [] [rI 0 sA0 []] = true := by decide +kernel
theorem ManB4 : spqB swM sT0 [(0, 18, 19)] 100 1 203 [(0, sr0)] sA0 [(0, (none, 18), (0, 4))] [1] 31 [] [rI 1 sA0 [(0, 18, 0, 1)]] = true := by decide +kernel
theorem zManR {l : Launch} {Γ : zG} {d : Nat} {D : zD} {N : zN} {S : zS} {q : Nat} {h : zH} (hi : sInv swM h) (hT : tTk D q h) (hR : RM N S h) {KF : zKF} {KO : zKO} (W : wMan D N S q KF KO) : zSem l Γ false (d + 4) (zhd 203) [.ref 0] h (zLP D KF KO h) := by
  have M0 : sMd lnMd h h := sMd.rf
  unfold wMan at W
  have s0 : pI h 0 18 = (S 0 : Int) := hR.1 0 (by decide)
  have sb0 : 0 ≤ pI h 0 18 ∧ pI h 0 18 ≤ 5 := pbd (iv := (0, 5)) hi (by decide +kernel)
  by_cases hfull : S 0 = 5
  · rw [if_pos hfull] at W
    refine spm_f ManB0 (by omega) ⟨_, _, rfl, rfl, rfl⟩ (sAok.of (iB (by omega) (by omega) iE)) hi ?_
    intro x h' hx hi' hm' hf
    exact ⟨hi', hm'.sub rfl, x, rfl, Or.inl ⟨2, q, W, hx, by rw [← hT.2.2.1]; exact hf⟩⟩
  rw [if_neg hfull] at W
  refine spm_c (fun _ => 0) ManB1 (by omega) ⟨_, _, rfl, rfl, rfl⟩ (sAok.of (iB (by omega) (by omega) iE)) trivial hi ?_
  intro lo1 st1 h1 hp hi1 hm1
  obtain ⟨p1, p2, p3, p4, p5⟩ := hp
  obtain ⟨u0, _, rfl, u0r, hn⟩ := p1
  have u0r : u0 = .ref 0 := u0r
  subst u0r
  have hn : _ = [] := hn
  subst hn
  have M1 := M0.seq (hm1.sub rfl)
  have R1 := hR.md hm1 rfl
  refine zcallV (as := []) zv_Man15 rfl (by rw [hi1.1]; rfl) ?_
  refine (ztokR (d := d + 1) hi1 (hT.1.md hm1 rfl rfl rfl)).mono ?_
  rintro r2 h2 ⟨rfl, hi2, T2, hm2⟩
  have M2 := M1.seq (hm2.sub rfl)
  have R2 := R1.md hm2 rfl
  have L2 := p2
  have bb : 0 ≤ pI h2 0 18 ∧ pI h2 0 18 ≤ 4 := by rw [show pI h2 0 18 = (S 0 : Int) from R2.1 0 (by decide)]; omega
  refine spq_c (pc := 18) (fun _ => pI h2 0 18) ManB2 (by omega) L2 (sA0_ok _) ⟨⟨rfl, bb.1, bb.2⟩, trivial⟩ hi2 rfl ?_
  intro lo3 st3 h3 hp hi3 hm3
  obtain ⟨p1, L3, p3, p4, p5⟩ := hp
  obtain ⟨_, _, rfl, ⟨u3_0, rfl, u3_0a, u3_0b⟩, _, _, rfl, ⟨u3_1, rfl, u3_1a, u3_1b⟩, u3_2, _, rfl, u3_2r, u3_3, _, rfl, u3_3r, hn⟩ := p1
  have u3_0a : 0 ≤ u3_0.toInt := u3_0a
  have u3_0b : u3_0.toInt ≤ 4 := u3_0b
  have u3_1a : 5 ≤ u3_1.toInt := u3_1a
  have u3_1b : u3_1.toInt ≤ 5 := u3_1b
  have u3_2r : u3_2 = .ref 5 := u3_2r
  subst u3_2r
  have u3_3r : u3_3 = .ref 0 := u3_3r
  subst u3_3r
  have hn : _ = [] := hn
  subst hn
  have M3 := M2.seq (hm3.sub rfl)
  have R3 := R2.md hm3 rfl
  have T3 := T2.md hm3 rfl
  refine zcallV (as := [.int u3_0, .int u3_1, .ref 5]) zv_Man28 rfl (by rw [hi3.1]; rfl) ?_
  have eS : pI h2 0 18 = (S 0 : Int) := R2.1 0 (by decide)
  obtain ⟨y, ey, hy⟩ := p5 (0, 0, 0) List.mem_cons_self
  cases ey
  have hy : u3_0.toInt = pI h2 0 18 + 0 := hy
  refine (zNew5 (d := d) hi3 T3 (f := N 0) (r := S 0) (by omega) R3.2.1 (F := u3_1) (R := u3_0) (by omega) (by omega)).mono ?_
  rintro rr h4 ⟨hi4, hm4, x4, rfl, hw⟩
  rcases hw _ _ W with ⟨c, p, hF, hx, hf⟩ | ⟨v4, q4, W, hx, T4, g4⟩
  · refine spq_r (pc := 31) (fun _ => 0) ManB3 (by omega) L3 (sA0_ok _) trivial hi4 ⟨x4, [], rfl, hx, rfl⟩ ?_
    intro x h' hx hi' hm' _ _
    exact ⟨hi', (M3.tr hm4 (nwMd_l (Or.inl ⟨rfl, by omega⟩) rfl)).seq (hm'.sub rfl), x, rfl, Or.inl ⟨c, p, hF, hx, by unfold fM; rw [pI_md hm' rfl, pI_md hm' rfl]; exact hf⟩⟩
  have M4 := M3.tr hm4 (nwMd_l (Or.inl ⟨rfl, by omega⟩) rfl)
  have R4 := R3.nw (Or.inl ⟨rfl, rfl⟩) rfl hm4
  have L4 := L3
  have eS : pI h4 0 18 = (S 0 : Int) := R4.1 0 (by decide)
  have bb : 0 ≤ pI h4 0 18 ∧ pI h4 0 18 ≤ 4 := by omega
  refine spq_r (pc := 31) (fun _ => pI h4 0 18) ManB4 (by omega) L4 (sA0_ok _) ⟨⟨rfl, bb.1, bb.2⟩, trivial⟩ hi4 ⟨x4, [], rfl, hx, rfl⟩ ?_
  intro x h' hx hi' hm' hA' hr'
  refine ⟨hi', M4.seq (hm'.sub rfl), x, rfl, Or.inr ⟨_, _, _, W, hx, T4.md hm' rfl, ?_⟩⟩
  have e1 : pI h' 0 18 = pI h4 0 18 + 1 := hr' (0, 18, 0, 1) List.mem_cons_self
  exact R4.upN hm' rfl (by show pI h' 0 18 = _; omega) (Or.inl ⟨rfl, g4⟩)
theorem GlsB0 : spmB swM sT0 [(0, 4, 6)] 100 1 206 [] [sr0] ([(0, 19, (8, 8))], [], [], []) fP [] [fR 2] = true := by decide +kernel
theorem GlsB1 : spmB swM sT0 [] 100 1 206 [] [sr0] ([(0, 19, (0, 7))], [], [], []) [] [(16, [sr0], [(0, sr0)], sA0, [], [])] [] = true := by decide +kernel
theorem zv_Gls16 : zcvB 206 16 12 0 195 = true := by decide +kernel
theorem GlsB2 : spqB swM sT0 [] 100 1 206 [(0, sr0)] sA0 [(0, (none, 19), (0, 7))] [] 19 [(30, [sI1 0 7, sI1 8 8, .inr (.inl 6), sr0], [(0, sr0)], sA0, [], [(0, 0, 0)])] [] = true := by decide +kernel
theorem zv_Gls30 : zcvB 206 30 12 3 204 = true := by decide +kernel
theorem GlsB3 : spqB swM sT0 [] 100 1 206 [(0, sr0)] sA0 [] [0] 33 [] [rI 0 sA0 []] = true := by decide +kernel
theorem GlsB4 : spqB swM sT0 [] 100 1 206 [(0, sr0)] ([(0, 19, (0, 7))], [], [], []) [(0, (none, 18), (0, 5))] [1] 33 [(56, [sI1 0 5, sI1 5 5, .inr (.inl 5), sr0], [(0, sr0), (1, sI1 8 15)], sA0, [], [(0, 0, 0)])] [] = true := by decide +kernel
theorem zv_Gls56 : zcvB 206 56 12 3 207 = true := by decide +kernel
theorem GlsB5 : spqB swM sT0 [] 100 1 206 [(0, sr0), (1, sI1 8 15)] sA0 [] [0] 59 [] [rI 0 sA0 []] = true := by decide +kernel
theorem GlsB6 : spqB swM sT0 [(7, 8, 16)] 100 1 206 [(0, sr0), (1, sI1 8 15)] ([(0, 11, (0, 4))], [], [], []) [] [1] 59 [(78, [sI1 99 99, sI1 0 0, sr0], [(0, sr0), (1, sI1 8 15)], sA0, [], [])] [] = true := by decide +kernel
theorem zv_Gls78 : zcvB 206 78 12 2 208 = true := by decide +kernel
theorem GlsB7 : spqB swM sT0 [] 100 1 206 [(0, sr0), (1, sI1 8 15)] sA0 [] [0] 81 [] [rI 0 sA0 []] = true := by decide +kernel
theorem GlsB8 : spqB swM sT0 [(8, 8, 16)] 100 1 206 [(0, sr0), (1, sI1 8 15)] ([(0, 11, (0, 99))], [], [], []) [] [1] 81 [(100, [sI1 99 99, sI1 0 0, sr0], [(0, sr0), (1, sI1 8 15)], sA0, [], [])] [] = true := by decide +kernel
theorem zv_Gls100 : zcvB 206 100 12 2 208 = true := by decide +kernel
theorem GlsB9 : spqB swM sT0 [] 100 1 206 [(0, sr0), (1, sI1 8 15)] sA0 [] [0] 103 [] [rI 0 sA0 []] = true := by decide +kernel
theorem GlsB10 : spqB swM sT0 [(9, 8, 16)] 100 1 206 [(0, sr0), (1, sI1 8 15)] ([(0, 11, (0, 99))], [], [], []) [] [1] 103 [(122, [sI1 9 9, sI1 1 1, sr0], [(0, sr0), (1, sI1 8 15)], sA0, [], [])] [] = true := by decide +kernel
theorem zv_Gls122 : zcvB 206 122 12 2 208 = true := by decide +kernel
theorem GlsB11 : spqB swM sT0 [] 100 1 206 [(0, sr0), (1, sI1 8 15)] sA0 [] [0] 125 [] [rI 0 sA0 []] = true := by decide +kernel
theorem GlsB12 : spqB swM sT0 [(10, 8, 16)] 100 1 206 [(0, sr0), (1, sI1 8 15)] ([(0, 11, (1, 9))], [], [], []) [] [1] 125 [(144, [sI1 9 9, sI1 1 1, sr0], [(0, sr0), (1, sI1 8 15)], sA0, [], [])] [] = true := by decide +kernel
theorem zv_Gls144 : zcvB 206 144 12 2 208 = true := by decide +kernel
theorem GlsB13 : spqB swM sT0 [] 100 1 206 [(0, sr0), (1, sI1 8 15)] sA0 [] [0] 147 [] [rI 0 sA0 []] = true := by decide +kernel
theorem GlsB14 : spqB swM sT0 [(0, 19, 20), (11, 8, 16)] 100 1 206 [(0, sr0), (1, sI1 8 15)] ([(0, 11, (1, 9))], [], [], []) [(0, (none, 19), (0, 7))] [1] 147 [] [rI 1 sA0 [(0, 19, 0, 1)]] = true := by decide +kernel
theorem zGlsR {l : Launch} {Γ : zG} {d : Nat} {D : zD} {N : zN} {S : zS} {q : Nat} {h : zH} (hi : sInv swM h) (hT : tTk D q h) (hR : RM N S h) {KF : zKF} {KO : zKO} (W : wGls D N S q KF KO) : zSem l Γ false (d + 4) (zhd 206) [.ref 0] h (zLP D KF KO h) := by
  have M0 : sMd lnMd h h := sMd.rf
  unfold wGls at W
  have s0 : pI h 0 19 = (S 1 : Int) := hR.1 1 (by decide)
  have sb0 : 0 ≤ pI h 0 19 ∧ pI h 0 19 ≤ 8 := pbd (iv := (0, 8)) hi (by decide +kernel)
  by_cases hfull : S 1 = 8
  · rw [if_pos hfull] at W
    refine spm_f GlsB0 (by omega) ⟨_, _, rfl, rfl, rfl⟩ (sAok.of (iB (by omega) (by omega) iE)) hi ?_
    intro x h' hx hi' hm' hf
    exact ⟨hi', hm'.sub rfl, x, rfl, Or.inl ⟨2, q, W, hx, by rw [← hT.2.2.1]; exact hf⟩⟩
  rw [if_neg hfull] at W
  refine spm_c (fun _ => 0) GlsB1 (by omega) ⟨_, _, rfl, rfl, rfl⟩ (sAok.of (iB (by omega) (by omega) iE)) trivial hi ?_
  intro lo1 st1 h1 hp hi1 hm1
  obtain ⟨p1, p2, p3, p4, p5⟩ := hp
  obtain ⟨u0, _, rfl, u0r, hn⟩ := p1
  have u0r : u0 = .ref 0 := u0r
  subst u0r
  have hn : _ = [] := hn
  subst hn
  have M1 := M0.seq (hm1.sub rfl)
  have R1 := hR.md hm1 rfl
  refine zcallV (as := []) zv_Gls16 rfl (by rw [hi1.1]; rfl) ?_
  refine (ztokR (d := d + 1) hi1 (hT.1.md hm1 rfl rfl rfl)).mono ?_
  rintro r2 h2 ⟨rfl, hi2, T2, hm2⟩
  have M2 := M1.seq (hm2.sub rfl)
  have R2 := R1.md hm2 rfl
  have L2 := p2
  have bb : 0 ≤ pI h2 0 19 ∧ pI h2 0 19 ≤ 7 := by rw [show pI h2 0 19 = (S 1 : Int) from R2.1 1 (by decide)]; omega
  refine spq_c (pc := 19) (fun _ => pI h2 0 19) GlsB2 (by omega) L2 (sA0_ok _) ⟨⟨rfl, bb.1, bb.2⟩, trivial⟩ hi2 rfl ?_
  intro lo3 st3 h3 hp hi3 hm3
  obtain ⟨p1, L3, p3, p4, p5⟩ := hp
  obtain ⟨_, _, rfl, ⟨u3_0, rfl, u3_0a, u3_0b⟩, _, _, rfl, ⟨u3_1, rfl, u3_1a, u3_1b⟩, u3_2, _, rfl, u3_2r, u3_3, _, rfl, u3_3r, hn⟩ := p1
  have u3_0a : 0 ≤ u3_0.toInt := u3_0a
  have u3_0b : u3_0.toInt ≤ 7 := u3_0b
  have u3_1a : 8 ≤ u3_1.toInt := u3_1a
  have u3_1b : u3_1.toInt ≤ 8 := u3_1b
  have u3_2r : u3_2 = .ref 6 := u3_2r
  subst u3_2r
  have u3_3r : u3_3 = .ref 0 := u3_3r
  subst u3_3r
  have hn : _ = [] := hn
  subst hn
  have M3 := M2.seq (hm3.sub rfl)
  have R3 := R2.md hm3 rfl
  have T3 := T2.md hm3 rfl
  refine zcallV (as := [.int u3_0, .int u3_1, .ref 6]) zv_Gls30 rfl (by rw [hi3.1]; rfl) ?_
  have eS : pI h2 0 19 = (S 1 : Int) := R2.1 1 (by decide)
  obtain ⟨y, ey, hy⟩ := p5 (0, 0, 0) List.mem_cons_self
  cases ey
  have hy : u3_0.toInt = pI h2 0 19 + 0 := hy
  refine (zNew6 (d := d) hi3 T3 (f := N 1) (r := S 1) (by omega) R3.2.2.1 (F := u3_1) (R := u3_0) (by omega) (by omega)).mono ?_
  rintro rr h4 ⟨hi4, hm4, x4, rfl, hw⟩
  rcases hw _ _ W with ⟨c, p, hF, hx, hf⟩ | ⟨v4, q4, W, hx, T4, g4⟩
  · refine spq_r (pc := 33) (fun _ => 0) GlsB3 (by omega) L3 (sA0_ok _) trivial hi4 ⟨x4, [], rfl, hx, rfl⟩ ?_
    intro x h' hx hi' hm' _ _
    exact ⟨hi', (M3.tr hm4 (nwMd_l (Or.inr ⟨rfl, by omega⟩) rfl)).seq (hm'.sub rfl), x, rfl, Or.inl ⟨c, p, hF, hx, by unfold fM; rw [pI_md hm' rfl, pI_md hm' rfl]; exact hf⟩⟩
  have M4 := M3.tr hm4 (nwMd_l (Or.inr ⟨rfl, by omega⟩) rfl)
  have R4 := R3.nw (Or.inr ⟨rfl, rfl⟩) rfl hm4
  have L4 := L3
  have nm4 : pI h4 6 (8 + S 1) = v4 := g4
  have bb : 0 ≤ pI h4 0 18 ∧ pI h4 0 18 ≤ 5 := pbd (iv := (0, 5)) hi4 (by decide +kernel)
  have eG : pI h4 0 19 = (S 1 : Int) := R4.1 1 (by decide)
  refine spq_c (pc := 33) (fun _ => pI h4 0 18) GlsB4 (by omega) L4 (sAok.of (iB (by omega) (by omega) iE)) ⟨⟨rfl, bb.1, bb.2⟩, trivial⟩ hi4 ⟨x4, [], rfl, hx, rfl⟩ ?_
  intro lo5 st5 h5 hp hi5 hm5
  obtain ⟨p1, L5, p3, p4, p5⟩ := hp
  obtain ⟨_, _, rfl, ⟨u5_0, rfl, u5_0a, u5_0b⟩, _, _, rfl, ⟨u5_1, rfl, u5_1a, u5_1b⟩, u5_2, _, rfl, u5_2r, u5_3, _, rfl, u5_3r, hn⟩ := p1
  have u5_0a : 0 ≤ u5_0.toInt := u5_0a
  have u5_0b : u5_0.toInt ≤ 5 := u5_0b
  have u5_1a : 5 ≤ u5_1.toInt := u5_1a
  have u5_1b : u5_1.toInt ≤ 5 := u5_1b
  have u5_2r : u5_2 = .ref 5 := u5_2r
  subst u5_2r
  have u5_3r : u5_3 = .ref 0 := u5_3r
  subst u5_3r
  have hn : _ = [] := hn
  subst hn
  have M5 := M4.seq (hm5.sub rfl)
  have R5 := R4.md hm5 rfl
  have T5 := T4.md hm5 rfl
  have nm5 : pI h5 6 (8 + S 1) = v4 := (pI_md hm5 (smem_q rfl _)).trans nm4
  refine zcallV (as := [.int u5_0, .int u5_1, .ref 5]) zv_Gls56 rfl (by rw [hi5.1]; rfl) ?_
  have eS : pI h4 0 18 = (S 0 : Int) := R4.1 0 (by decide)
  obtain ⟨y, ey, hy⟩ := p5 (0, 0, 0) List.mem_cons_self
  cases ey
  have hy : u5_0.toInt = pI h4 0 18 + 0 := hy
  have sS : S 0 ≤ 5 := by omega
  refine (zThr5 (d := d) hi5 T5 (f := N 0) (r := S 0) (by omega) R5.2.1 (F := u5_1) (R := u5_0) (by omega) (by omega)).mono ?_
  rintro rr h6 ⟨hi6, hm6, x6, rfl, hw⟩
  rcases hw _ _ W with ⟨c, p, hF, hx, hf⟩ | ⟨v6, q6, W, hx, T6, g6⟩
  · refine spq_r (pc := 59) (fun _ => 0) GlsB5 (by omega) L5 (sA0_ok _) trivial hi6 ⟨x6, [], rfl, hx, rfl⟩ ?_
    intro x h' hx hi' hm' _ _
    exact ⟨hi', (M5.seq (hm6.sub rfl)).seq (hm'.sub rfl), x, rfl, Or.inl ⟨c, p, hF, hx, by unfold fM; rw [pI_md hm' rfl, pI_md hm' rfl]; exact hf⟩⟩
  have M6 := M5.seq (hm6.sub rfl)
  have R6 := R5.md hm6 rfl
  have L6 := L5
  have nm6 : pI h6 6 (8 + S 1) = v4 := (pI_md hm6 (smem_q rfl _)).trans nm5
  refine spq_c (pc := 59) (fun _ => 0) GlsB6 (by omega) L6 (sAok.of (iB (by omega) (by omega) iE)) trivial hi6 ⟨x6, [], rfl, hx, rfl⟩ ?_
  intro lo7 st7 h7 hp hi7 hm7
  obtain ⟨p1, L7, p3, p4, p5⟩ := hp
  obtain ⟨_, _, rfl, ⟨u7_0, rfl, u7_0a, u7_0b⟩, _, _, rfl, ⟨u7_1, rfl, u7_1a, u7_1b⟩, u7_2, _, rfl, u7_2r, hn⟩ := p1
  have u7_0a : 99 ≤ u7_0.toInt := u7_0a
  have u7_0b : u7_0.toInt ≤ 99 := u7_0b
  have u7_1a : 0 ≤ u7_1.toInt := u7_1a
  have u7_1b : u7_1.toInt ≤ 0 := u7_1b
  have u7_2r : u7_2 = .ref 0 := u7_2r
  subst u7_2r
  have hn : _ = [] := hn
  subst hn
  have M7 := M6.seq (hm7.sub rfl)
  have R7 := R6.md hm7 rfl
  have T7 := T6.md hm7 rfl
  have nm7 : pI h7 6 (8 + S 1) = v4 := (pI_md hm7 (smem_q rfl _)).trans nm6
  refine zcallV (as := [.int u7_0, .int u7_1]) zv_Gls78 rfl (by rw [hi7.1]; rfl) ?_
  refine (zNumR (d := d) hi7 T7 (a := u7_1) (b := u7_0) (L := 0) (H := 99) (by omega) (by omega) (by decide)).mono ?_
  rintro rr h8 ⟨hi8, hm8, x8, rfl, hw⟩
  rcases hw _ _ W with ⟨c, p, hF, hx, hf⟩ | ⟨v8, q8, W, hx, T8, g8⟩
  · refine spq_r (pc := 81) (fun _ => 0) GlsB7 (by omega) L7 (sA0_ok _) trivial hi8 ⟨x8, [], rfl, hx, rfl⟩ ?_
    intro x h' hx hi' hm' _ _
    exact ⟨hi', (M7.seq (hm8.sub rfl)).seq (hm'.sub rfl), x, rfl, Or.inl ⟨c, p, hF, hx, by unfold fM; rw [pI_md hm' rfl, pI_md hm' rfl]; exact hf⟩⟩
  have M8 := M7.seq (hm8.sub rfl)
  have R8 := R7.md hm8 rfl
  have L8 := L7
  have nm8 : pI h8 6 (8 + S 1) = v4 := (pI_md hm8 (smem_q rfl _)).trans nm7
  refine spq_c (pc := 81) (fun _ => 0) GlsB8 (by omega) L8 (sAok.of (iB (by omega) (by omega) iE)) trivial hi8 ⟨x8, [], rfl, hx, rfl⟩ ?_
  intro lo9 st9 h9 hp hi9 hm9
  obtain ⟨p1, L9, p3, p4, p5⟩ := hp
  obtain ⟨_, _, rfl, ⟨u9_0, rfl, u9_0a, u9_0b⟩, _, _, rfl, ⟨u9_1, rfl, u9_1a, u9_1b⟩, u9_2, _, rfl, u9_2r, hn⟩ := p1
  have u9_0a : 99 ≤ u9_0.toInt := u9_0a
  have u9_0b : u9_0.toInt ≤ 99 := u9_0b
  have u9_1a : 0 ≤ u9_1.toInt := u9_1a
  have u9_1b : u9_1.toInt ≤ 0 := u9_1b
  have u9_2r : u9_2 = .ref 0 := u9_2r
  subst u9_2r
  have hn : _ = [] := hn
  subst hn
  have M9 := M8.seq (hm9.sub rfl)
  have R9 := R8.md hm9 rfl
  have T9 := T8.md hm9 rfl
  have nm9 : pI h9 6 (8 + S 1) = v4 := (pI_md hm9 (smem_q rfl _)).trans nm8
  refine zcallV (as := [.int u9_0, .int u9_1]) zv_Gls100 rfl (by rw [hi9.1]; rfl) ?_
  refine (zNumR (d := d) hi9 T9 (a := u9_1) (b := u9_0) (L := 0) (H := 99) (by omega) (by omega) (by decide)).mono ?_
  rintro rr h10 ⟨hi10, hm10, x10, rfl, hw⟩
  rcases hw _ _ W with ⟨c, p, hF, hx, hf⟩ | ⟨v10, q10, W, hx, T10, g10⟩
  · refine spq_r (pc := 103) (fun _ => 0) GlsB9 (by omega) L9 (sA0_ok _) trivial hi10 ⟨x10, [], rfl, hx, rfl⟩ ?_
    intro x h' hx hi' hm' _ _
    exact ⟨hi', (M9.seq (hm10.sub rfl)).seq (hm'.sub rfl), x, rfl, Or.inl ⟨c, p, hF, hx, by unfold fM; rw [pI_md hm' rfl, pI_md hm' rfl]; exact hf⟩⟩
  have M10 := M9.seq (hm10.sub rfl)
  have R10 := R9.md hm10 rfl
  have L10 := L9
  have nm10 : pI h10 6 (8 + S 1) = v4 := (pI_md hm10 (smem_q rfl _)).trans nm9
  refine spq_c (pc := 103) (fun _ => 0) GlsB10 (by omega) L10 (sAok.of (iB (by omega) (by omega) iE)) trivial hi10 ⟨x10, [], rfl, hx, rfl⟩ ?_
  intro lo11 st11 h11 hp hi11 hm11
  obtain ⟨p1, L11, p3, p4, p5⟩ := hp
  obtain ⟨_, _, rfl, ⟨u11_0, rfl, u11_0a, u11_0b⟩, _, _, rfl, ⟨u11_1, rfl, u11_1a, u11_1b⟩, u11_2, _, rfl, u11_2r, hn⟩ := p1
  have u11_0a : 9 ≤ u11_0.toInt := u11_0a
  have u11_0b : u11_0.toInt ≤ 9 := u11_0b
  have u11_1a : 1 ≤ u11_1.toInt := u11_1a
  have u11_1b : u11_1.toInt ≤ 1 := u11_1b
  have u11_2r : u11_2 = .ref 0 := u11_2r
  subst u11_2r
  have hn : _ = [] := hn
  subst hn
  have M11 := M10.seq (hm11.sub rfl)
  have R11 := R10.md hm11 rfl
  have T11 := T10.md hm11 rfl
  have nm11 : pI h11 6 (8 + S 1) = v4 := (pI_md hm11 (smem_q rfl _)).trans nm10
  refine zcallV (as := [.int u11_0, .int u11_1]) zv_Gls122 rfl (by rw [hi11.1]; rfl) ?_
  refine (zNumR (d := d) hi11 T11 (a := u11_1) (b := u11_0) (L := 1) (H := 9) (by omega) (by omega) (by decide)).mono ?_
  rintro rr h12 ⟨hi12, hm12, x12, rfl, hw⟩
  rcases hw _ _ W with ⟨c, p, hF, hx, hf⟩ | ⟨v12, q12, W, hx, T12, g12⟩
  · refine spq_r (pc := 125) (fun _ => 0) GlsB11 (by omega) L11 (sA0_ok _) trivial hi12 ⟨x12, [], rfl, hx, rfl⟩ ?_
    intro x h' hx hi' hm' _ _
    exact ⟨hi', (M11.seq (hm12.sub rfl)).seq (hm'.sub rfl), x, rfl, Or.inl ⟨c, p, hF, hx, by unfold fM; rw [pI_md hm' rfl, pI_md hm' rfl]; exact hf⟩⟩
  have M12 := M11.seq (hm12.sub rfl)
  have R12 := R11.md hm12 rfl
  have L12 := L11
  have nm12 : pI h12 6 (8 + S 1) = v4 := (pI_md hm12 (smem_q rfl _)).trans nm11
  refine spq_c (pc := 125) (fun _ => 0) GlsB12 (by omega) L12 (sAok.of (iB (by omega) (by omega) iE)) trivial hi12 ⟨x12, [], rfl, hx, rfl⟩ ?_
  intro lo13 st13 h13 hp hi13 hm13
  obtain ⟨p1, L13, p3, p4, p5⟩ := hp
  obtain ⟨_, _, rfl, ⟨u13_0, rfl, u13_0a, u13_0b⟩, _, _, rfl, ⟨u13_1, rfl, u13_1a, u13_1b⟩, u13_2, _, rfl, u13_2r, hn⟩ := p1
  have u13_0a : 9 ≤ u13_0.toInt := u13_0a
  have u13_0b : u13_0.toInt ≤ 9 := u13_0b
  have u13_1a : 1 ≤ u13_1.toInt := u13_1a
  have u13_1b : u13_1.toInt ≤ 1 := u13_1b
  have u13_2r : u13_2 = .ref 0 := u13_2r
  subst u13_2r
  have hn : _ = [] := hn
  subst hn
  have M13 := M12.seq (hm13.sub rfl)
  have R13 := R12.md hm13 rfl
  have T13 := T12.md hm13 rfl
  have nm13 : pI h13 6 (8 + S 1) = v4 := (pI_md hm13 (smem_q rfl _)).trans nm12
  refine zcallV (as := [.int u13_0, .int u13_1]) zv_Gls144 rfl (by rw [hi13.1]; rfl) ?_
  refine (zNumR (d := d) hi13 T13 (a := u13_1) (b := u13_0) (L := 1) (H := 9) (by omega) (by omega) (by decide)).mono ?_
  rintro rr h14 ⟨hi14, hm14, x14, rfl, hw⟩
  rcases hw _ _ W with ⟨c, p, hF, hx, hf⟩ | ⟨v14, q14, W, hx, T14, g14⟩
  · refine spq_r (pc := 147) (fun _ => 0) GlsB13 (by omega) L13 (sA0_ok _) trivial hi14 ⟨x14, [], rfl, hx, rfl⟩ ?_
    intro x h' hx hi' hm' _ _
    exact ⟨hi', (M13.seq (hm14.sub rfl)).seq (hm'.sub rfl), x, rfl, Or.inl ⟨c, p, hF, hx, by unfold fM; rw [pI_md hm' rfl, pI_md hm' rfl]; exact hf⟩⟩
  have M14 := M13.seq (hm14.sub rfl)
  have R14 := R13.md hm14 rfl
  have L14 := L13
  have nm14 : pI h14 6 (8 + S 1) = v4 := (pI_md hm14 (smem_q rfl _)).trans nm13
  have eS : pI h14 0 19 = (S 1 : Int) := R14.1 1 (by decide)
  have bb : 0 ≤ pI h14 0 19 ∧ pI h14 0 19 ≤ 7 := by omega
  refine spq_r (pc := 147) (fun _ => pI h14 0 19) GlsB14 (by omega) L14 (sAok.of (iB (by omega) (by omega) iE)) ⟨⟨rfl, bb.1, bb.2⟩, trivial⟩ hi14 ⟨x14, [], rfl, hx, rfl⟩ ?_
  intro x h' hx hi' hm' hA' hr'
  refine ⟨hi', M14.seq (hm'.sub rfl), x, rfl, Or.inr ⟨_, _, _, W, hx, T14.md hm' rfl, ?_⟩⟩
  have e1 : pI h' 0 19 = pI h14 0 19 + 1 := hr' (0, 19, 0, 1) List.mem_cons_self
  exact R14.upN hm' rfl (by show pI h' 0 19 = _; omega) (Or.inr ⟨rfl, nm14⟩)
theorem TrnB0 : spmB swM sT0 [(0, 4, 6)] 100 1 210 [] [sr0] ([(0, 20, (10, 10))], [], [], []) fP [] [fR 2] = true := by decide +kernel
theorem TrnB1 : spmB swM sT0 [] 100 1 210 [] [sr0] ([(0, 20, (0, 9))], [], [], []) [] [(16, [sr0], [(0, sr0)], sA0, [], [])] [] = true := by decide +kernel
theorem zv_Trn16 : zcvB 210 16 12 0 195 = true := by decide +kernel
theorem TrnB2 : spqB swM sT0 [] 100 1 210 [(0, sr0)] sA0 [(0, (none, 19), (0, 8))] [] 19 [(30, [sI1 0 8, sI1 8 8, .inr (.inl 6), sr0], [(0, sr0)], sA0, [], [(0, 0, 0)])] [] = true := by decide +kernel
theorem zv_Trn30 : zcvB 210 30 12 3 207 = true := by decide +kernel
theorem TrnB3 : spqB swM sT0 [] 100 1 210 [(0, sr0)] sA0 [] [0] 33 [] [rI 0 sA0 []] = true := by decide +kernel
theorem TrnB4 : spqB swM sT0 [(12, 10, 20)] 100 1 210 [(0, sr0)] ([(0, 11, (0, 7)), (0, 20, (0, 9))], [], [], []) [] [1] 33 [(58, [sI1 99 99, sI1 0 0, sr0], [(0, sr0)], sA0, [], [])] [] = true := by decide +kernel
theorem zv_Trn58 : zcvB 210 58 12 2 208 = true := by decide +kernel
theorem TrnB5 : spqB swM sT0 [] 100 1 210 [(0, sr0)] sA0 [] [0] 61 [] [rI 0 sA0 []] = true := by decide +kernel
theorem TrnB6 : spqB swM sT0 [(0, 20, 21), (13, 10, 20)] 100 1 210 [(0, sr0)] ([(0, 11, (0, 99))], [], [], []) [(0, (none, 20), (0, 9))] [1] 61 [] [rI 1 sA0 [(0, 20, 0, 1)]] = true := by decide +kernel
theorem zTrnR {l : Launch} {Γ : zG} {d : Nat} {D : zD} {N : zN} {S : zS} {q : Nat} {h : zH} (hi : sInv swM h) (hT : tTk D q h) (hR : RM N S h) {KF : zKF} {KO : zKO} (W : wTrn D N S q KF KO) : zSem l Γ false (d + 4) (zhd 210) [.ref 0] h (zLP D KF KO h) := by
  have M0 : sMd lnMd h h := sMd.rf
  unfold wTrn at W
  have s0 : pI h 0 20 = (S 2 : Int) := hR.1 2 (by decide)
  have sb0 : 0 ≤ pI h 0 20 ∧ pI h 0 20 ≤ 10 := pbd (iv := (0, 10)) hi (by decide +kernel)
  by_cases hfull : S 2 = 10
  · rw [if_pos hfull] at W
    refine spm_f TrnB0 (by omega) ⟨_, _, rfl, rfl, rfl⟩ (sAok.of (iB (by omega) (by omega) iE)) hi ?_
    intro x h' hx hi' hm' hf
    exact ⟨hi', hm'.sub rfl, x, rfl, Or.inl ⟨2, q, W, hx, by rw [← hT.2.2.1]; exact hf⟩⟩
  rw [if_neg hfull] at W
  refine spm_c (fun _ => 0) TrnB1 (by omega) ⟨_, _, rfl, rfl, rfl⟩ (sAok.of (iB (by omega) (by omega) iE)) trivial hi ?_
  intro lo1 st1 h1 hp hi1 hm1
  obtain ⟨p1, p2, p3, p4, p5⟩ := hp
  obtain ⟨u0, _, rfl, u0r, hn⟩ := p1
  have u0r : u0 = .ref 0 := u0r
  subst u0r
  have hn : _ = [] := hn
  subst hn
  have M1 := M0.seq (hm1.sub rfl)
  have R1 := hR.md hm1 rfl
  refine zcallV (as := []) zv_Trn16 rfl (by rw [hi1.1]; rfl) ?_
  refine (ztokR (d := d + 1) hi1 (hT.1.md hm1 rfl rfl rfl)).mono ?_
  rintro r2 h2 ⟨rfl, hi2, T2, hm2⟩
  have M2 := M1.seq (hm2.sub rfl)
  have R2 := R1.md hm2 rfl
  have L2 := p2
  have bb : 0 ≤ pI h2 0 19 ∧ pI h2 0 19 ≤ 8 := pbd (iv := (0, 8)) hi2 (by decide +kernel)
  refine spq_c (pc := 19) (fun _ => pI h2 0 19) TrnB2 (by omega) L2 (sA0_ok _) ⟨⟨rfl, bb.1, bb.2⟩, trivial⟩ hi2 rfl ?_
  intro lo3 st3 h3 hp hi3 hm3
  obtain ⟨p1, L3, p3, p4, p5⟩ := hp
  obtain ⟨_, _, rfl, ⟨u3_0, rfl, u3_0a, u3_0b⟩, _, _, rfl, ⟨u3_1, rfl, u3_1a, u3_1b⟩, u3_2, _, rfl, u3_2r, u3_3, _, rfl, u3_3r, hn⟩ := p1
  have u3_0a : 0 ≤ u3_0.toInt := u3_0a
  have u3_0b : u3_0.toInt ≤ 8 := u3_0b
  have u3_1a : 8 ≤ u3_1.toInt := u3_1a
  have u3_1b : u3_1.toInt ≤ 8 := u3_1b
  have u3_2r : u3_2 = .ref 6 := u3_2r
  subst u3_2r
  have u3_3r : u3_3 = .ref 0 := u3_3r
  subst u3_3r
  have hn : _ = [] := hn
  subst hn
  have M3 := M2.seq (hm3.sub rfl)
  have R3 := R2.md hm3 rfl
  have T3 := T2.md hm3 rfl
  refine zcallV (as := [.int u3_0, .int u3_1, .ref 6]) zv_Trn30 rfl (by rw [hi3.1]; rfl) ?_
  have eS : pI h2 0 19 = (S 1 : Int) := R2.1 1 (by decide)
  obtain ⟨y, ey, hy⟩ := p5 (0, 0, 0) List.mem_cons_self
  cases ey
  have hy : u3_0.toInt = pI h2 0 19 + 0 := hy
  have sS : S 1 ≤ 8 := by omega
  refine (zThr6 (d := d) hi3 T3 (f := N 1) (r := S 1) (by omega) R3.2.2.1 (F := u3_1) (R := u3_0) (by omega) (by omega)).mono ?_
  rintro rr h4 ⟨hi4, hm4, x4, rfl, hw⟩
  rcases hw _ _ W with ⟨c, p, hF, hx, hf⟩ | ⟨v4, q4, W, hx, T4, g4⟩
  · refine spq_r (pc := 33) (fun _ => 0) TrnB3 (by omega) L3 (sA0_ok _) trivial hi4 ⟨x4, [], rfl, hx, rfl⟩ ?_
    intro x h' hx hi' hm' _ _
    exact ⟨hi', (M3.seq (hm4.sub rfl)).seq (hm'.sub rfl), x, rfl, Or.inl ⟨c, p, hF, hx, by unfold fM; rw [pI_md hm' rfl, pI_md hm' rfl]; exact hf⟩⟩
  have M4 := M3.seq (hm4.sub rfl)
  have R4 := R3.md hm4 rfl
  have L4 := L3
  have eT : pI h4 0 20 = (S 2 : Int) := R4.1 2 (by decide)
  refine spq_c (pc := 33) (fun _ => 0) TrnB4 (by omega) L4 (sAok.of (iB (by omega) (by omega) (iB (by omega) (by omega) iE))) trivial hi4 ⟨x4, [], rfl, hx, rfl⟩ ?_
  intro lo5 st5 h5 hp hi5 hm5
  obtain ⟨p1, L5, p3, p4, p5⟩ := hp
  obtain ⟨_, _, rfl, ⟨u5_0, rfl, u5_0a, u5_0b⟩, _, _, rfl, ⟨u5_1, rfl, u5_1a, u5_1b⟩, u5_2, _, rfl, u5_2r, hn⟩ := p1
  have u5_0a : 99 ≤ u5_0.toInt := u5_0a
  have u5_0b : u5_0.toInt ≤ 99 := u5_0b
  have u5_1a : 0 ≤ u5_1.toInt := u5_1a
  have u5_1b : u5_1.toInt ≤ 0 := u5_1b
  have u5_2r : u5_2 = .ref 0 := u5_2r
  subst u5_2r
  have hn : _ = [] := hn
  subst hn
  have M5 := M4.seq (hm5.sub rfl)
  have R5 := R4.md hm5 rfl
  have T5 := T4.md hm5 rfl
  refine zcallV (as := [.int u5_0, .int u5_1]) zv_Trn58 rfl (by rw [hi5.1]; rfl) ?_
  refine (zNumR (d := d) hi5 T5 (a := u5_1) (b := u5_0) (L := 0) (H := 99) (by omega) (by omega) (by decide)).mono ?_
  rintro rr h6 ⟨hi6, hm6, x6, rfl, hw⟩
  rcases hw _ _ W with ⟨c, p, hF, hx, hf⟩ | ⟨v6, q6, W, hx, T6, g6⟩
  · refine spq_r (pc := 61) (fun _ => 0) TrnB5 (by omega) L5 (sA0_ok _) trivial hi6 ⟨x6, [], rfl, hx, rfl⟩ ?_
    intro x h' hx hi' hm' _ _
    exact ⟨hi', (M5.seq (hm6.sub rfl)).seq (hm'.sub rfl), x, rfl, Or.inl ⟨c, p, hF, hx, by unfold fM; rw [pI_md hm' rfl, pI_md hm' rfl]; exact hf⟩⟩
  have M6 := M5.seq (hm6.sub rfl)
  have R6 := R5.md hm6 rfl
  have L6 := L5
  have eS : pI h6 0 20 = (S 2 : Int) := R6.1 2 (by decide)
  have bb : 0 ≤ pI h6 0 20 ∧ pI h6 0 20 ≤ 9 := by omega
  refine spq_r (pc := 61) (fun _ => pI h6 0 20) TrnB6 (by omega) L6 (sAok.of (iB (by omega) (by omega) iE)) ⟨⟨rfl, bb.1, bb.2⟩, trivial⟩ hi6 ⟨x6, [], rfl, hx, rfl⟩ ?_
  intro x h' hx hi' hm' hA' hr'
  refine ⟨hi', M6.seq (hm'.sub rfl), x, rfl, Or.inr ⟨_, _, _, W, hx, T6.md hm' rfl, ?_⟩⟩
  have e1 : pI h' 0 20 = pI h6 0 20 + 1 := hr' (0, 20, 0, 1) List.mem_cons_self
  exact R6.up hm' rfl (by show pI h' 0 20 = ((S 2 + 1 : Nat) : Int); omega) (by decide)
theorem SivB0 : spmB swM sT0 [(0, 4, 6)] 100 1 212 [] [sr0] ([(0, 22, (6, 6))], [], [], []) fP [] [fR 2] = true := by decide +kernel
theorem SivB1 : spmB swM sT0 [] 100 1 212 [] [sr0] ([(0, 22, (0, 5))], [], [], []) [] [(16, [sr0], [(0, sr0)], sA0, [], [])] [] = true := by decide +kernel
theorem zv_Siv16 : zcvB 212 16 12 0 195 = true := by decide +kernel
theorem SivB2 : spqB swM sT0 [] 100 1 212 [(0, sr0)] sA0 [] [] 19 [(23, [sI1 9 9, sI1 1 1, sr0], [(0, sr0)], sA0, [], [])] [] = true := by decide +kernel
theorem zv_Siv23 : zcvB 212 23 12 2 208 = true := by decide +kernel
theorem SivB3 : spqB swM sT0 [] 100 1 212 [(0, sr0)] sA0 [] [0] 26 [] [rI 0 sA0 []] = true := by decide +kernel
theorem SivB4 : spqB swM sT0 [(0, 22, 23), (18, 6, 12)] 100 1 212 [(0, sr0)] ([(0, 11, (1, 9))], [], [], []) [(0, (none, 22), (0, 5))] [1] 26 [] [rI 1 sA0 [(0, 22, 0, 1)]] = true := by decide +kernel
theorem zSivR {l : Launch} {Γ : zG} {d : Nat} {D : zD} {N : zN} {S : zS} {q : Nat} {h : zH} (hi : sInv swM h) (hT : tTk D q h) (hR : RM N S h) {KF : zKF} {KO : zKO} (W : wSiv D N S q KF KO) : zSem l Γ false (d + 4) (zhd 212) [.ref 0] h (zLP D KF KO h) := by
  have M0 : sMd lnMd h h := sMd.rf
  unfold wSiv at W
  have s0 : pI h 0 22 = (S 4 : Int) := hR.1 4 (by decide)
  have sb0 : 0 ≤ pI h 0 22 ∧ pI h 0 22 ≤ 6 := pbd (iv := (0, 6)) hi (by decide +kernel)
  by_cases hfull : S 4 = 6
  · rw [if_pos hfull] at W
    refine spm_f SivB0 (by omega) ⟨_, _, rfl, rfl, rfl⟩ (sAok.of (iB (by omega) (by omega) iE)) hi ?_
    intro x h' hx hi' hm' hf
    exact ⟨hi', hm'.sub rfl, x, rfl, Or.inl ⟨2, q, W, hx, by rw [← hT.2.2.1]; exact hf⟩⟩
  rw [if_neg hfull] at W
  refine spm_c (fun _ => 0) SivB1 (by omega) ⟨_, _, rfl, rfl, rfl⟩ (sAok.of (iB (by omega) (by omega) iE)) trivial hi ?_
  intro lo1 st1 h1 hp hi1 hm1
  obtain ⟨p1, p2, p3, p4, p5⟩ := hp
  obtain ⟨u0, _, rfl, u0r, hn⟩ := p1
  have u0r : u0 = .ref 0 := u0r
  subst u0r
  have hn : _ = [] := hn
  subst hn
  have M1 := M0.seq (hm1.sub rfl)
  have R1 := hR.md hm1 rfl
  refine zcallV (as := []) zv_Siv16 rfl (by rw [hi1.1]; rfl) ?_
  refine (ztokR (d := d + 1) hi1 (hT.1.md hm1 rfl rfl rfl)).mono ?_
  rintro r2 h2 ⟨rfl, hi2, T2, hm2⟩
  have M2 := M1.seq (hm2.sub rfl)
  have R2 := R1.md hm2 rfl
  have L2 := p2
  refine spq_c (pc := 19) (fun _ => 0) SivB2 (by omega) L2 (sA0_ok _) trivial hi2 rfl ?_
  intro lo3 st3 h3 hp hi3 hm3
  obtain ⟨p1, L3, p3, p4, p5⟩ := hp
  obtain ⟨_, _, rfl, ⟨u3_0, rfl, u3_0a, u3_0b⟩, _, _, rfl, ⟨u3_1, rfl, u3_1a, u3_1b⟩, u3_2, _, rfl, u3_2r, hn⟩ := p1
  have u3_0a : 9 ≤ u3_0.toInt := u3_0a
  have u3_0b : u3_0.toInt ≤ 9 := u3_0b
  have u3_1a : 1 ≤ u3_1.toInt := u3_1a
  have u3_1b : u3_1.toInt ≤ 1 := u3_1b
  have u3_2r : u3_2 = .ref 0 := u3_2r
  subst u3_2r
  have hn : _ = [] := hn
  subst hn
  have M3 := M2.seq (hm3.sub rfl)
  have R3 := R2.md hm3 rfl
  have T3 := T2.md hm3 rfl
  refine zcallV (as := [.int u3_0, .int u3_1]) zv_Siv23 rfl (by rw [hi3.1]; rfl) ?_
  refine (zNumR (d := d) hi3 T3 (a := u3_1) (b := u3_0) (L := 1) (H := 9) (by omega) (by omega) (by decide)).mono ?_
  rintro rr h4 ⟨hi4, hm4, x4, rfl, hw⟩
  rcases hw _ _ W with ⟨c, p, hF, hx, hf⟩ | ⟨v4, q4, W, hx, T4, g4⟩
  · refine spq_r (pc := 26) (fun _ => 0) SivB3 (by omega) L3 (sA0_ok _) trivial hi4 ⟨x4, [], rfl, hx, rfl⟩ ?_
    intro x h' hx hi' hm' _ _
    exact ⟨hi', (M3.seq (hm4.sub rfl)).seq (hm'.sub rfl), x, rfl, Or.inl ⟨c, p, hF, hx, by unfold fM; rw [pI_md hm' rfl, pI_md hm' rfl]; exact hf⟩⟩
  have M4 := M3.seq (hm4.sub rfl)
  have R4 := R3.md hm4 rfl
  have L4 := L3
  have eS : pI h4 0 22 = (S 4 : Int) := R4.1 4 (by decide)
  have bb : 0 ≤ pI h4 0 22 ∧ pI h4 0 22 ≤ 5 := by omega
  refine spq_r (pc := 26) (fun _ => pI h4 0 22) SivB4 (by omega) L4 (sAok.of (iB (by omega) (by omega) iE)) ⟨⟨rfl, bb.1, bb.2⟩, trivial⟩ hi4 ⟨x4, [], rfl, hx, rfl⟩ ?_
  intro x h' hx hi' hm' hA' hr'
  refine ⟨hi', M4.seq (hm'.sub rfl), x, rfl, Or.inr ⟨_, _, _, W, hx, T4.md hm' rfl, ?_⟩⟩
  have e1 : pI h' 0 22 = pI h4 0 22 + 1 := hr' (0, 22, 0, 1) List.mem_cons_self
  exact R4.up hm' rfl (by show pI h' 0 22 = ((S 4 + 1 : Nat) : Int); omega) (by decide)
theorem DmpB0 : spmB swM sT0 [(0, 4, 6)] 100 1 213 [] [sr0, sI1 0 0, sI1 100 100] ([(3, 0, (1, 1))], [], [], []) fP [] [fR 3] = true := by decide +kernel
theorem DmpB1 : spmB swM sT0 [(3, 0, 1)] 100 1 213 [] [sr0, sI1 0 0, sI1 100 100] ([(3, 0, (0, 0))], [], [], []) [] [(23, [sr0], [(0, sr0), (1, sI1 0 0), (2, sI1 100 100)], ([(3, 0, (1, 1))], [], [], []), [], [])] [] = true := by decide +kernel
theorem zv_Dmp23 : zcvB 213 23 12 0 195 = true := by decide +kernel
theorem DmpB2 : spqB swM sT0 [] 100 1 213 [(0, sr0), (1, sI1 0 0), (2, sI1 100 100)] sA0 [] [] 26 [(29, [sI1 100 100, sI1 0 0, sr0], [(0, sr0), (1, sI1 0 0), (2, sI1 100 100)], sA0, [], [])] [] = true := by decide +kernel
theorem zv_Dmp29 : zcvB 213 29 12 2 208 = true := by decide +kernel
theorem DmpB3 : spqB swM sT0 [] 100 1 213 [(0, sr0), (1, sI1 0 0), (2, sI1 100 100)] sA0 [] [0] 32 [] [rI 0 sA0 []] = true := by decide +kernel
theorem DmpB4 : spqB swM sT0 [(4, 2, 3)] 100 1 213 [(0, sr0), (1, sI1 0 0), (2, sI1 100 100)] ([(0, 11, (0, 100))], [], [], []) [] [1] 32 [] [rI 1 sA0 []] = true := by decide +kernel
theorem zDmpR {l : Launch} {Γ : zG} {d : Nat} {D : zD} {N : zN} {S : zS} {q : Nat} {h : zH} (hi : sInv swM h) (hT : tTk D q h) (hR : RM N S h) {a1 a2 : Int32} (ha1 : a1.toInt = 0) (ha2 : a2.toInt = 100) {KF : zKF} {KO : zKO} (W : wOnc D 5 100 N S q KF KO) : zSem l Γ false (d + 4) (zhd 213) [.ref 0, .int a1, .int a2] h (zLP D KF KO h) := by
  have M0 : sMd lnMd h h := sMd.rf
  unfold wOnc at W
  have s0 : pI h 3 0 = (S 5 : Int) := hR.1 5 (by decide)
  have sb0 : 0 ≤ pI h 3 0 ∧ pI h 3 0 ≤ 1 := pbd (iv := (0, 1)) hi (by decide +kernel)
  by_cases hfull : S 5 = 0
  rotate_left
  · rw [if_neg hfull] at W
    refine spm_f DmpB0 (by omega) ⟨_, _, rfl, rfl, _, _, rfl, ⟨a1, rfl, by show 0 ≤ _; omega, by show _ ≤ 0; omega⟩, _, _, rfl, ⟨a2, rfl, by show 100 ≤ _; omega, by show _ ≤ 100; omega⟩, rfl⟩ (sAok.of (iB (by omega) (by omega) iE)) hi ?_
    intro x h' hx hi' hm' hf
    exact ⟨hi', hm'.sub rfl, x, rfl, Or.inl ⟨3, q, W, hx, by rw [← hT.2.2.1]; exact hf⟩⟩
  rw [if_pos hfull] at W
  refine spm_c (fun _ => 0) DmpB1 (by omega) ⟨_, _, rfl, rfl, _, _, rfl, ⟨a1, rfl, by show 0 ≤ _; omega, by show _ ≤ 0; omega⟩, _, _, rfl, ⟨a2, rfl, by show 100 ≤ _; omega, by show _ ≤ 100; omega⟩, rfl⟩ (sAok.of (iB (by omega) (by omega) iE)) trivial hi ?_
  intro lo1 st1 h1 hp hi1 hm1
  obtain ⟨p1, p2, p3, p4, p5⟩ := hp
  obtain ⟨u0, _, rfl, u0r, hn⟩ := p1
  have u0r : u0 = .ref 0 := u0r
  subst u0r
  have hn : _ = [] := hn
  subst hn
  have M1 := M0.seq (hm1.sub rfl)
  have R1 : RM N (sU S 5 1) h1 := hR.up hm1 rfl (by have z : 1 ≤ pI h1 3 0 ∧ pI h1 3 0 ≤ 1 := p3.1 (3, 0, (1, 1)) List.mem_cons_self; show pI h1 3 0 = ((1 : Nat) : Int); omega) (by decide)
  refine zcallV (as := []) zv_Dmp23 rfl (by rw [hi1.1]; rfl) ?_
  refine (ztokR (d := d + 1) hi1 (hT.1.md hm1 rfl rfl rfl)).mono ?_
  rintro r2 h2 ⟨rfl, hi2, T2, hm2⟩
  have M2 := M1.seq (hm2.sub rfl)
  have R2 := R1.md hm2 rfl
  have L2 := p2
  refine spq_c (pc := 26) (fun _ => 0) DmpB2 (by omega) L2 (sA0_ok _) trivial hi2 rfl ?_
  intro lo3 st3 h3 hp hi3 hm3
  obtain ⟨p1, L3, p3, p4, p5⟩ := hp
  obtain ⟨_, _, rfl, ⟨u3_0, rfl, u3_0a, u3_0b⟩, _, _, rfl, ⟨u3_1, rfl, u3_1a, u3_1b⟩, u3_2, _, rfl, u3_2r, hn⟩ := p1
  have u3_0a : 100 ≤ u3_0.toInt := u3_0a
  have u3_0b : u3_0.toInt ≤ 100 := u3_0b
  have u3_1a : 0 ≤ u3_1.toInt := u3_1a
  have u3_1b : u3_1.toInt ≤ 0 := u3_1b
  have u3_2r : u3_2 = .ref 0 := u3_2r
  subst u3_2r
  have hn : _ = [] := hn
  subst hn
  have M3 := M2.seq (hm3.sub rfl)
  have R3 := R2.md hm3 rfl
  have T3 := T2.md hm3 rfl
  refine zcallV (as := [.int u3_0, .int u3_1]) zv_Dmp29 rfl (by rw [hi3.1]; rfl) ?_
  refine (zNumR (d := d) hi3 T3 (a := u3_1) (b := u3_0) (L := 0) (H := 100) (by omega) (by omega) (by decide)).mono ?_
  rintro rr h4 ⟨hi4, hm4, x4, rfl, hw⟩
  rcases hw _ _ W with ⟨c, p, hF, hx, hf⟩ | ⟨v4, q4, W, hx, T4, g4⟩
  · refine spq_r (pc := 32) (fun _ => 0) DmpB3 (by omega) L3 (sA0_ok _) trivial hi4 ⟨x4, [], rfl, hx, rfl⟩ ?_
    intro x h' hx hi' hm' _ _
    exact ⟨hi', (M3.seq (hm4.sub rfl)).seq (hm'.sub rfl), x, rfl, Or.inl ⟨c, p, hF, hx, by unfold fM; rw [pI_md hm' rfl, pI_md hm' rfl]; exact hf⟩⟩
  have M4 := M3.seq (hm4.sub rfl)
  have R4 := R3.md hm4 rfl
  have L4 := L3
  refine spq_r (pc := 32) (fun _ => 0) DmpB4 (by omega) L4 (sAok.of (iB (by omega) (by omega) iE)) trivial hi4 ⟨x4, [], rfl, hx, rfl⟩ ?_
  intro x h' hx hi' hm' hA' hr'
  refine ⟨hi', M4.seq (hm'.sub rfl), x, rfl, Or.inr ⟨_, _, _, W, hx, T4.md hm' rfl, ?_⟩⟩
  exact R4.md hm' rfl
theorem SedB0 : spmB swM sT0 [(0, 4, 6)] 100 1 213 [] [sr0, sI1 1 1, sI1 99999 99999] ([(3, 1, (1, 1))], [], [], []) fP [] [fR 3] = true := by decide +kernel
theorem SedB1 : spmB swM sT0 [(3, 1, 2)] 100 1 213 [] [sr0, sI1 1 1, sI1 99999 99999] ([(3, 1, (0, 0))], [], [], []) [] [(23, [sr0], [(0, sr0), (1, sI1 1 1), (2, sI1 99999 99999)], ([(3, 1, (1, 1))], [], [], []), [], [])] [] = true := by decide +kernel
theorem zv_Sed23 : zcvB 213 23 12 0 195 = true := by decide +kernel
theorem SedB2 : spqB swM sT0 [] 100 1 213 [(0, sr0), (1, sI1 1 1), (2, sI1 99999 99999)] sA0 [] [] 26 [(29, [sI1 99999 99999, sI1 0 0, sr0], [(0, sr0), (1, sI1 1 1), (2, sI1 99999 99999)], sA0, [], [])] [] = true := by decide +kernel
theorem zv_Sed29 : zcvB 213 29 12 2 208 = true := by decide +kernel
theorem SedB3 : spqB swM sT0 [] 100 1 213 [(0, sr0), (1, sI1 1 1), (2, sI1 99999 99999)] sA0 [] [0] 32 [] [rI 0 sA0 []] = true := by decide +kernel
theorem SedB4 : spqB swM sT0 [(4, 3, 4)] 100 1 213 [(0, sr0), (1, sI1 1 1), (2, sI1 99999 99999)] ([(0, 11, (0, 99999))], [], [], []) [] [1] 32 [] [rI 1 sA0 []] = true := by decide +kernel
theorem zSedR {l : Launch} {Γ : zG} {d : Nat} {D : zD} {N : zN} {S : zS} {q : Nat} {h : zH} (hi : sInv swM h) (hT : tTk D q h) (hR : RM N S h) {a1 a2 : Int32} (ha1 : a1.toInt = 1) (ha2 : a2.toInt = 99999) {KF : zKF} {KO : zKO} (W : wOnc D 6 99999 N S q KF KO) : zSem l Γ false (d + 4) (zhd 213) [.ref 0, .int a1, .int a2] h (zLP D KF KO h) := by
  have M0 : sMd lnMd h h := sMd.rf
  unfold wOnc at W
  have s0 : pI h 3 1 = (S 6 : Int) := hR.1 6 (by decide)
  have sb0 : 0 ≤ pI h 3 1 ∧ pI h 3 1 ≤ 1 := pbd (iv := (0, 1)) hi (by decide +kernel)
  by_cases hfull : S 6 = 0
  rotate_left
  · rw [if_neg hfull] at W
    refine spm_f SedB0 (by omega) ⟨_, _, rfl, rfl, _, _, rfl, ⟨a1, rfl, by show 1 ≤ _; omega, by show _ ≤ 1; omega⟩, _, _, rfl, ⟨a2, rfl, by show 99999 ≤ _; omega, by show _ ≤ 99999; omega⟩, rfl⟩ (sAok.of (iB (by omega) (by omega) iE)) hi ?_
    intro x h' hx hi' hm' hf
    exact ⟨hi', hm'.sub rfl, x, rfl, Or.inl ⟨3, q, W, hx, by rw [← hT.2.2.1]; exact hf⟩⟩
  rw [if_pos hfull] at W
  refine spm_c (fun _ => 0) SedB1 (by omega) ⟨_, _, rfl, rfl, _, _, rfl, ⟨a1, rfl, by show 1 ≤ _; omega, by show _ ≤ 1; omega⟩, _, _, rfl, ⟨a2, rfl, by show 99999 ≤ _; omega, by show _ ≤ 99999; omega⟩, rfl⟩ (sAok.of (iB (by omega) (by omega) iE)) trivial hi ?_
  intro lo1 st1 h1 hp hi1 hm1
  obtain ⟨p1, p2, p3, p4, p5⟩ := hp
  obtain ⟨u0, _, rfl, u0r, hn⟩ := p1
  have u0r : u0 = .ref 0 := u0r
  subst u0r
  have hn : _ = [] := hn
  subst hn
  have M1 := M0.seq (hm1.sub rfl)
  have R1 : RM N (sU S 6 1) h1 := hR.up hm1 rfl (by have z : 1 ≤ pI h1 3 1 ∧ pI h1 3 1 ≤ 1 := p3.1 (3, 1, (1, 1)) List.mem_cons_self; show pI h1 3 1 = ((1 : Nat) : Int); omega) (by decide)
  refine zcallV (as := []) zv_Sed23 rfl (by rw [hi1.1]; rfl) ?_
  refine (ztokR (d := d + 1) hi1 (hT.1.md hm1 rfl rfl rfl)).mono ?_
  rintro r2 h2 ⟨rfl, hi2, T2, hm2⟩
  have M2 := M1.seq (hm2.sub rfl)
  have R2 := R1.md hm2 rfl
  have L2 := p2
  refine spq_c (pc := 26) (fun _ => 0) SedB2 (by omega) L2 (sA0_ok _) trivial hi2 rfl ?_
  intro lo3 st3 h3 hp hi3 hm3
  obtain ⟨p1, L3, p3, p4, p5⟩ := hp
  obtain ⟨_, _, rfl, ⟨u3_0, rfl, u3_0a, u3_0b⟩, _, _, rfl, ⟨u3_1, rfl, u3_1a, u3_1b⟩, u3_2, _, rfl, u3_2r, hn⟩ := p1
  have u3_0a : 99999 ≤ u3_0.toInt := u3_0a
  have u3_0b : u3_0.toInt ≤ 99999 := u3_0b
  have u3_1a : 0 ≤ u3_1.toInt := u3_1a
  have u3_1b : u3_1.toInt ≤ 0 := u3_1b
  have u3_2r : u3_2 = .ref 0 := u3_2r
  subst u3_2r
  have hn : _ = [] := hn
  subst hn
  have M3 := M2.seq (hm3.sub rfl)
  have R3 := R2.md hm3 rfl
  have T3 := T2.md hm3 rfl
  refine zcallV (as := [.int u3_0, .int u3_1]) zv_Sed29 rfl (by rw [hi3.1]; rfl) ?_
  refine (zNumR (d := d) hi3 T3 (a := u3_1) (b := u3_0) (L := 0) (H := 99999) (by omega) (by omega) (by decide)).mono ?_
  rintro rr h4 ⟨hi4, hm4, x4, rfl, hw⟩
  rcases hw _ _ W with ⟨c, p, hF, hx, hf⟩ | ⟨v4, q4, W, hx, T4, g4⟩
  · refine spq_r (pc := 32) (fun _ => 0) SedB3 (by omega) L3 (sA0_ok _) trivial hi4 ⟨x4, [], rfl, hx, rfl⟩ ?_
    intro x h' hx hi' hm' _ _
    exact ⟨hi', (M3.seq (hm4.sub rfl)).seq (hm'.sub rfl), x, rfl, Or.inl ⟨c, p, hF, hx, by unfold fM; rw [pI_md hm' rfl, pI_md hm' rfl]; exact hf⟩⟩
  have M4 := M3.seq (hm4.sub rfl)
  have R4 := R3.md hm4 rfl
  have L4 := L3
  refine spq_r (pc := 32) (fun _ => 0) SedB4 (by omega) L4 (sAok.of (iB (by omega) (by omega) iE)) trivial hi4 ⟨x4, [], rfl, hx, rfl⟩ ?_
  intro x h' hx hi' hm' hA' hr'
  refine ⟨hi', M4.seq (hm'.sub rfl), x, rfl, Or.inr ⟨_, _, _, W, hx, T4.md hm' rfl, ?_⟩⟩
  exact R4.md hm' rfl
