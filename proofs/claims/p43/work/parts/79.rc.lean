/-! the reference: lines -/
def rmP : List (Nat × Nat) := [(0, 18), (0, 19), (0, 20), (0, 21), (0, 22), (3, 0), (3, 1), (19, 3), (19, 4), (19, 5), (0, 51)]
def rmA (j : Nat) : Nat × Nat := rmP.getD j (0, 0)
theorem rmA_mem : (List.range 11).all (fun j => decide (rmA j ∈ rmP)) = true := by decide +kernel
theorem rmA_in {j : Nat} (hj : j < 11) : rmA j ∈ rmP := of_decide_eq_true (List.all_eq_true.mp rmA_mem j (List.mem_range.mpr hj))
/-- columns: which, its cell, where it begins, by what it is counted -/
def colsA : List (Nat × Nat × Nat × Nat) := [(0, 5, 5, 0), (1, 6, 8, 1), (2, 7, 8, 1), (3, 8, 8, 1), (4, 9, 8, 1), (5, 10, 8, 1), (6, 11, 8, 1), (7, 12, 10, 2), (8, 13, 10, 2), (9, 14, 10, 3), (10, 15, 10, 3), (11, 16, 10, 3), (12, 17, 10, 3), (13, 18, 6, 4)]
theorem colsA_d : colsA.all (fun t => decide (5 ≤ t.2.1) && (decide (t.2.1 ≤ 18) && (decide (t.2.2.2 < 5) && (decide (t.1 ≤ 13) && colsA.all (fun u => !(u.2.1 == t.2.1) || decide (u = t)))))) = true := by decide +kernel
theorem colsA_c {t : Nat × Nat × Nat × Nat} (ht : t ∈ colsA) : 5 ≤ t.2.1 ∧ t.2.1 ≤ 18 ∧ t.2.2.2 < 5 ∧ t.1 ≤ 13 ∧ ∀ u ∈ colsA, u.2.1 = t.2.1 → u = t := by
  have h := List.all_eq_true.mp colsA_d t ht
  simp only [Bool.and_eq_true, decide_eq_true_eq] at h
  refine ⟨h.1, h.2.1, h.2.2.1, h.2.2.2.1, fun u hu e => ?_⟩
  have h2 := List.all_eq_true.mp h.2.2.2.2 u hu
  simp only [Bool.or_eq_true, Bool.not_eq_true', beq_eq_false_iff_ne, decide_eq_true_eq] at h2
  rcases h2 with h2 | h2
  · exact absurd e h2
  · exact h2
/-- the laws told: where each law's knots lie, and what they are -/
def LwM (N : zN) (S : zS) (h : zH) : Prop := ∀ j, j < 3 → S (7 + j) ≠ 0 → pI h 20 (3 + j) = (S (14 + j) : Int) ∧ pI h 21 (3 + j) = ((S (14 + j) + S (11 + j) : Nat) : Int) ∧ S (14 + j) + S (11 + j) ≤ S 10 ∧ kR (fun i => pI h 22 (64 + i)) (fun i => pI h 23 (64 + i)) (fun i => pI h 24 (64 + i)) (S (14 + j)) (lsF (N (20 + j)) (S (11 + j))) ∧ (ixs (S (14 + j)) (lsF (N (20 + j)) (S (11 + j)))).length = 1
theorem LwM.kept {N N' : zN} {S S' : zS} {h h' : zH} (hL : LwM N S h) (k : ∀ q j, 20 ≤ q → q ≤ 24 → pI h' q j = pI h q j) (hN : ∀ a i, 20 ≤ a → N' a i = N a i) (hS : ∀ i, 7 ≤ i → S' i = S i) : LwM N' S' h' := fun j hj h0 => by
  rw [hS (7 + j) (by omega)] at h0
  obtain ⟨a1, a2, a3, a4⟩ := hL j hj h0
  rw [hS (14 + j) (by omega), hS (11 + j) (by omega), hS 10 (by omega), k _ _ (by omega) (by omega), k _ _ (by omega) (by omega)]
  refine ⟨a1, a2, a3, ?_⟩
  rw [lsF_eq (S (11 + j)) (f := N' (20 + j)) (g := N (20 + j)) (fun i _ => hN (20 + j) i (by omega))]
  exact ⟨kR_eq (fun i _ _ => ⟨k _ _ (by omega) (by omega), k _ _ (by omega) (by omega), k _ _ (by omega) (by omega)⟩) a4.1, a4.2⟩
/-- what a text has told so far, in the reference's heap -/
def RM (N : zN) (S : zS) (h : zH) : Prop := (∀ j, j < 11 → pI h (rmA j).1 (rmA j).2 = (S j : Int)) ∧ (∀ t ∈ colsA, ∀ i, i < S t.2.2.2 → pI h t.2.1 (t.2.2.1 + i) = N t.1 i) ∧ (pI h 4 2 = N 14 0 ∧ pI h 4 3 = N 14 1) ∧ pI h 0 23 = pI h 0 51 ∧ (∀ j, 3 ≤ j → j < 6 → pLaw h j) ∧ LwM N S h
theorem RM.nm0 {N : zN} {S : zS} {h : zH} (hR : RM N S h) : ∀ i, i < S 0 → pI h 5 (5 + i) = N 0 i := fun i hi => hR.2.1 (0, 5, 5, 0) (by decide) i hi
theorem RM.nm1 {N : zN} {S : zS} {h : zH} (hR : RM N S h) : ∀ i, i < S 1 → pI h 6 (8 + i) = N 1 i := fun i hi => hR.2.1 (1, 6, 8, 1) (by decide) i hi
def rmQ (md : sM) : Bool := md.all (fun t => decide (t.1 < 5) || decide (18 < t.1)) && (!smem md 4 2 && !smem md 4 3)
theorem rmQ_c {md : sM} (h : rmQ md = true) {t : Nat × Nat × Nat × Nat} (ht : t ∈ colsA) (j : Nat) : smem md t.2.1 j = false := by
  simp only [rmQ, Bool.and_eq_true] at h
  obtain ⟨c1, c2, -⟩ := colsA_c ht
  cases hc : smem md t.2.1 j with
  | false => rfl
  | true =>
    obtain ⟨u, hu, h1⟩ := List.any_eq_true.mp hc
    have h2 := List.all_eq_true.mp h.1 u hu
    simp only [Bool.and_eq_true, beq_iff_eq, Bool.or_eq_true, decide_eq_true_eq] at h1 h2
    omega
theorem rmQ_o {md : sM} (h : rmQ md = true) : smem md 4 2 = false ∧ smem md 4 3 = false := by
  simp only [rmQ, Bool.and_eq_true, Bool.not_eq_true'] at h
  exact h.2
def rmK (md : sM) : Bool := md.all (fun t => decide (t.1 < 20) || decide (24 < t.1))
theorem rmK_o {md : sM} (h : rmK md = true) {q : Nat} (h1 : 20 ≤ q) (h2 : q ≤ 24) (j : Nat) : smem md q j = false := by
  cases hc : smem md q j with
  | false => rfl
  | true =>
    obtain ⟨u, hu, h3⟩ := List.any_eq_true.mp hc
    have h4 := List.all_eq_true.mp h u hu
    simp only [Bool.and_eq_true, beq_iff_eq, Bool.or_eq_true, decide_eq_true_eq] at h3 h4
    omega
def rmB (md : sM) : Bool := rmP.all (fun t => !smem md t.1 t.2) && (rmQ md && (md.all (fun t => !(t.1 == 19)) && (md.all (fun t => !(t.1 == 21)) && (!smem md 0 23 && rmK md))))
theorem RM.md {N : zN} {S : zS} {h h' : zH} {md : sM} (hR : RM N S h) (hm : sMd md h h') (hb : rmB md = true) : RM N S h' := by
  simp only [rmB, Bool.and_eq_true, Bool.not_eq_true'] at hb
  obtain ⟨b1, bq, b19, b21, b23, bk⟩ := hb
  obtain ⟨r1, r2, r3, r4, r5, r6⟩ := hR
  have k : ∀ t ∈ rmP, smem md t.1 t.2 = false := fun t ht => by simpa using List.all_eq_true.mp b1 t ht
  refine ⟨fun j hj => (pI_md hm (k _ (rmA_in hj))).trans (r1 j hj), fun t ht i hlt => (pI_md hm (rmQ_c bq ht _)).trans (r2 t ht i hlt), ⟨(pI_md hm (rmQ_o bq).1).trans r3.1, (pI_md hm (rmQ_o bq).2).trans r3.2⟩, ?_, fun j h3 h6 => (r5 j h3 h6).congr (pI_md hm (smem_q b19 _)) (pI_md hm (smem_q b21 _)), r6.kept (fun q j h1 h2 => pI_md hm (rmK_o bk h1 h2 j)) (fun _ _ _ => rfl) (fun _ _ => rfl)⟩
  rw [pI_md hm b23, pI_md hm (k (0, 51) (by decide))]
  exact r4
/-- what isn't a column's next row stays -/
theorem RM.kp {N : zN} {S : zS} {h h' : zH} (hR : RM N S h) (k : ∀ q j, ¬ (q = 0 ∧ 4 ≤ j ∧ j ≤ 11) → ¬ (∃ t ∈ colsA, q = t.2.1 ∧ j = t.2.2.1 + S t.2.2.2) → pI h' q j = pI h q j) : RM N S h' := by
  obtain ⟨r1, r2, r3, r4, r5, r6⟩ := hR
  have no : ∀ {q j : Nat}, q < 5 ∨ 18 < q → ¬ (∃ t ∈ colsA, q = t.2.1 ∧ j = t.2.2.1 + S t.2.2.2) := fun {q j} hq ⟨t, ht, e, _⟩ => by
    have := colsA_c ht
    omega
  have k1 : ∀ t ∈ rmP, pI h' t.1 t.2 = pI h t.1 t.2 := fun t ht => by
    simp only [rmP, List.mem_cons, List.not_mem_nil, or_false] at ht
    rcases ht with rfl | rfl | rfl | rfl | rfl | rfl | rfl | rfl | rfl | rfl | rfl <;> exact k _ _ (by omega) (no (by omega))
  refine ⟨fun j hj => (k1 _ (rmA_in hj)).trans (r1 j hj), fun t ht i hlt => (k _ _ (by have := colsA_c ht; omega) ?_).trans (r2 t ht i hlt), ⟨(k _ _ (by omega) (no (by omega))).trans r3.1, (k _ _ (by omega) (no (by omega))).trans r3.2⟩, ?_, fun j h3 h6 => (r5 j h3 h6).congr (k _ _ (by omega) (no (by omega))) (k _ _ (by omega) (no (by omega))), r6.kept (fun q j h1 h2 => k _ _ (by omega) (no (by omega))) (fun _ _ _ => rfl) (fun _ _ => rfl)⟩
  · rintro ⟨u, hu, e1, e2⟩
    have := (colsA_c ht).2.2.2.2 u hu e1.symm
    subst this
    omega
  · rw [k 0 23 (by omega) (no (by omega)), k 0 51 (by omega) (no (by omega))]
    exact r4
theorem RM.nw {N : zN} {S : zS} {h h' : zH} {c r : Nat} (hR : RM N S h) (hc : (c = 5 ∧ r = S 0) ∨ (c = 6 ∧ r = S 1)) {o : Nat} (ho : o = if c = 5 then 5 else 8) (hm : sMd (nwMd c (o + r)) h h') : RM N S h' := by
  refine hR.kp (fun q j h1 h2 => pI_md hm ?_)
  cases hcs : smem (nwMd c (o + r)) q j with
  | false => rfl
  | true =>
    exfalso
    simp only [smem, nwMd, List.any_cons, List.any_nil, Bool.or_eq_true, Bool.and_eq_true, beq_iff_eq, decide_eq_true_eq, Bool.or_false] at hcs
    by_cases e0 : q = 0 ∧ 4 ≤ j ∧ j ≤ 11
    · exact h1 e0
    · apply h2
      rcases hc with ⟨rfl, rfl⟩ | ⟨rfl, rfl⟩
      · rw [if_pos rfl] at ho
        exact ⟨(0, 5, 5, 0), by decide, by show q = 5; omega, by show j = 5 + S 0; omega⟩
      · rw [if_neg (by decide)] at ho
        exact ⟨(1, 6, 8, 1), by decide, by show q = 6; omega, by show j = 8 + S 1; omega⟩
/-- a column's next row is written -/
theorem RM.col {N : zN} {S : zS} {h h' : zH} {md : sM} (hR : RM N S h) (hm : sMd md h h') (hb : ∀ u ∈ md, ∃ t ∈ colsA, u = (t.2.1, t.2.2.1 + S t.2.2.2, t.2.2.1 + S t.2.2.2 + 1)) : RM N S h' := by
  refine hR.kp (fun q j h1 h2 => pI_md hm ?_)
  cases hcs : smem md q j with
  | false => rfl
  | true =>
    exfalso
    obtain ⟨u, hu, hc⟩ := List.any_eq_true.mp hcs
    obtain ⟨t, ht, e⟩ := hb u hu
    subst e
    simp only [Bool.and_eq_true, beq_iff_eq, decide_eq_true_eq] at hc
    exact h2 ⟨t, ht, hc.1.symm, by omega⟩
/-- a row is told -/
theorem RM.fin {N N' : zN} {S : zS} {h h' : zH} {md : sM} {j0 : Nat} (hR : RM N S h) (hm : sMd md h h') (hj : j0 < 5) (e1 : pI h' 0 (18 + j0) = (S j0 : Int) + 1) (hb : ∀ u ∈ md, u = (0, 18 + j0, 18 + j0 + 1) ∨ ∃ t ∈ colsA, t.2.2.2 = j0 ∧ u = (t.2.1, t.2.2.1 + S j0, t.2.2.1 + S j0 + 1)) (hv : ∀ t ∈ colsA, t.2.2.2 = j0 → pI h' t.2.1 (t.2.2.1 + S j0) = N' t.1 (S j0)) (hN : ∀ c i, ¬ (i = S j0 ∧ ∃ t ∈ colsA, t.2.2.2 = j0 ∧ c = t.1) → N' c i = N c i) : RM N' (sU S j0 (S j0 + 1)) h' := by
  have k : ∀ q j, ¬ (q = 0 ∧ j = 18 + j0) → ¬ (∃ t ∈ colsA, t.2.2.2 = j0 ∧ q = t.2.1 ∧ j = t.2.2.1 + S j0) → pI h' q j = pI h q j := fun q j h1 h2 => pI_md hm (by
    cases hcs : smem md q j with
    | false => rfl
    | true =>
      exfalso
      obtain ⟨u, hu, hc⟩ := List.any_eq_true.mp hcs
      simp only [Bool.and_eq_true, beq_iff_eq, decide_eq_true_eq] at hc
      rcases hb u hu with e | ⟨t, ht, ej, e⟩
      · subst e
        simp only at hc
        exact h1 ⟨hc.1.symm, by omega⟩
      · subst e
        simp only at hc
        exact h2 ⟨t, ht, ej, hc.1.symm, by omega⟩)
  have no : ∀ {q j : Nat}, q < 5 ∨ 18 < q → ¬ (∃ t ∈ colsA, t.2.2.2 = j0 ∧ q = t.2.1 ∧ j = t.2.2.1 + S j0) := fun {q j} hq ⟨t, ht, _, e, _⟩ => by
    have := colsA_c ht
    omega
  obtain ⟨r1, r2, r3, r4, r5, r6⟩ := hR
  have sc : ∀ a b : Nat, a < 5 ∨ 18 < a → ¬ (a = 0 ∧ b = 18 + j0) → pI h' a b = pI h a b := fun a b h1 h2 => k a b h2 (no h1)
  refine ⟨fun j hlt => ?_, fun t ht i hlt => ?_, ⟨?_, ?_⟩, ?_, fun j h3 h6 => (r5 j h3 h6).congr (sc _ _ (by omega) (by omega)) (sc _ _ (by omega) (by omega)), r6.kept (fun q j h1 h2 => sc _ _ (by omega) (by omega)) (fun a i ha => hN a i (fun ⟨_, u, hu, _, e3⟩ => by have := colsA_c hu; omega)) (fun i hi => sU_ne (by omega))⟩
  · by_cases e : j = j0
    · subst e
      rw [sU_at]
      have e2 : rmA j = (0, 18 + j) := by
        have hj' : j = 0 ∨ j = 1 ∨ j = 2 ∨ j = 3 ∨ j = 4 := by omega
        rcases hj' with rfl | rfl | rfl | rfl | rfl <;> rfl
      rw [e2]
      show pI h' 0 (18 + j) = _
      rw [e1]
      rfl
    · rw [sU_ne e, ← r1 j hlt]
      have hj' : j = 0 ∨ j = 1 ∨ j = 2 ∨ j = 3 ∨ j = 4 ∨ j = 5 ∨ j = 6 ∨ j = 7 ∨ j = 8 ∨ j = 9 ∨ j = 10 := by omega
      rcases hj' with rfl | rfl | rfl | rfl | rfl | rfl | rfl | rfl | rfl | rfl | rfl
      · exact sc 0 18 (by omega) (by omega)
      · exact sc 0 19 (by omega) (by omega)
      · exact sc 0 20 (by omega) (by omega)
      · exact sc 0 21 (by omega) (by omega)
      · exact sc 0 22 (by omega) (by omega)
      · exact sc 3 0 (by omega) (by omega)
      · exact sc 3 1 (by omega) (by omega)
      · exact sc 19 3 (by omega) (by omega)
      · exact sc 19 4 (by omega) (by omega)
      · exact sc 19 5 (by omega) (by omega)
      · exact sc 0 51 (by omega) (by omega)
  · have ct := colsA_c ht
    by_cases e : t.2.2.2 = j0
    · rw [e, sU_at] at hlt
      by_cases ei : i = S j0
      · rw [ei]
        exact hv t ht e
      · rw [hN t.1 i (fun g => ei g.1), ← r2 t ht i (by rw [e]; omega)]
        refine k _ _ (by omega) ?_
        rintro ⟨u, hu, eu, e3, e4⟩
        have := ct.2.2.2.2 u hu e3.symm
        subst this
        omega
    · rw [sU_ne e] at hlt
      have hc : ¬ (i = S j0 ∧ ∃ u ∈ colsA, u.2.2.2 = j0 ∧ t.1 = u.1) := by
        rintro ⟨_, u, hu, eu, e3⟩
        have hall : colsA.all (fun t => colsA.all (fun u => !(t.1 == u.1) || decide (t = u))) = true := by decide +kernel
        have h5 := List.all_eq_true.mp (List.all_eq_true.mp hall t ht) u hu
        simp only [Bool.or_eq_true, Bool.not_eq_true', beq_eq_false_iff_ne, decide_eq_true_eq] at h5
        rcases h5 with h5 | h5
        · exact h5 e3
        · rw [h5] at e
          exact e eu
      rw [hN t.1 i hc, ← r2 t ht i hlt]
      refine k _ _ (by omega) ?_
      rintro ⟨u, hu, eu, e3, e4⟩
      have := ct.2.2.2.2 u hu e3.symm
      subst this
      exact e eu
  · rw [hN 14 0 (fun ⟨_, u, hu, _, e3⟩ => by have := colsA_c hu; omega), ← r3.1]
    exact sc _ _ (by omega) (by omega)
  · rw [hN 14 1 (fun ⟨_, u, hu, _, e3⟩ => by have := colsA_c hu; omega), ← r3.2]
    exact sc _ _ (by omega) (by omega)
  · rw [sc 0 23 (by omega) (by omega), sc 0 51 (by omega) (by omega)]
    exact r4
def rmU (j0 : Nat) (md : sM) : Bool := (List.range 11).all (fun j => j == j0 || !smem md (rmA j).1 (rmA j).2) && (rmQ md && (md.all (fun t => !(t.1 == 19)) && (md.all (fun t => !(t.1 == 21)) && (!smem md 0 23 && (!smem md 0 51 && rmK md)))))
theorem RM.up {N : zN} {S : zS} {h h' : zH} {md : sM} {j0 v : Nat} (hR : RM N S h) (hm : sMd md h h') (hb : rmU j0 md = true) (hv : pI h' (rmA j0).1 (rmA j0).2 = (v : Int)) (hj : 5 ≤ j0 ∧ j0 < 7) : RM N (sU S j0 v) h' := by
  simp only [rmU, Bool.and_eq_true, Bool.not_eq_true'] at hb
  obtain ⟨b1, bq, b19, b21, b23, b51, bk⟩ := hb
  obtain ⟨r1, r2, r3, r4, r5, r6⟩ := hR
  refine ⟨fun j hlt => ?_, fun t ht i hlt => ?_, ⟨(pI_md hm (rmQ_o bq).1).trans r3.1, (pI_md hm (rmQ_o bq).2).trans r3.2⟩, ?_, fun j h3 h6 => (r5 j h3 h6).congr (pI_md hm (smem_q b19 _)) (pI_md hm (smem_q b21 _)), r6.kept (fun q j h1 h2 => pI_md hm (rmK_o bk h1 h2 j)) (fun _ _ _ => rfl) (fun i hi => sU_ne (by omega))⟩
  · by_cases e : j = j0
    · subst e
      rw [sU_at]
      exact hv
    · rw [sU_ne e]
      have h1 := List.all_eq_true.mp b1 j (List.mem_range.mpr hlt)
      simp only [Bool.or_eq_true, beq_iff_eq, Bool.not_eq_true'] at h1
      rcases h1 with h1 | h1
      · exact absurd h1 e
      · exact (pI_md hm h1).trans (r1 j hlt)
  · have ct := colsA_c ht
    rw [sU_ne (by omega)] at hlt
    exact (pI_md hm (rmQ_c bq ht _)).trans (r2 t ht i hlt)
  · rw [pI_md hm b23, pI_md hm b51]
    exact r4
/-- damp, seed -/
theorem RM.onc {N : zN} {S : zS} {h h' : zH} {k : Nat} {v : Int} (hR : RM N S h) (hm : sMd [(4, 2 + k, 2 + k + 1)] h h') (hk : k < 2) (hv : pI h' 4 (2 + k) = v) : RM (nU N 14 k v) S h' := by
  obtain ⟨r1, r2, r3, r4, r5, r6⟩ := hR
  have kp : ∀ q j, q ≠ 4 → pI h' q j = pI h q j := fun q j hq => pI_md hm (smem1n (by omega))
  have k4 : ∀ j, j ≠ 2 + k → pI h' 4 j = pI h 4 j := fun j hq => pI_md hm (smem1n (by omega))
  have ne : ∀ c i, c ≠ 14 → nU N 14 k v c i = N c i := fun c i hc => by
    unfold nU
    rw [if_neg (fun g => hc g.1)]
  refine ⟨fun j hlt => ?_, fun t ht i hlt => ?_, ⟨?_, ?_⟩, ?_, fun j h3 h6 => (r5 j h3 h6).congr (kp _ _ (by decide)) (kp _ _ (by decide)), r6.kept (fun q j h1 h2 => kp _ _ (by omega)) (fun a i ha => ne _ _ (by omega)) (fun _ _ => rfl)⟩
  · rw [← r1 j hlt]
    have h1 := rmA_in hlt
    simp only [rmP, List.mem_cons, List.not_mem_nil, or_false] at h1
    rcases h1 with e | e | e | e | e | e | e | e | e | e | e <;> (rw [e]; exact kp _ _ (by decide))
  · have ct := colsA_c ht
    rw [ne _ _ (by omega), ← r2 t ht i hlt]
    exact kp _ _ (by omega)
  · by_cases e : k = 0
    · subst e
      unfold nU
      rw [if_pos ⟨rfl, rfl⟩]
      exact hv
    · unfold nU
      rw [if_neg (fun g => e g.2.symm), ← r3.1]
      exact k4 _ (by omega)
  · by_cases e : k = 1
    · subst e
      unfold nU
      rw [if_pos ⟨rfl, rfl⟩]
      exact hv
    · unfold nU
      rw [if_neg (fun g => e g.2.symm), ← r3.2]
      exact k4 _ (by omega)
  · rw [kp 0 23 (by decide), kp 0 51 (by decide)]
    exact r4
theorem mdR {c o n r : Nat} {h h' : zH} (hr : r < n) (hm : sMd [(c, o + r, o + r + 1)] h h') : sMd [(c, o, o + n)] h h' := fun q k hq => hm q k (smem1n (fun g => smem1f hq ⟨g.1, by omega, by omega⟩))
theorem mdR2 {a b c o n r : Nat} {h h' : zH} (hr : r < n) (hm : sMd [(0, a, b), (c, o + r, o + r + 1)] h h') : sMd [(0, a, b), (c, o, o + n)] h h' := fun q k hq => hm q k (by
  cases hc : smem [(0, a, b), (c, o + r, o + r + 1)] q k with
  | false => rfl
  | true =>
    have : smem [(0, a, b), (c, o, o + n)] q k = true := by
      simp only [smem, List.any_cons, List.any_nil, Bool.or_eq_true, Bool.and_eq_true, beq_iff_eq, decide_eq_true_eq, Bool.or_false] at hc ⊢
      omega
    rw [this] at hq
    cases hq)
/-- how a line ends -/
def zLP (D : zD) (KF : zKF) (KO : zKO) (h : zH) (r : Option Value) (h' : zH) : Prop := sInv swM h' ∧ sMd lnMd h h' ∧ ∃ x : Int32, r = some (.int x) ∧ ((∃ c p, KF c p ∧ x.toInt = 0 ∧ fM c p h') ∨ (∃ N' S' q', KO N' S' q' ∧ x.toInt = 1 ∧ tTk D q' h' ∧ RM N' S' h'))
theorem nwMd_l {c r : Nat} (hc : (c = 5 ∧ r < 5) ∨ (c = 6 ∧ r < 8)) {o : Nat} (ho : o = if c = 5 then 5 else 8) : ∀ q k, smem (nwMd c (o + r)) q k = true → smem lnMd q k = true := by
  rcases hc with ⟨rfl, hr⟩ | ⟨rfl, hr⟩
  · rw [if_pos rfl] at ho
    subst ho
    have : r = 0 ∨ r = 1 ∨ r = 2 ∨ r = 3 ∨ r = 4 := by omega
    rcases this with rfl | rfl | rfl | rfl | rfl <;> exact smd_sub rfl
  · rw [if_neg (by decide)] at ho
    subst ho
    have : r = 0 ∨ r = 1 ∨ r = 2 ∨ r = 3 ∨ r = 4 ∨ r = 5 ∨ r = 6 ∨ r = 7 := by omega
    rcases this with rfl | rfl | rfl | rfl | rfl | rfl | rfl | rfl <;> exact smd_sub rfl
theorem mdN {h h' : zH} {q j : Nat} {a b : Int} {md : sM} (hm : sMd md h h') (hb : smem md q j = false) (h1 : a ≤ pI h q j) (h2 : pI h q j ≤ b) : a ≤ pI h' q j ∧ pI h' q j ≤ b := by
  rw [pI_md hm hb]
  exact ⟨h1, h2⟩
theorem nU_at {N : zN} {k r : Nat} {v : Int} : nU N k r v k r = v := if_pos ⟨rfl, rfl⟩
theorem nU_ne {N : zN} {k r c i : Nat} {v : Int} (h : ¬ (c = k ∧ i = r)) : nU N k r v c i = N c i := if_neg h
theorem ManB0 : spmB swM sT0 [(0, 4, 6)] 100 1 203 [] [sr0] ([(0, 18, (5, 5))], [], [], []) fP [] [fR 2] = true := by decide +kernel
theorem ManB1 : spmB swM sT0 [] 100 1 203 [] [sr0] ([(0, 18, (0, 4))], [], [], []) [] [(15, [sr0], [(0, sr0)], sA0, [], [])] [] = true := by decide +kernel
theorem zv_Man15 : zcvB 203 15 12 0 195 = true := by decide +kernel
theorem ManB2 : spqB swM sT0 [] 100 1 203 [(0, sr0)] sA0 [(0, (none, 18), (0, 4))] [] 18 [(28, [sI1 0 4, sI1 5 5, .inr (.inl 5), sr0], [(0, sr0)], sA0, [], [(0, 0, 0)])] [] = true := by decide +kernel
theorem zv_Man28 : zcvB 203 28 12 3 204 = true := by decide +kernel
theorem ManB3 : spqB swM sT0 [] 100 1 203 [(0, sr0)] sA0 [] [0] 31 [] [rI 0 sA0 []] = true := by decide +kernel
theorem ManB4 : spqB swM sT0 [(0, 18, 19)] 100 1 203 [(0, sr0)] sA0 [(0, (none, 18), (0, 4))] [1] 31 [] [rI 1 sA0 [(0, 18, 0, 1)]] = true := by decide +kernel
theorem zManR {l : Launch} {Γ : zG} {d : Nat} {D : zD} {N : zN} {S : zS} {q : Nat} {h : zH} (hi : sInv swM h) (hT : tTk D q h) (hR : RM N S h) {KF : zKF} {KO : zKO} (W : wMan D N S q KF KO) : zSem l Γ false (d + 4) (zhd 203) [.ref 0] h (zLP D KF KO h) := by
  have M0 : sMd lnMd h h := sMd.rf
  unfold wMan at W
  have s0 : pI h 0 18 = (S 0 : Int) := hR.1 0 (by decide)
  have sb0 : 0 ≤ pI h 0 18 ∧ pI h 0 18 ≤ 5 := pbd (iv := (0, 5)) hi (by decide +kernel)
  by_cases hfull : S 0 = 5
  · rw [if_pos hfull] at W
    refine spm_f ManB0 (by omega) ⟨_, _, rfl, rfl, rfl⟩ (sAok.of (iB (by omega) (by omega) iE)) hi ?_
    intro x h' hx hi' hm' hf
    exact ⟨hi', hm'.sub rfl, x, rfl, Or.inl ⟨2, q, W, hx, by rw [← hT.2.2.1]; exact hf⟩⟩
  rw [if_neg hfull] at W
  have hlt : S 0 < 5 := by omega
  refine spm_c (fun _ => 0) ManB1 (by omega) ⟨_, _, rfl, rfl, rfl⟩ (sAok.of (iB (by omega) (by omega) iE)) trivial hi ?_
  intro lo1 st1 h1 hp hi1 hm1
  obtain ⟨p1, p2, p3, p4, p5⟩ := hp
  obtain ⟨u0, _, rfl, u0r, hn⟩ := p1
  have u0r : u0 = .ref 0 := u0r
  subst u0r
  have hn : _ = [] := hn
  subst hn
  have M1 := M0.seq (hm1.sub rfl)
  have R1 := hR.md hm1 rfl
  refine zcallV (as := []) zv_Man15 rfl (by rw [hi1.1]; rfl) ?_
  refine (ztokR (d := d + 1) hi1 (hT.1.md hm1 rfl rfl rfl)).mono ?_
  rintro r2 h2 ⟨rfl, hi2, T2, hm2⟩
  have M2 := M1.seq (hm2.sub rfl)
  have R2 := R1.md hm2 rfl
  have L2 := p2
  have bb : 0 ≤ pI h2 0 18 ∧ pI h2 0 18 ≤ 4 := by rw [show pI h2 0 18 = (S 0 : Int) from R2.1 0 (by decide)]; omega
  refine spq_c (pc := 18) (fun _ => pI h2 0 18) ManB2 (by omega) L2 (sA0_ok _) ⟨⟨rfl, bb.1, bb.2⟩, trivial⟩ hi2 rfl ?_
  intro lo3 st3 h3 hp hi3 hm3
  obtain ⟨p1, L3, p3, p4, p5⟩ := hp
  obtain ⟨_, _, rfl, ⟨u3_0, rfl, u3_0a, u3_0b⟩, _, _, rfl, ⟨u3_1, rfl, u3_1a, u3_1b⟩, u3_2, _, rfl, u3_2r, u3_3, _, rfl, u3_3r, hn⟩ := p1
  have u3_0a : 0 ≤ u3_0.toInt := u3_0a
  have u3_0b : u3_0.toInt ≤ 4 := u3_0b
  have u3_1a : 5 ≤ u3_1.toInt := u3_1a
  have u3_1b : u3_1.toInt ≤ 5 := u3_1b
  have u3_2r : u3_2 = .ref 5 := u3_2r
  subst u3_2r
  have u3_3r : u3_3 = .ref 0 := u3_3r
  subst u3_3r
  have hn : _ = [] := hn
  subst hn
  have M3 := M2.seq (hm3.sub rfl)
  have R3 := R2.md hm3 rfl
  have T3 := T2.md hm3 rfl
  refine zcallV (as := [.int u3_0, .int u3_1, .ref 5]) zv_Man28 rfl (by rw [hi3.1]; rfl) ?_
  have eS : pI h2 0 18 = (S 0 : Int) := R2.1 0 (by decide)
  obtain ⟨y, ey, hy⟩ := p5 (0, 0, 0) List.mem_cons_self
  cases ey
  have hy : u3_0.toInt = pI h2 0 18 + 0 := hy
  refine (zNew5 (d := d) hi3 T3 (f := N 0) (r := S 0) (by omega) R3.nm0 (F := u3_1) (R := u3_0) (by omega) (by omega)).mono ?_
  rintro rr h4 ⟨hi4, hm4, x4, rfl, hw⟩
  rcases hw _ _ W with ⟨c, p, hF, hx, hf⟩ | ⟨v4, q4, W, hx, T4, g4⟩
  · refine spq_r (pc := 31) (fun _ => 0) ManB3 (by omega) L3 (sA0_ok _) trivial hi4 ⟨x4, [], rfl, hx, rfl⟩ ?_
    intro x h' hx hi' hm' _ _
    exact ⟨hi', (M3.tr hm4 (nwMd_l (Or.inl ⟨rfl, by omega⟩) rfl)).seq (hm'.sub rfl), x, rfl, Or.inl ⟨c, p, hF, hx, by unfold fM; rw [pI_md hm' rfl, pI_md hm' rfl]; exact hf⟩⟩
  have M4 := M3.tr hm4 (nwMd_l (Or.inl ⟨rfl, by omega⟩) rfl)
  have R4 := R3.nw (Or.inl ⟨rfl, rfl⟩) rfl hm4
  have L4 := L3
  have c5_4 : pI h4 5 (5 + S 0) = v4 := g4
  have eS : pI h4 0 18 = (S 0 : Int) := R4.1 0 (by decide)
  have bb : 0 ≤ pI h4 0 18 ∧ pI h4 0 18 ≤ 4 := by omega
  refine spq_r (pc := 31) (fun i => [pI h4 0 18, pI h4 0 11].getD i 0) ManB4 (by omega) L4 (sA0_ok _) ⟨⟨rfl, bb.1, bb.2⟩, trivial⟩ hi4 ⟨x4, [], rfl, hx, rfl⟩ ?_
  intro x h' hx hi' hm' hA' hr'
  refine ⟨hi', M4.seq (hm'.sub rfl), x, rfl, Or.inr ⟨_, _, _, W, hx, T4.md hm' rfl, ?_⟩⟩
  have c5_F : pI h' 5 (5 + S 0) = v4 := (pI_md hm' (smem_q rfl _)).trans c5_4
  have e1 : pI h' 0 18 = pI h4 0 18 + 1 := hr' (0, 18, 0, 1) List.mem_cons_self
  refine R4.fin hm' (j0 := 0) (by decide) (by show pI h' 0 18 = _; omega) (fun u hu => ?_) (fun t ht et => ?_) (fun c i hc => ?_)
  · exact Or.inl (List.mem_singleton.mp hu)
  · simp only [colsA, List.mem_cons, List.not_mem_nil, or_false] at ht
    rcases ht with rfl | rfl | rfl | rfl | rfl | rfl | rfl | rfl | rfl | rfl | rfl | rfl | rfl | rfl
    · show pI h' 5 (5 + S 0) = _
      rw [c5_F]
      simp only [nG, nT, nPy]
      rw [nU_at]
    · exact absurd et (by decide)
    · exact absurd et (by decide)
    · exact absurd et (by decide)
    · exact absurd et (by decide)
    · exact absurd et (by decide)
    · exact absurd et (by decide)
    · exact absurd et (by decide)
    · exact absurd et (by decide)
    · exact absurd et (by decide)
    · exact absurd et (by decide)
    · exact absurd et (by decide)
    · exact absurd et (by decide)
    · exact absurd et (by decide)
  · rw [nU_ne (fun g => hc ⟨g.2, (0, 5, 5, 0), by decide, rfl, g.1⟩)]
theorem GlsB0 : spmB swM sT0 [(0, 4, 6)] 100 1 206 [] [sr0] ([(0, 19, (8, 8))], [], [], []) fP [] [fR 2] = true := by decide +kernel
theorem GlsB1 : spmB swM sT0 [] 100 1 206 [] [sr0] ([(0, 19, (0, 7))], [], [], []) [] [(16, [sr0], [(0, sr0)], sA0, [], [])] [] = true := by decide +kernel
theorem zv_Gls16 : zcvB 206 16 12 0 195 = true := by decide +kernel
theorem GlsB2 : spqB swM sT0 [] 100 1 206 [(0, sr0)] sA0 [(0, (none, 19), (0, 7))] [] 19 [(30, [sI1 0 7, sI1 8 8, .inr (.inl 6), sr0], [(0, sr0)], sA0, [], [(0, 0, 0)])] [] = true := by decide +kernel
theorem zv_Gls30 : zcvB 206 30 12 3 204 = true := by decide +kernel
theorem GlsB3 : spqB swM sT0 [] 100 1 206 [(0, sr0)] sA0 [] [0] 33 [] [rI 0 sA0 []] = true := by decide +kernel
theorem GlsB4 : (List.range 8).all (fun r => spqB swM sT0 [] 100 1 206 [(0, sr0)] ([(0, 19, (((r : Nat) : Int), ((r : Nat) : Int)))], [], [], []) [(0, (none, 18), (0, 5))] [1] 33 [(56, [sI1 0 5, sI1 5 5, .inr (.inl 5), sr0], [(0, sr0), (1, sI1 ((8 + r : Nat) : Int) ((8 + r : Nat) : Int))], sA0, [], [(0, 0, 0)])] []) = true := by decide +kernel
theorem zv_Gls56 : zcvB 206 56 12 3 207 = true := by decide +kernel
theorem GlsB5 : (List.range 8).all (fun r => spqB swM sT0 [] 100 1 206 [(0, sr0), (1, sI1 ((8 + r : Nat) : Int) ((8 + r : Nat) : Int))] sA0 [] [0] 59 [] [rI 0 sA0 []]) = true := by decide +kernel
theorem GlsB6 : (List.range 8).all (fun r => spqB swM sT0 [(7, 8 + r, 8 + r + 1)] 100 1 206 [(0, sr0), (1, sI1 ((8 + r : Nat) : Int) ((8 + r : Nat) : Int))] sA0 [(0, (none, 11), (0, 4))] [1] 59 [(78, [sI1 99 99, sI1 0 0, sr0], [(0, sr0), (1, sI1 ((8 + r : Nat) : Int) ((8 + r : Nat) : Int))], sA0, [(7, 8 + r, 0, 0)], [])] []) = true := by decide +kernel
theorem zv_Gls78 : zcvB 206 78 12 2 208 = true := by decide +kernel
theorem GlsB7 : (List.range 8).all (fun r => spqB swM sT0 [] 100 1 206 [(0, sr0), (1, sI1 ((8 + r : Nat) : Int) ((8 + r : Nat) : Int))] sA0 [] [0] 81 [] [rI 0 sA0 []]) = true := by decide +kernel
theorem GlsB8 : (List.range 8).all (fun r => spqB swM sT0 [(8, 8 + r, 8 + r + 1)] 100 1 206 [(0, sr0), (1, sI1 ((8 + r : Nat) : Int) ((8 + r : Nat) : Int))] sA0 [(0, (none, 11), (0, 99))] [1] 81 [(100, [sI1 99 99, sI1 0 0, sr0], [(0, sr0), (1, sI1 ((8 + r : Nat) : Int) ((8 + r : Nat) : Int))], sA0, [(8, 8 + r, 0, 0)], [])] []) = true := by decide +kernel
theorem zv_Gls100 : zcvB 206 100 12 2 208 = true := by decide +kernel
theorem GlsB9 : (List.range 8).all (fun r => spqB swM sT0 [] 100 1 206 [(0, sr0), (1, sI1 ((8 + r : Nat) : Int) ((8 + r : Nat) : Int))] sA0 [] [0] 103 [] [rI 0 sA0 []]) = true := by decide +kernel
theorem GlsB10 : (List.range 8).all (fun r => spqB swM sT0 [(9, 8 + r, 8 + r + 1)] 100 1 206 [(0, sr0), (1, sI1 ((8 + r : Nat) : Int) ((8 + r : Nat) : Int))] sA0 [(0, (none, 11), (0, 99))] [1] 103 [(122, [sI1 9 9, sI1 1 1, sr0], [(0, sr0), (1, sI1 ((8 + r : Nat) : Int) ((8 + r : Nat) : Int))], sA0, [(9, 8 + r, 0, 0)], [])] []) = true := by decide +kernel
theorem zv_Gls122 : zcvB 206 122 12 2 208 = true := by decide +kernel
theorem GlsB11 : (List.range 8).all (fun r => spqB swM sT0 [] 100 1 206 [(0, sr0), (1, sI1 ((8 + r : Nat) : Int) ((8 + r : Nat) : Int))] sA0 [] [0] 125 [] [rI 0 sA0 []]) = true := by decide +kernel
theorem GlsB12 : (List.range 8).all (fun r => spqB swM sT0 [(10, 8 + r, 8 + r + 1)] 100 1 206 [(0, sr0), (1, sI1 ((8 + r : Nat) : Int) ((8 + r : Nat) : Int))] sA0 [(0, (none, 11), (1, 9))] [1] 125 [(144, [sI1 9 9, sI1 1 1, sr0], [(0, sr0), (1, sI1 ((8 + r : Nat) : Int) ((8 + r : Nat) : Int))], sA0, [(10, 8 + r, 0, 0)], [])] []) = true := by decide +kernel
theorem zv_Gls144 : zcvB 206 144 12 2 208 = true := by decide +kernel
theorem GlsB13 : (List.range 8).all (fun r => spqB swM sT0 [] 100 1 206 [(0, sr0), (1, sI1 ((8 + r : Nat) : Int) ((8 + r : Nat) : Int))] sA0 [] [0] 147 [] [rI 0 sA0 []]) = true := by decide +kernel
theorem GlsB14 : (List.range 8).all (fun r => spqB swM sT0 [(0, 19, 20), (11, 8 + r, 8 + r + 1)] 100 1 206 [(0, sr0), (1, sI1 ((8 + r : Nat) : Int) ((8 + r : Nat) : Int))] ([(0, 19, (((r : Nat) : Int), ((r : Nat) : Int)))], [], [], []) [(0, (none, 19), (0, 7)), (0, (none, 11), (1, 9))] [1] 147 [] [rI 1 sA0 [(0, 19, 0, 1), (11, 8 + r, 1, 0)]]) = true := by decide +kernel
theorem zGlsR {l : Launch} {Γ : zG} {d : Nat} {D : zD} {N : zN} {S : zS} {q : Nat} {h : zH} (hi : sInv swM h) (hT : tTk D q h) (hR : RM N S h) {KF : zKF} {KO : zKO} (W : wGls D N S q KF KO) : zSem l Γ false (d + 4) (zhd 206) [.ref 0] h (zLP D KF KO h) := by
  have M0 : sMd lnMd h h := sMd.rf
  unfold wGls at W
  have s0 : pI h 0 19 = (S 1 : Int) := hR.1 1 (by decide)
  have sb0 : 0 ≤ pI h 0 19 ∧ pI h 0 19 ≤ 8 := pbd (iv := (0, 8)) hi (by decide +kernel)
  by_cases hfull : S 1 = 8
  · rw [if_pos hfull] at W
    refine spm_f GlsB0 (by omega) ⟨_, _, rfl, rfl, rfl⟩ (sAok.of (iB (by omega) (by omega) iE)) hi ?_
    intro x h' hx hi' hm' hf
    exact ⟨hi', hm'.sub rfl, x, rfl, Or.inl ⟨2, q, W, hx, by rw [← hT.2.2.1]; exact hf⟩⟩
  rw [if_neg hfull] at W
  have hlt : S 1 < 8 := by omega
  refine spm_c (fun _ => 0) GlsB1 (by omega) ⟨_, _, rfl, rfl, rfl⟩ (sAok.of (iB (by omega) (by omega) iE)) trivial hi ?_
  intro lo1 st1 h1 hp hi1 hm1
  obtain ⟨p1, p2, p3, p4, p5⟩ := hp
  obtain ⟨u0, _, rfl, u0r, hn⟩ := p1
  have u0r : u0 = .ref 0 := u0r
  subst u0r
  have hn : _ = [] := hn
  subst hn
  have M1 := M0.seq (hm1.sub rfl)
  have R1 := hR.md hm1 rfl
  refine zcallV (as := []) zv_Gls16 rfl (by rw [hi1.1]; rfl) ?_
  refine (ztokR (d := d + 1) hi1 (hT.1.md hm1 rfl rfl rfl)).mono ?_
  rintro r2 h2 ⟨rfl, hi2, T2, hm2⟩
  have M2 := M1.seq (hm2.sub rfl)
  have R2 := R1.md hm2 rfl
  have L2 := p2
  have bb : 0 ≤ pI h2 0 19 ∧ pI h2 0 19 ≤ 7 := by rw [show pI h2 0 19 = (S 1 : Int) from R2.1 1 (by decide)]; omega
  refine spq_c (pc := 19) (fun _ => pI h2 0 19) GlsB2 (by omega) L2 (sA0_ok _) ⟨⟨rfl, bb.1, bb.2⟩, trivial⟩ hi2 rfl ?_
  intro lo3 st3 h3 hp hi3 hm3
  obtain ⟨p1, L3, p3, p4, p5⟩ := hp
  obtain ⟨_, _, rfl, ⟨u3_0, rfl, u3_0a, u3_0b⟩, _, _, rfl, ⟨u3_1, rfl, u3_1a, u3_1b⟩, u3_2, _, rfl, u3_2r, u3_3, _, rfl, u3_3r, hn⟩ := p1
  have u3_0a : 0 ≤ u3_0.toInt := u3_0a
  have u3_0b : u3_0.toInt ≤ 7 := u3_0b
  have u3_1a : 8 ≤ u3_1.toInt := u3_1a
  have u3_1b : u3_1.toInt ≤ 8 := u3_1b
  have u3_2r : u3_2 = .ref 6 := u3_2r
  subst u3_2r
  have u3_3r : u3_3 = .ref 0 := u3_3r
  subst u3_3r
  have hn : _ = [] := hn
  subst hn
  have M3 := M2.seq (hm3.sub rfl)
  have R3 := R2.md hm3 rfl
  have T3 := T2.md hm3 rfl
  refine zcallV (as := [.int u3_0, .int u3_1, .ref 6]) zv_Gls30 rfl (by rw [hi3.1]; rfl) ?_
  have eS : pI h2 0 19 = (S 1 : Int) := R2.1 1 (by decide)
  obtain ⟨y, ey, hy⟩ := p5 (0, 0, 0) List.mem_cons_self
  cases ey
  have hy : u3_0.toInt = pI h2 0 19 + 0 := hy
  refine (zNew6 (d := d) hi3 T3 (f := N 1) (r := S 1) (by omega) R3.nm1 (F := u3_1) (R := u3_0) (by omega) (by omega)).mono ?_
  rintro rr h4 ⟨hi4, hm4, x4, rfl, hw⟩
  rcases hw _ _ W with ⟨c, p, hF, hx, hf⟩ | ⟨v4, q4, W, hx, T4, g4⟩
  · refine spq_r (pc := 33) (fun _ => 0) GlsB3 (by omega) L3 (sA0_ok _) trivial hi4 ⟨x4, [], rfl, hx, rfl⟩ ?_
    intro x h' hx hi' hm' _ _
    exact ⟨hi', (M3.tr hm4 (nwMd_l (Or.inr ⟨rfl, by omega⟩) rfl)).seq (hm'.sub rfl), x, rfl, Or.inl ⟨c, p, hF, hx, by unfold fM; rw [pI_md hm' rfl, pI_md hm' rfl]; exact hf⟩⟩
  have M4 := M3.tr hm4 (nwMd_l (Or.inr ⟨rfl, by omega⟩) rfl)
  have R4 := R3.nw (Or.inr ⟨rfl, rfl⟩) rfl hm4
  have L4 := L3
  have c6_4 : pI h4 6 (8 + S 1) = v4 := g4
  have bb : 0 ≤ pI h4 0 18 ∧ pI h4 0 18 ≤ 5 := pbd (iv := (0, 5)) hi4 (by decide +kernel)
  have eG : pI h4 0 19 = (S 1 : Int) := R4.1 1 (by decide)
  refine spq_c (pc := 33) (fun _ => pI h4 0 18) (List.all_eq_true.mp GlsB4 (S 1) (List.mem_range.mpr hlt)) (by omega) L4 (sAok.of (iB (by omega) (by omega) iE)) ⟨⟨rfl, bb.1, bb.2⟩, trivial⟩ hi4 ⟨x4, [], rfl, hx, rfl⟩ ?_
  intro lo5 st5 h5 hp hi5 hm5
  obtain ⟨p1, L5, p3, p4, p5⟩ := hp
  obtain ⟨_, _, rfl, ⟨u5_0, rfl, u5_0a, u5_0b⟩, _, _, rfl, ⟨u5_1, rfl, u5_1a, u5_1b⟩, u5_2, _, rfl, u5_2r, u5_3, _, rfl, u5_3r, hn⟩ := p1
  have u5_0a : 0 ≤ u5_0.toInt := u5_0a
  have u5_0b : u5_0.toInt ≤ 5 := u5_0b
  have u5_1a : 5 ≤ u5_1.toInt := u5_1a
  have u5_1b : u5_1.toInt ≤ 5 := u5_1b
  have u5_2r : u5_2 = .ref 5 := u5_2r
  subst u5_2r
  have u5_3r : u5_3 = .ref 0 := u5_3r
  subst u5_3r
  have hn : _ = [] := hn
  subst hn
  have M5 := M4.seq (hm5.sub rfl)
  have R5 := R4.md hm5 rfl
  have T5 := T4.md hm5 rfl
  have c6_5 : pI h5 6 (8 + S 1) = v4 := (pI_md hm5 (smem_q rfl _)).trans c6_4
  refine zcallV (as := [.int u5_0, .int u5_1, .ref 5]) zv_Gls56 rfl (by rw [hi5.1]; rfl) ?_
  have eS : pI h4 0 18 = (S 0 : Int) := R4.1 0 (by decide)
  obtain ⟨y, ey, hy⟩ := p5 (0, 0, 0) List.mem_cons_self
  cases ey
  have hy : u5_0.toInt = pI h4 0 18 + 0 := hy
  have sS : S 0 ≤ 5 := by omega
  refine (zThr5 (d := d) hi5 T5 (f := N 0) (r := S 0) (by omega) R5.nm0 (F := u5_1) (R := u5_0) (by omega) (by omega)).mono ?_
  rintro rr h6 ⟨hi6, hm6, x6, rfl, hw⟩
  rcases hw _ _ W with ⟨c, p, hF, hx, hf⟩ | ⟨v6, q6, W, hx, T6, g6⟩
  · refine spq_r (pc := 59) (fun _ => 0) (List.all_eq_true.mp GlsB5 (S 1) (List.mem_range.mpr hlt)) (by omega) L5 (sA0_ok _) trivial hi6 ⟨x6, [], rfl, hx, rfl⟩ ?_
    intro x h' hx hi' hm' _ _
    exact ⟨hi', (M5.seq (hm6.sub rfl)).seq (hm'.sub rfl), x, rfl, Or.inl ⟨c, p, hF, hx, by unfold fM; rw [pI_md hm' rfl, pI_md hm' rfl]; exact hf⟩⟩
  have M6 := M5.seq (hm6.sub rfl)
  have R6 := R5.md hm6 rfl
  have L6 := L5
  have c6_6 : pI h6 6 (8 + S 1) = v4 := (pI_md hm6 (smem_q rfl _)).trans c6_5
  refine spq_c (pc := 59) (fun _ => pI h6 0 11) (List.all_eq_true.mp GlsB6 (S 1) (List.mem_range.mpr hlt)) (by omega) L6 (sA0_ok _) ⟨⟨rfl, by dsimp only; omega, by dsimp only; omega⟩, trivial⟩ hi6 ⟨x6, [], rfl, hx, rfl⟩ ?_
  intro lo7 st7 h7 hp hi7 hm7
  obtain ⟨p1, L7, p3, p4, p5⟩ := hp
  obtain ⟨_, _, rfl, ⟨u7_0, rfl, u7_0a, u7_0b⟩, _, _, rfl, ⟨u7_1, rfl, u7_1a, u7_1b⟩, u7_2, _, rfl, u7_2r, hn⟩ := p1
  have u7_0a : 99 ≤ u7_0.toInt := u7_0a
  have u7_0b : u7_0.toInt ≤ 99 := u7_0b
  have u7_1a : 0 ≤ u7_1.toInt := u7_1a
  have u7_1b : u7_1.toInt ≤ 0 := u7_1b
  have u7_2r : u7_2 = .ref 0 := u7_2r
  subst u7_2r
  have hn : _ = [] := hn
  subst hn
  have M7 := M6.seq ((mdR (n := 8) hlt hm7).sub rfl)
  have R7 := R6.col hm7 (fun u hu => ⟨(2, 7, 8, 1), by decide, List.mem_singleton.mp hu⟩)
  have T7 := T6.md hm7 rfl
  have c6_7 : pI h7 6 (8 + S 1) = v4 := (pI_md hm7 (smem_q rfl _)).trans c6_6
  have c7_7 : pI h7 7 (8 + S 1) = v6 := by
    have z : pI h7 7 (8 + S 1) = pI h6 0 11 + 0 := p4 (7, 8 + S 1, 0, 0) List.mem_cons_self
    omega
  refine zcallV (as := [.int u7_0, .int u7_1]) zv_Gls78 rfl (by rw [hi7.1]; rfl) ?_
  refine (zNumR (d := d) hi7 T7 (a := u7_1) (b := u7_0) (L := 0) (H := 99) (by omega) (by omega) (by decide)).mono ?_
  rintro rr h8 ⟨hi8, hm8, x8, rfl, hw⟩
  rcases hw _ _ W with ⟨c, p, hF, hx, hf⟩ | ⟨v8, q8, W, hx, T8, g8⟩
  · refine spq_r (pc := 81) (fun _ => 0) (List.all_eq_true.mp GlsB7 (S 1) (List.mem_range.mpr hlt)) (by omega) L7 (sA0_ok _) trivial hi8 ⟨x8, [], rfl, hx, rfl⟩ ?_
    intro x h' hx hi' hm' _ _
    exact ⟨hi', (M7.seq (hm8.sub rfl)).seq (hm'.sub rfl), x, rfl, Or.inl ⟨c, p, hF, hx, by unfold fM; rw [pI_md hm' rfl, pI_md hm' rfl]; exact hf⟩⟩
  have M8 := M7.seq (hm8.sub rfl)
  have R8 := R7.md hm8 rfl
  have L8 := L7
  have c6_8 : pI h8 6 (8 + S 1) = v4 := (pI_md hm8 (smem_q rfl _)).trans c6_7
  have c7_8 : pI h8 7 (8 + S 1) = v6 := (pI_md hm8 (smem_q rfl _)).trans c7_7
  refine spq_c (pc := 81) (fun _ => pI h8 0 11) (List.all_eq_true.mp GlsB8 (S 1) (List.mem_range.mpr hlt)) (by omega) L8 (sA0_ok _) ⟨⟨rfl, by dsimp only; omega, by dsimp only; omega⟩, trivial⟩ hi8 ⟨x8, [], rfl, hx, rfl⟩ ?_
  intro lo9 st9 h9 hp hi9 hm9
  obtain ⟨p1, L9, p3, p4, p5⟩ := hp
  obtain ⟨_, _, rfl, ⟨u9_0, rfl, u9_0a, u9_0b⟩, _, _, rfl, ⟨u9_1, rfl, u9_1a, u9_1b⟩, u9_2, _, rfl, u9_2r, hn⟩ := p1
  have u9_0a : 99 ≤ u9_0.toInt := u9_0a
  have u9_0b : u9_0.toInt ≤ 99 := u9_0b
  have u9_1a : 0 ≤ u9_1.toInt := u9_1a
  have u9_1b : u9_1.toInt ≤ 0 := u9_1b
  have u9_2r : u9_2 = .ref 0 := u9_2r
  subst u9_2r
  have hn : _ = [] := hn
  subst hn
  have M9 := M8.seq ((mdR (n := 8) hlt hm9).sub rfl)
  have R9 := R8.col hm9 (fun u hu => ⟨(3, 8, 8, 1), by decide, List.mem_singleton.mp hu⟩)
  have T9 := T8.md hm9 rfl
  have c6_9 : pI h9 6 (8 + S 1) = v4 := (pI_md hm9 (smem_q rfl _)).trans c6_8
  have c7_9 : pI h9 7 (8 + S 1) = v6 := (pI_md hm9 (smem_q rfl _)).trans c7_8
  have c8_9 : pI h9 8 (8 + S 1) = v8 := by
    have z : pI h9 8 (8 + S 1) = pI h8 0 11 + 0 := p4 (8, 8 + S 1, 0, 0) List.mem_cons_self
    omega
  refine zcallV (as := [.int u9_0, .int u9_1]) zv_Gls100 rfl (by rw [hi9.1]; rfl) ?_
  refine (zNumR (d := d) hi9 T9 (a := u9_1) (b := u9_0) (L := 0) (H := 99) (by omega) (by omega) (by decide)).mono ?_
  rintro rr h10 ⟨hi10, hm10, x10, rfl, hw⟩
  rcases hw _ _ W with ⟨c, p, hF, hx, hf⟩ | ⟨v10, q10, W, hx, T10, g10⟩
  · refine spq_r (pc := 103) (fun _ => 0) (List.all_eq_true.mp GlsB9 (S 1) (List.mem_range.mpr hlt)) (by omega) L9 (sA0_ok _) trivial hi10 ⟨x10, [], rfl, hx, rfl⟩ ?_
    intro x h' hx hi' hm' _ _
    exact ⟨hi', (M9.seq (hm10.sub rfl)).seq (hm'.sub rfl), x, rfl, Or.inl ⟨c, p, hF, hx, by unfold fM; rw [pI_md hm' rfl, pI_md hm' rfl]; exact hf⟩⟩
  have M10 := M9.seq (hm10.sub rfl)
  have R10 := R9.md hm10 rfl
  have L10 := L9
  have c6_10 : pI h10 6 (8 + S 1) = v4 := (pI_md hm10 (smem_q rfl _)).trans c6_9
  have c7_10 : pI h10 7 (8 + S 1) = v6 := (pI_md hm10 (smem_q rfl _)).trans c7_9
  have c8_10 : pI h10 8 (8 + S 1) = v8 := (pI_md hm10 (smem_q rfl _)).trans c8_9
  refine spq_c (pc := 103) (fun _ => pI h10 0 11) (List.all_eq_true.mp GlsB10 (S 1) (List.mem_range.mpr hlt)) (by omega) L10 (sA0_ok _) ⟨⟨rfl, by dsimp only; omega, by dsimp only; omega⟩, trivial⟩ hi10 ⟨x10, [], rfl, hx, rfl⟩ ?_
  intro lo11 st11 h11 hp hi11 hm11
  obtain ⟨p1, L11, p3, p4, p5⟩ := hp
  obtain ⟨_, _, rfl, ⟨u11_0, rfl, u11_0a, u11_0b⟩, _, _, rfl, ⟨u11_1, rfl, u11_1a, u11_1b⟩, u11_2, _, rfl, u11_2r, hn⟩ := p1
  have u11_0a : 9 ≤ u11_0.toInt := u11_0a
  have u11_0b : u11_0.toInt ≤ 9 := u11_0b
  have u11_1a : 1 ≤ u11_1.toInt := u11_1a
  have u11_1b : u11_1.toInt ≤ 1 := u11_1b
  have u11_2r : u11_2 = .ref 0 := u11_2r
  subst u11_2r
  have hn : _ = [] := hn
  subst hn
  have M11 := M10.seq ((mdR (n := 8) hlt hm11).sub rfl)
  have R11 := R10.col hm11 (fun u hu => ⟨(4, 9, 8, 1), by decide, List.mem_singleton.mp hu⟩)
  have T11 := T10.md hm11 rfl
  have c6_11 : pI h11 6 (8 + S 1) = v4 := (pI_md hm11 (smem_q rfl _)).trans c6_10
  have c7_11 : pI h11 7 (8 + S 1) = v6 := (pI_md hm11 (smem_q rfl _)).trans c7_10
  have c8_11 : pI h11 8 (8 + S 1) = v8 := (pI_md hm11 (smem_q rfl _)).trans c8_10
  have c9_11 : pI h11 9 (8 + S 1) = v10 := by
    have z : pI h11 9 (8 + S 1) = pI h10 0 11 + 0 := p4 (9, 8 + S 1, 0, 0) List.mem_cons_self
    omega
  refine zcallV (as := [.int u11_0, .int u11_1]) zv_Gls122 rfl (by rw [hi11.1]; rfl) ?_
  refine (zNumR (d := d) hi11 T11 (a := u11_1) (b := u11_0) (L := 1) (H := 9) (by omega) (by omega) (by decide)).mono ?_
  rintro rr h12 ⟨hi12, hm12, x12, rfl, hw⟩
  rcases hw _ _ W with ⟨c, p, hF, hx, hf⟩ | ⟨v12, q12, W, hx, T12, g12⟩
  · refine spq_r (pc := 125) (fun _ => 0) (List.all_eq_true.mp GlsB11 (S 1) (List.mem_range.mpr hlt)) (by omega) L11 (sA0_ok _) trivial hi12 ⟨x12, [], rfl, hx, rfl⟩ ?_
    intro x h' hx hi' hm' _ _
    exact ⟨hi', (M11.seq (hm12.sub rfl)).seq (hm'.sub rfl), x, rfl, Or.inl ⟨c, p, hF, hx, by unfold fM; rw [pI_md hm' rfl, pI_md hm' rfl]; exact hf⟩⟩
  have M12 := M11.seq (hm12.sub rfl)
  have R12 := R11.md hm12 rfl
  have L12 := L11
  have c6_12 : pI h12 6 (8 + S 1) = v4 := (pI_md hm12 (smem_q rfl _)).trans c6_11
  have c7_12 : pI h12 7 (8 + S 1) = v6 := (pI_md hm12 (smem_q rfl _)).trans c7_11
  have c8_12 : pI h12 8 (8 + S 1) = v8 := (pI_md hm12 (smem_q rfl _)).trans c8_11
  have c9_12 : pI h12 9 (8 + S 1) = v10 := (pI_md hm12 (smem_q rfl _)).trans c9_11
  refine spq_c (pc := 125) (fun _ => pI h12 0 11) (List.all_eq_true.mp GlsB12 (S 1) (List.mem_range.mpr hlt)) (by omega) L12 (sA0_ok _) ⟨⟨rfl, by dsimp only; omega, by dsimp only; omega⟩, trivial⟩ hi12 ⟨x12, [], rfl, hx, rfl⟩ ?_
  intro lo13 st13 h13 hp hi13 hm13
  obtain ⟨p1, L13, p3, p4, p5⟩ := hp
  obtain ⟨_, _, rfl, ⟨u13_0, rfl, u13_0a, u13_0b⟩, _, _, rfl, ⟨u13_1, rfl, u13_1a, u13_1b⟩, u13_2, _, rfl, u13_2r, hn⟩ := p1
  have u13_0a : 9 ≤ u13_0.toInt := u13_0a
  have u13_0b : u13_0.toInt ≤ 9 := u13_0b
  have u13_1a : 1 ≤ u13_1.toInt := u13_1a
  have u13_1b : u13_1.toInt ≤ 1 := u13_1b
  have u13_2r : u13_2 = .ref 0 := u13_2r
  subst u13_2r
  have hn : _ = [] := hn
  subst hn
  have M13 := M12.seq ((mdR (n := 8) hlt hm13).sub rfl)
  have R13 := R12.col hm13 (fun u hu => ⟨(5, 10, 8, 1), by decide, List.mem_singleton.mp hu⟩)
  have T13 := T12.md hm13 rfl
  have c6_13 : pI h13 6 (8 + S 1) = v4 := (pI_md hm13 (smem_q rfl _)).trans c6_12
  have c7_13 : pI h13 7 (8 + S 1) = v6 := (pI_md hm13 (smem_q rfl _)).trans c7_12
  have c8_13 : pI h13 8 (8 + S 1) = v8 := (pI_md hm13 (smem_q rfl _)).trans c8_12
  have c9_13 : pI h13 9 (8 + S 1) = v10 := (pI_md hm13 (smem_q rfl _)).trans c9_12
  have c10_13 : pI h13 10 (8 + S 1) = v12 := by
    have z : pI h13 10 (8 + S 1) = pI h12 0 11 + 0 := p4 (10, 8 + S 1, 0, 0) List.mem_cons_self
    omega
  refine zcallV (as := [.int u13_0, .int u13_1]) zv_Gls144 rfl (by rw [hi13.1]; rfl) ?_
  refine (zNumR (d := d) hi13 T13 (a := u13_1) (b := u13_0) (L := 1) (H := 9) (by omega) (by omega) (by decide)).mono ?_
  rintro rr h14 ⟨hi14, hm14, x14, rfl, hw⟩
  rcases hw _ _ W with ⟨c, p, hF, hx, hf⟩ | ⟨v14, q14, W, hx, T14, g14⟩
  · refine spq_r (pc := 147) (fun _ => 0) (List.all_eq_true.mp GlsB13 (S 1) (List.mem_range.mpr hlt)) (by omega) L13 (sA0_ok _) trivial hi14 ⟨x14, [], rfl, hx, rfl⟩ ?_
    intro x h' hx hi' hm' _ _
    exact ⟨hi', (M13.seq (hm14.sub rfl)).seq (hm'.sub rfl), x, rfl, Or.inl ⟨c, p, hF, hx, by unfold fM; rw [pI_md hm' rfl, pI_md hm' rfl]; exact hf⟩⟩
  have M14 := M13.seq (hm14.sub rfl)
  have R14 := R13.md hm14 rfl
  have L14 := L13
  have c6_14 : pI h14 6 (8 + S 1) = v4 := (pI_md hm14 (smem_q rfl _)).trans c6_13
  have c7_14 : pI h14 7 (8 + S 1) = v6 := (pI_md hm14 (smem_q rfl _)).trans c7_13
  have c8_14 : pI h14 8 (8 + S 1) = v8 := (pI_md hm14 (smem_q rfl _)).trans c8_13
  have c9_14 : pI h14 9 (8 + S 1) = v10 := (pI_md hm14 (smem_q rfl _)).trans c9_13
  have c10_14 : pI h14 10 (8 + S 1) = v12 := (pI_md hm14 (smem_q rfl _)).trans c10_13
  have eS : pI h14 0 19 = (S 1 : Int) := R14.1 1 (by decide)
  have bb : 0 ≤ pI h14 0 19 ∧ pI h14 0 19 ≤ 7 := by omega
  refine spq_r (pc := 147) (fun i => [pI h14 0 19, pI h14 0 11].getD i 0) (List.all_eq_true.mp GlsB14 (S 1) (List.mem_range.mpr hlt)) (by omega) L14 (sAok.of (iB (by omega) (by omega) iE)) ⟨⟨rfl, bb.1, bb.2⟩, ⟨rfl, by show (1 : Int) ≤ pI h14 0 11; omega, by show pI h14 0 11 ≤ 9; omega⟩, trivial⟩ hi14 ⟨x14, [], rfl, hx, rfl⟩ ?_
  intro x h' hx hi' hm' hA' hr'
  refine ⟨hi', M14.seq ((mdR2 (n := 8) hlt hm').sub rfl), x, rfl, Or.inr ⟨_, _, _, W, hx, T14.md hm' rfl, ?_⟩⟩
  have c6_F : pI h' 6 (8 + S 1) = v4 := (pI_md hm' (smem_q rfl _)).trans c6_14
  have c7_F : pI h' 7 (8 + S 1) = v6 := (pI_md hm' (smem_q rfl _)).trans c7_14
  have c8_F : pI h' 8 (8 + S 1) = v8 := (pI_md hm' (smem_q rfl _)).trans c8_14
  have c9_F : pI h' 9 (8 + S 1) = v10 := (pI_md hm' (smem_q rfl _)).trans c9_14
  have c10_F : pI h' 10 (8 + S 1) = v12 := (pI_md hm' (smem_q rfl _)).trans c10_14
  have e1 : pI h' 0 19 = pI h14 0 19 + 1 := hr' (0, 19, 0, 1) List.mem_cons_self
  have cL : pI h' 11 (8 + S 1) = v14 := by
    have z : pI h' 11 (8 + S 1) = pI h14 0 11 + 0 := hr' (11, 8 + S 1, 1, 0) (List.mem_cons_of_mem _ List.mem_cons_self)
    omega
  refine R14.fin hm' (j0 := 1) (by decide) (by show pI h' 0 19 = _; omega) (fun u hu => ?_) (fun t ht et => ?_) (fun c i hc => ?_)
  · rcases List.mem_cons.mp hu with e | hu
    · exact Or.inl e
    · exact Or.inr ⟨(6, 11, 8, 1), by decide, rfl, List.mem_singleton.mp hu⟩
  · simp only [colsA, List.mem_cons, List.not_mem_nil, or_false] at ht
    rcases ht with rfl | rfl | rfl | rfl | rfl | rfl | rfl | rfl | rfl | rfl | rfl | rfl | rfl | rfl
    · exact absurd et (by decide)
    · show pI h' 6 (8 + S 1) = _
      rw [c6_F]
      simp only [nG, nT, nPy]
      rw [nU_ne (by omega)]
      rw [nU_ne (by omega)]
      rw [nU_ne (by omega)]
      rw [nU_ne (by omega)]
      rw [nU_ne (by omega)]
      rw [nU_at]
    · show pI h' 7 (8 + S 1) = _
      rw [c7_F]
      simp only [nG, nT, nPy]
      rw [nU_ne (by omega)]
      rw [nU_ne (by omega)]
      rw [nU_ne (by omega)]
      rw [nU_ne (by omega)]
      rw [nU_at]
    · show pI h' 8 (8 + S 1) = _
      rw [c8_F]
      simp only [nG, nT, nPy]
      rw [nU_ne (by omega)]
      rw [nU_ne (by omega)]
      rw [nU_ne (by omega)]
      rw [nU_at]
    · show pI h' 9 (8 + S 1) = _
      rw [c9_F]
      simp only [nG, nT, nPy]
      rw [nU_ne (by omega)]
      rw [nU_ne (by omega)]
      rw [nU_at]
    · show pI h' 10 (8 + S 1) = _
      rw [c10_F]
      simp only [nG, nT, nPy]
      rw [nU_ne (by omega)]
      rw [nU_at]
    · show pI h' 11 (8 + S 1) = _
      rw [cL]
      simp only [nG, nT, nPy]
      rw [nU_at]
    · exact absurd et (by decide)
    · exact absurd et (by decide)
    · exact absurd et (by decide)
    · exact absurd et (by decide)
    · exact absurd et (by decide)
    · exact absurd et (by decide)
    · exact absurd et (by decide)
  · simp only [nG, nT, nPy]
    rw [nU_ne (fun g => hc ⟨g.2, (6, 11, 8, 1), by decide, rfl, g.1⟩)]
    rw [nU_ne (fun g => hc ⟨g.2, (5, 10, 8, 1), by decide, rfl, g.1⟩)]
    rw [nU_ne (fun g => hc ⟨g.2, (4, 9, 8, 1), by decide, rfl, g.1⟩)]
    rw [nU_ne (fun g => hc ⟨g.2, (3, 8, 8, 1), by decide, rfl, g.1⟩)]
    rw [nU_ne (fun g => hc ⟨g.2, (2, 7, 8, 1), by decide, rfl, g.1⟩)]
    rw [nU_ne (fun g => hc ⟨g.2, (1, 6, 8, 1), by decide, rfl, g.1⟩)]
theorem TrnB0 : spmB swM sT0 [(0, 4, 6)] 100 1 210 [] [sr0] ([(0, 20, (10, 10))], [], [], []) fP [] [fR 2] = true := by decide +kernel
theorem TrnB1 : spmB swM sT0 [] 100 1 210 [] [sr0] ([(0, 20, (0, 9))], [], [], []) [] [(16, [sr0], [(0, sr0)], sA0, [], [])] [] = true := by decide +kernel
theorem zv_Trn16 : zcvB 210 16 12 0 195 = true := by decide +kernel
theorem TrnB2 : spqB swM sT0 [] 100 1 210 [(0, sr0)] sA0 [(0, (none, 19), (0, 8))] [] 19 [(30, [sI1 0 8, sI1 8 8, .inr (.inl 6), sr0], [(0, sr0)], sA0, [], [(0, 0, 0)])] [] = true := by decide +kernel
theorem zv_Trn30 : zcvB 210 30 12 3 207 = true := by decide +kernel
theorem TrnB3 : spqB swM sT0 [] 100 1 210 [(0, sr0)] sA0 [] [0] 33 [] [rI 0 sA0 []] = true := by decide +kernel
theorem TrnB4 : (List.range 10).all (fun r => spqB swM sT0 [(12, 10 + r, 10 + r + 1)] 100 1 210 [(0, sr0)] ([(0, 20, (((r : Nat) : Int), ((r : Nat) : Int)))], [], [], []) [(0, (none, 11), (0, 7))] [1] 33 [(58, [sI1 99 99, sI1 0 0, sr0], [(0, sr0)], sA0, [(12, 10 + r, 0, 0)], [])] []) = true := by decide +kernel
theorem zv_Trn58 : zcvB 210 58 12 2 208 = true := by decide +kernel
theorem TrnB5 : spqB swM sT0 [] 100 1 210 [(0, sr0)] sA0 [] [0] 61 [] [rI 0 sA0 []] = true := by decide +kernel
theorem TrnB6 : (List.range 10).all (fun r => spqB swM sT0 [(0, 20, 21), (13, 10 + r, 10 + r + 1)] 100 1 210 [(0, sr0)] ([(0, 20, (((r : Nat) : Int), ((r : Nat) : Int)))], [], [], []) [(0, (none, 20), (((r : Nat) : Int), ((r : Nat) : Int))), (0, (none, 11), (0, 99))] [1] 61 [] [rI 1 sA0 [(0, 20, 0, 1), (13, 10 + r, 1, 0)]]) = true := by decide +kernel
theorem zTrnR {l : Launch} {Γ : zG} {d : Nat} {D : zD} {N : zN} {S : zS} {q : Nat} {h : zH} (hi : sInv swM h) (hT : tTk D q h) (hR : RM N S h) {KF : zKF} {KO : zKO} (W : wTrn D N S q KF KO) : zSem l Γ false (d + 4) (zhd 210) [.ref 0] h (zLP D KF KO h) := by
  have M0 : sMd lnMd h h := sMd.rf
  unfold wTrn at W
  have s0 : pI h 0 20 = (S 2 : Int) := hR.1 2 (by decide)
  have sb0 : 0 ≤ pI h 0 20 ∧ pI h 0 20 ≤ 10 := pbd (iv := (0, 10)) hi (by decide +kernel)
  by_cases hfull : S 2 = 10
  · rw [if_pos hfull] at W
    refine spm_f TrnB0 (by omega) ⟨_, _, rfl, rfl, rfl⟩ (sAok.of (iB (by omega) (by omega) iE)) hi ?_
    intro x h' hx hi' hm' hf
    exact ⟨hi', hm'.sub rfl, x, rfl, Or.inl ⟨2, q, W, hx, by rw [← hT.2.2.1]; exact hf⟩⟩
  rw [if_neg hfull] at W
  have hlt : S 2 < 10 := by omega
  refine spm_c (fun _ => 0) TrnB1 (by omega) ⟨_, _, rfl, rfl, rfl⟩ (sAok.of (iB (by omega) (by omega) iE)) trivial hi ?_
  intro lo1 st1 h1 hp hi1 hm1
  obtain ⟨p1, p2, p3, p4, p5⟩ := hp
  obtain ⟨u0, _, rfl, u0r, hn⟩ := p1
  have u0r : u0 = .ref 0 := u0r
  subst u0r
  have hn : _ = [] := hn
  subst hn
  have M1 := M0.seq (hm1.sub rfl)
  have R1 := hR.md hm1 rfl
  refine zcallV (as := []) zv_Trn16 rfl (by rw [hi1.1]; rfl) ?_
  refine (ztokR (d := d + 1) hi1 (hT.1.md hm1 rfl rfl rfl)).mono ?_
  rintro r2 h2 ⟨rfl, hi2, T2, hm2⟩
  have M2 := M1.seq (hm2.sub rfl)
  have R2 := R1.md hm2 rfl
  have L2 := p2
  have bb : 0 ≤ pI h2 0 19 ∧ pI h2 0 19 ≤ 8 := pbd (iv := (0, 8)) hi2 (by decide +kernel)
  refine spq_c (pc := 19) (fun _ => pI h2 0 19) TrnB2 (by omega) L2 (sA0_ok _) ⟨⟨rfl, bb.1, bb.2⟩, trivial⟩ hi2 rfl ?_
  intro lo3 st3 h3 hp hi3 hm3
  obtain ⟨p1, L3, p3, p4, p5⟩ := hp
  obtain ⟨_, _, rfl, ⟨u3_0, rfl, u3_0a, u3_0b⟩, _, _, rfl, ⟨u3_1, rfl, u3_1a, u3_1b⟩, u3_2, _, rfl, u3_2r, u3_3, _, rfl, u3_3r, hn⟩ := p1
  have u3_0a : 0 ≤ u3_0.toInt := u3_0a
  have u3_0b : u3_0.toInt ≤ 8 := u3_0b
  have u3_1a : 8 ≤ u3_1.toInt := u3_1a
  have u3_1b : u3_1.toInt ≤ 8 := u3_1b
  have u3_2r : u3_2 = .ref 6 := u3_2r
  subst u3_2r
  have u3_3r : u3_3 = .ref 0 := u3_3r
  subst u3_3r
  have hn : _ = [] := hn
  subst hn
  have M3 := M2.seq (hm3.sub rfl)
  have R3 := R2.md hm3 rfl
  have T3 := T2.md hm3 rfl
  refine zcallV (as := [.int u3_0, .int u3_1, .ref 6]) zv_Trn30 rfl (by rw [hi3.1]; rfl) ?_
  have eS : pI h2 0 19 = (S 1 : Int) := R2.1 1 (by decide)
  obtain ⟨y, ey, hy⟩ := p5 (0, 0, 0) List.mem_cons_self
  cases ey
  have hy : u3_0.toInt = pI h2 0 19 + 0 := hy
  have sS : S 1 ≤ 8 := by omega
  refine (zThr6 (d := d) hi3 T3 (f := N 1) (r := S 1) (by omega) R3.nm1 (F := u3_1) (R := u3_0) (by omega) (by omega)).mono ?_
  rintro rr h4 ⟨hi4, hm4, x4, rfl, hw⟩
  rcases hw _ _ W with ⟨c, p, hF, hx, hf⟩ | ⟨v4, q4, W, hx, T4, g4⟩
  · refine spq_r (pc := 33) (fun _ => 0) TrnB3 (by omega) L3 (sA0_ok _) trivial hi4 ⟨x4, [], rfl, hx, rfl⟩ ?_
    intro x h' hx hi' hm' _ _
    exact ⟨hi', (M3.seq (hm4.sub rfl)).seq (hm'.sub rfl), x, rfl, Or.inl ⟨c, p, hF, hx, by unfold fM; rw [pI_md hm' rfl, pI_md hm' rfl]; exact hf⟩⟩
  have M4 := M3.seq (hm4.sub rfl)
  have R4 := R3.md hm4 rfl
  have L4 := L3
  have eT : pI h4 0 20 = (S 2 : Int) := R4.1 2 (by decide)
  refine spq_c (pc := 33) (fun _ => pI h4 0 11) (List.all_eq_true.mp TrnB4 (S 2) (List.mem_range.mpr hlt)) (by omega) L4 (sAok.of (iB (by omega) (by omega) iE)) ⟨⟨rfl, by dsimp only; omega, by dsimp only; omega⟩, trivial⟩ hi4 ⟨x4, [], rfl, hx, rfl⟩ ?_
  intro lo5 st5 h5 hp hi5 hm5
  obtain ⟨p1, L5, p3, p4, p5⟩ := hp
  obtain ⟨_, _, rfl, ⟨u5_0, rfl, u5_0a, u5_0b⟩, _, _, rfl, ⟨u5_1, rfl, u5_1a, u5_1b⟩, u5_2, _, rfl, u5_2r, hn⟩ := p1
  have u5_0a : 99 ≤ u5_0.toInt := u5_0a
  have u5_0b : u5_0.toInt ≤ 99 := u5_0b
  have u5_1a : 0 ≤ u5_1.toInt := u5_1a
  have u5_1b : u5_1.toInt ≤ 0 := u5_1b
  have u5_2r : u5_2 = .ref 0 := u5_2r
  subst u5_2r
  have hn : _ = [] := hn
  subst hn
  have M5 := M4.seq ((mdR (n := 10) hlt hm5).sub rfl)
  have R5 := R4.col hm5 (fun u hu => ⟨(7, 12, 10, 2), by decide, List.mem_singleton.mp hu⟩)
  have T5 := T4.md hm5 rfl
  have c12_5 : pI h5 12 (10 + S 2) = v4 := by
    have z : pI h5 12 (10 + S 2) = pI h4 0 11 + 0 := p4 (12, 10 + S 2, 0, 0) List.mem_cons_self
    omega
  refine zcallV (as := [.int u5_0, .int u5_1]) zv_Trn58 rfl (by rw [hi5.1]; rfl) ?_
  refine (zNumR (d := d) hi5 T5 (a := u5_1) (b := u5_0) (L := 0) (H := 99) (by omega) (by omega) (by decide)).mono ?_
  rintro rr h6 ⟨hi6, hm6, x6, rfl, hw⟩
  rcases hw _ _ W with ⟨c, p, hF, hx, hf⟩ | ⟨v6, q6, W, hx, T6, g6⟩
  · refine spq_r (pc := 61) (fun _ => 0) TrnB5 (by omega) L5 (sA0_ok _) trivial hi6 ⟨x6, [], rfl, hx, rfl⟩ ?_
    intro x h' hx hi' hm' _ _
    exact ⟨hi', (M5.seq (hm6.sub rfl)).seq (hm'.sub rfl), x, rfl, Or.inl ⟨c, p, hF, hx, by unfold fM; rw [pI_md hm' rfl, pI_md hm' rfl]; exact hf⟩⟩
  have M6 := M5.seq (hm6.sub rfl)
  have R6 := R5.md hm6 rfl
  have L6 := L5
  have c12_6 : pI h6 12 (10 + S 2) = v4 := (pI_md hm6 (smem_q rfl _)).trans c12_5
  have eS : pI h6 0 20 = (S 2 : Int) := R6.1 2 (by decide)
  have bb : 0 ≤ pI h6 0 20 ∧ pI h6 0 20 ≤ 9 := by omega
  refine spq_r (pc := 61) (fun i => [pI h6 0 20, pI h6 0 11].getD i 0) (List.all_eq_true.mp TrnB6 (S 2) (List.mem_range.mpr hlt)) (by omega) L6 (sAok.of (iB (by omega) (by omega) iE)) ⟨⟨rfl, by show ((S 2 : Nat) : Int) ≤ pI h6 0 20; omega, by show pI h6 0 20 ≤ ((S 2 : Nat) : Int); omega⟩, ⟨rfl, by show (0 : Int) ≤ pI h6 0 11; omega, by show pI h6 0 11 ≤ 99; omega⟩, trivial⟩ hi6 ⟨x6, [], rfl, hx, rfl⟩ ?_
  intro x h' hx hi' hm' hA' hr'
  refine ⟨hi', M6.seq ((mdR2 (n := 10) hlt hm').sub rfl), x, rfl, Or.inr ⟨_, _, _, W, hx, T6.md hm' rfl, ?_⟩⟩
  have c12_F : pI h' 12 (10 + S 2) = v4 := (pI_md hm' (smem_q rfl _)).trans c12_6
  have e1 : pI h' 0 20 = pI h6 0 20 + 1 := hr' (0, 20, 0, 1) List.mem_cons_self
  have cL : pI h' 13 (10 + S 2) = v6 := by
    have z : pI h' 13 (10 + S 2) = pI h6 0 11 + 0 := hr' (13, 10 + S 2, 1, 0) (List.mem_cons_of_mem _ List.mem_cons_self)
    omega
  refine R6.fin hm' (j0 := 2) (by decide) (by show pI h' 0 20 = _; omega) (fun u hu => ?_) (fun t ht et => ?_) (fun c i hc => ?_)
  · rcases List.mem_cons.mp hu with e | hu
    · exact Or.inl e
    · exact Or.inr ⟨(8, 13, 10, 2), by decide, rfl, List.mem_singleton.mp hu⟩
  · simp only [colsA, List.mem_cons, List.not_mem_nil, or_false] at ht
    rcases ht with rfl | rfl | rfl | rfl | rfl | rfl | rfl | rfl | rfl | rfl | rfl | rfl | rfl | rfl
    · exact absurd et (by decide)
    · exact absurd et (by decide)
    · exact absurd et (by decide)
    · exact absurd et (by decide)
    · exact absurd et (by decide)
    · exact absurd et (by decide)
    · exact absurd et (by decide)
    · show pI h' 12 (10 + S 2) = _
      rw [c12_F]
      simp only [nG, nT, nPy]
      rw [nU_ne (by omega)]
      rw [nU_at]
    · show pI h' 13 (10 + S 2) = _
      rw [cL]
      simp only [nG, nT, nPy]
      rw [nU_at]
    · exact absurd et (by decide)
    · exact absurd et (by decide)
    · exact absurd et (by decide)
    · exact absurd et (by decide)
    · exact absurd et (by decide)
  · simp only [nG, nT, nPy]
    rw [nU_ne (fun g => hc ⟨g.2, (8, 13, 10, 2), by decide, rfl, g.1⟩)]
    rw [nU_ne (fun g => hc ⟨g.2, (7, 12, 10, 2), by decide, rfl, g.1⟩)]
theorem SivB0 : spmB swM sT0 [(0, 4, 6)] 100 1 212 [] [sr0] ([(0, 22, (6, 6))], [], [], []) fP [] [fR 2] = true := by decide +kernel
theorem SivB1 : spmB swM sT0 [] 100 1 212 [] [sr0] ([(0, 22, (0, 5))], [], [], []) [] [(16, [sr0], [(0, sr0)], sA0, [], [])] [] = true := by decide +kernel
theorem zv_Siv16 : zcvB 212 16 12 0 195 = true := by decide +kernel
theorem SivB2 : spqB swM sT0 [] 100 1 212 [(0, sr0)] sA0 [] [] 19 [(23, [sI1 9 9, sI1 1 1, sr0], [(0, sr0)], sA0, [], [])] [] = true := by decide +kernel
theorem zv_Siv23 : zcvB 212 23 12 2 208 = true := by decide +kernel
theorem SivB3 : spqB swM sT0 [] 100 1 212 [(0, sr0)] sA0 [] [0] 26 [] [rI 0 sA0 []] = true := by decide +kernel
theorem SivB4 : (List.range 6).all (fun r => spqB swM sT0 [(0, 22, 23), (18, 6 + r, 6 + r + 1)] 100 1 212 [(0, sr0)] ([(0, 22, (((r : Nat) : Int), ((r : Nat) : Int)))], [], [], []) [(0, (none, 22), (((r : Nat) : Int), ((r : Nat) : Int))), (0, (none, 11), (1, 9))] [1] 26 [] [rI 1 sA0 [(0, 22, 0, 1), (18, 6 + r, 1, 0)]]) = true := by decide +kernel
theorem zSivR {l : Launch} {Γ : zG} {d : Nat} {D : zD} {N : zN} {S : zS} {q : Nat} {h : zH} (hi : sInv swM h) (hT : tTk D q h) (hR : RM N S h) {KF : zKF} {KO : zKO} (W : wSiv D N S q KF KO) : zSem l Γ false (d + 4) (zhd 212) [.ref 0] h (zLP D KF KO h) := by
  have M0 : sMd lnMd h h := sMd.rf
  unfold wSiv at W
  have s0 : pI h 0 22 = (S 4 : Int) := hR.1 4 (by decide)
  have sb0 : 0 ≤ pI h 0 22 ∧ pI h 0 22 ≤ 6 := pbd (iv := (0, 6)) hi (by decide +kernel)
  by_cases hfull : S 4 = 6
  · rw [if_pos hfull] at W
    refine spm_f SivB0 (by omega) ⟨_, _, rfl, rfl, rfl⟩ (sAok.of (iB (by omega) (by omega) iE)) hi ?_
    intro x h' hx hi' hm' hf
    exact ⟨hi', hm'.sub rfl, x, rfl, Or.inl ⟨2, q, W, hx, by rw [← hT.2.2.1]; exact hf⟩⟩
  rw [if_neg hfull] at W
  have hlt : S 4 < 6 := by omega
  refine spm_c (fun _ => 0) SivB1 (by omega) ⟨_, _, rfl, rfl, rfl⟩ (sAok.of (iB (by omega) (by omega) iE)) trivial hi ?_
  intro lo1 st1 h1 hp hi1 hm1
  obtain ⟨p1, p2, p3, p4, p5⟩ := hp
  obtain ⟨u0, _, rfl, u0r, hn⟩ := p1
  have u0r : u0 = .ref 0 := u0r
  subst u0r
  have hn : _ = [] := hn
  subst hn
  have M1 := M0.seq (hm1.sub rfl)
  have R1 := hR.md hm1 rfl
  refine zcallV (as := []) zv_Siv16 rfl (by rw [hi1.1]; rfl) ?_
  refine (ztokR (d := d + 1) hi1 (hT.1.md hm1 rfl rfl rfl)).mono ?_
  rintro r2 h2 ⟨rfl, hi2, T2, hm2⟩
  have M2 := M1.seq (hm2.sub rfl)
  have R2 := R1.md hm2 rfl
  have L2 := p2
  refine spq_c (pc := 19) (fun _ => 0) SivB2 (by omega) L2 (sA0_ok _) trivial hi2 rfl ?_
  intro lo3 st3 h3 hp hi3 hm3
  obtain ⟨p1, L3, p3, p4, p5⟩ := hp
  obtain ⟨_, _, rfl, ⟨u3_0, rfl, u3_0a, u3_0b⟩, _, _, rfl, ⟨u3_1, rfl, u3_1a, u3_1b⟩, u3_2, _, rfl, u3_2r, hn⟩ := p1
  have u3_0a : 9 ≤ u3_0.toInt := u3_0a
  have u3_0b : u3_0.toInt ≤ 9 := u3_0b
  have u3_1a : 1 ≤ u3_1.toInt := u3_1a
  have u3_1b : u3_1.toInt ≤ 1 := u3_1b
  have u3_2r : u3_2 = .ref 0 := u3_2r
  subst u3_2r
  have hn : _ = [] := hn
  subst hn
  have M3 := M2.seq (hm3.sub rfl)
  have R3 := R2.md hm3 rfl
  have T3 := T2.md hm3 rfl
  refine zcallV (as := [.int u3_0, .int u3_1]) zv_Siv23 rfl (by rw [hi3.1]; rfl) ?_
  refine (zNumR (d := d) hi3 T3 (a := u3_1) (b := u3_0) (L := 1) (H := 9) (by omega) (by omega) (by decide)).mono ?_
  rintro rr h4 ⟨hi4, hm4, x4, rfl, hw⟩
  rcases hw _ _ W with ⟨c, p, hF, hx, hf⟩ | ⟨v4, q4, W, hx, T4, g4⟩
  · refine spq_r (pc := 26) (fun _ => 0) SivB3 (by omega) L3 (sA0_ok _) trivial hi4 ⟨x4, [], rfl, hx, rfl⟩ ?_
    intro x h' hx hi' hm' _ _
    exact ⟨hi', (M3.seq (hm4.sub rfl)).seq (hm'.sub rfl), x, rfl, Or.inl ⟨c, p, hF, hx, by unfold fM; rw [pI_md hm' rfl, pI_md hm' rfl]; exact hf⟩⟩
  have M4 := M3.seq (hm4.sub rfl)
  have R4 := R3.md hm4 rfl
  have L4 := L3
  have eS : pI h4 0 22 = (S 4 : Int) := R4.1 4 (by decide)
  have bb : 0 ≤ pI h4 0 22 ∧ pI h4 0 22 ≤ 5 := by omega
  refine spq_r (pc := 26) (fun i => [pI h4 0 22, pI h4 0 11].getD i 0) (List.all_eq_true.mp SivB4 (S 4) (List.mem_range.mpr hlt)) (by omega) L4 (sAok.of (iB (by omega) (by omega) iE)) ⟨⟨rfl, by show ((S 4 : Nat) : Int) ≤ pI h4 0 22; omega, by show pI h4 0 22 ≤ ((S 4 : Nat) : Int); omega⟩, ⟨rfl, by show (1 : Int) ≤ pI h4 0 11; omega, by show pI h4 0 11 ≤ 9; omega⟩, trivial⟩ hi4 ⟨x4, [], rfl, hx, rfl⟩ ?_
  intro x h' hx hi' hm' hA' hr'
  refine ⟨hi', M4.seq ((mdR2 (n := 6) hlt hm').sub rfl), x, rfl, Or.inr ⟨_, _, _, W, hx, T4.md hm' rfl, ?_⟩⟩
  have e1 : pI h' 0 22 = pI h4 0 22 + 1 := hr' (0, 22, 0, 1) List.mem_cons_self
  have cL : pI h' 18 (6 + S 4) = v4 := by
    have z : pI h' 18 (6 + S 4) = pI h4 0 11 + 0 := hr' (18, 6 + S 4, 1, 0) (List.mem_cons_of_mem _ List.mem_cons_self)
    omega
  refine R4.fin hm' (j0 := 4) (by decide) (by show pI h' 0 22 = _; omega) (fun u hu => ?_) (fun t ht et => ?_) (fun c i hc => ?_)
  · rcases List.mem_cons.mp hu with e | hu
    · exact Or.inl e
    · exact Or.inr ⟨(13, 18, 6, 4), by decide, rfl, List.mem_singleton.mp hu⟩
  · simp only [colsA, List.mem_cons, List.not_mem_nil, or_false] at ht
    rcases ht with rfl | rfl | rfl | rfl | rfl | rfl | rfl | rfl | rfl | rfl | rfl | rfl | rfl | rfl
    · exact absurd et (by decide)
    · exact absurd et (by decide)
    · exact absurd et (by decide)
    · exact absurd et (by decide)
    · exact absurd et (by decide)
    · exact absurd et (by decide)
    · exact absurd et (by decide)
    · exact absurd et (by decide)
    · exact absurd et (by decide)
    · exact absurd et (by decide)
    · exact absurd et (by decide)
    · exact absurd et (by decide)
    · exact absurd et (by decide)
    · show pI h' 18 (6 + S 4) = _
      rw [cL]
      simp only [nG, nT, nPy]
      rw [nU_at]
  · rw [nU_ne (fun g => hc ⟨g.2, (13, 18, 6, 4), by decide, rfl, g.1⟩)]
theorem DmpB0 : spmB swM sT0 [(0, 4, 6)] 100 1 213 [] [sr0, sI1 0 0, sI1 100 100] ([(3, 0, (1, 1))], [], [], []) fP [] [fR 3] = true := by decide +kernel
theorem DmpB1 : spmB swM sT0 [(3, 0, 1)] 100 1 213 [] [sr0, sI1 0 0, sI1 100 100] ([(3, 0, (0, 0))], [], [], []) [] [(23, [sr0], [(0, sr0), (1, sI1 0 0), (2, sI1 100 100)], ([(3, 0, (1, 1))], [], [], []), [], [])] [] = true := by decide +kernel
theorem zv_Dmp23 : zcvB 213 23 12 0 195 = true := by decide +kernel
theorem DmpB2 : spqB swM sT0 [] 100 1 213 [(0, sr0), (1, sI1 0 0), (2, sI1 100 100)] sA0 [] [] 26 [(29, [sI1 100 100, sI1 0 0, sr0], [(0, sr0), (1, sI1 0 0), (2, sI1 100 100)], sA0, [], [])] [] = true := by decide +kernel
theorem zv_Dmp29 : zcvB 213 29 12 2 208 = true := by decide +kernel
theorem DmpB3 : spqB swM sT0 [] 100 1 213 [(0, sr0), (1, sI1 0 0), (2, sI1 100 100)] sA0 [] [0] 32 [] [rI 0 sA0 []] = true := by decide +kernel
theorem DmpB4 : spqB swM sT0 [(4, 2 + 0, 2 + 0 + 1)] 100 1 213 [(0, sr0), (1, sI1 0 0), (2, sI1 100 100)] sA0 [(0, (none, 11), (0, 100))] [1] 32 [] [rI 1 sA0 [(4, 2 + 0, 0, 0)]] = true := by decide +kernel
theorem zDmpR {l : Launch} {Γ : zG} {d : Nat} {D : zD} {N : zN} {S : zS} {q : Nat} {h : zH} (hi : sInv swM h) (hT : tTk D q h) (hR : RM N S h) {a1 a2 : Int32} (ha1 : a1.toInt = 0) (ha2 : a2.toInt = 100) {KF : zKF} {KO : zKO} (W : wOnc D 5 100 N S q KF KO) : zSem l Γ false (d + 4) (zhd 213) [.ref 0, .int a1, .int a2] h (zLP D KF KO h) := by
  have M0 : sMd lnMd h h := sMd.rf
  unfold wOnc at W
  have s0 : pI h 3 0 = (S 5 : Int) := hR.1 5 (by decide)
  have sb0 : 0 ≤ pI h 3 0 ∧ pI h 3 0 ≤ 1 := pbd (iv := (0, 1)) hi (by decide +kernel)
  by_cases hfull : S 5 = 0
  rotate_left
  · rw [if_neg hfull] at W
    refine spm_f DmpB0 (by omega) ⟨_, _, rfl, rfl, _, _, rfl, ⟨a1, rfl, by show 0 ≤ _; omega, by show _ ≤ 0; omega⟩, _, _, rfl, ⟨a2, rfl, by show 100 ≤ _; omega, by show _ ≤ 100; omega⟩, rfl⟩ (sAok.of (iB (by omega) (by omega) iE)) hi ?_
    intro x h' hx hi' hm' hf
    exact ⟨hi', hm'.sub rfl, x, rfl, Or.inl ⟨3, q, W, hx, by rw [← hT.2.2.1]; exact hf⟩⟩
  rw [if_pos hfull] at W
  refine spm_c (fun _ => 0) DmpB1 (by omega) ⟨_, _, rfl, rfl, _, _, rfl, ⟨a1, rfl, by show 0 ≤ _; omega, by show _ ≤ 0; omega⟩, _, _, rfl, ⟨a2, rfl, by show 100 ≤ _; omega, by show _ ≤ 100; omega⟩, rfl⟩ (sAok.of (iB (by omega) (by omega) iE)) trivial hi ?_
  intro lo1 st1 h1 hp hi1 hm1
  obtain ⟨p1, p2, p3, p4, p5⟩ := hp
  obtain ⟨u0, _, rfl, u0r, hn⟩ := p1
  have u0r : u0 = .ref 0 := u0r
  subst u0r
  have hn : _ = [] := hn
  subst hn
  have M1 := M0.seq (hm1.sub rfl)
  have R1 : RM N (sU S 5 1) h1 := hR.up hm1 rfl (by have z : 1 ≤ pI h1 3 0 ∧ pI h1 3 0 ≤ 1 := p3.1 (3, 0, (1, 1)) List.mem_cons_self; show pI h1 3 0 = ((1 : Nat) : Int); omega) (by decide)
  refine zcallV (as := []) zv_Dmp23 rfl (by rw [hi1.1]; rfl) ?_
  refine (ztokR (d := d + 1) hi1 (hT.1.md hm1 rfl rfl rfl)).mono ?_
  rintro r2 h2 ⟨rfl, hi2, T2, hm2⟩
  have M2 := M1.seq (hm2.sub rfl)
  have R2 := R1.md hm2 rfl
  have L2 := p2
  refine spq_c (pc := 26) (fun _ => 0) DmpB2 (by omega) L2 (sA0_ok _) trivial hi2 rfl ?_
  intro lo3 st3 h3 hp hi3 hm3
  obtain ⟨p1, L3, p3, p4, p5⟩ := hp
  obtain ⟨_, _, rfl, ⟨u3_0, rfl, u3_0a, u3_0b⟩, _, _, rfl, ⟨u3_1, rfl, u3_1a, u3_1b⟩, u3_2, _, rfl, u3_2r, hn⟩ := p1
  have u3_0a : 100 ≤ u3_0.toInt := u3_0a
  have u3_0b : u3_0.toInt ≤ 100 := u3_0b
  have u3_1a : 0 ≤ u3_1.toInt := u3_1a
  have u3_1b : u3_1.toInt ≤ 0 := u3_1b
  have u3_2r : u3_2 = .ref 0 := u3_2r
  subst u3_2r
  have hn : _ = [] := hn
  subst hn
  have M3 := M2.seq (hm3.sub rfl)
  have R3 := R2.md hm3 rfl
  have T3 := T2.md hm3 rfl
  refine zcallV (as := [.int u3_0, .int u3_1]) zv_Dmp29 rfl (by rw [hi3.1]; rfl) ?_
  refine (zNumR (d := d) hi3 T3 (a := u3_1) (b := u3_0) (L := 0) (H := 100) (by omega) (by omega) (by decide)).mono ?_
  rintro rr h4 ⟨hi4, hm4, x4, rfl, hw⟩
  rcases hw _ _ W with ⟨c, p, hF, hx, hf⟩ | ⟨v4, q4, W, hx, T4, g4⟩
  · refine spq_r (pc := 32) (fun _ => 0) DmpB3 (by omega) L3 (sA0_ok _) trivial hi4 ⟨x4, [], rfl, hx, rfl⟩ ?_
    intro x h' hx hi' hm' _ _
    exact ⟨hi', (M3.seq (hm4.sub rfl)).seq (hm'.sub rfl), x, rfl, Or.inl ⟨c, p, hF, hx, by unfold fM; rw [pI_md hm' rfl, pI_md hm' rfl]; exact hf⟩⟩
  have M4 := M3.seq (hm4.sub rfl)
  have R4 := R3.md hm4 rfl
  have L4 := L3
  refine spq_r (pc := 32) (fun _ => pI h4 0 11) DmpB4 (by omega) L4 (sA0_ok _) ⟨⟨rfl, by dsimp only; omega, by dsimp only; omega⟩, trivial⟩ hi4 ⟨x4, [], rfl, hx, rfl⟩ ?_
  intro x h' hx hi' hm' hA' hr'
  refine ⟨hi', M4.seq (hm'.sub rfl), x, rfl, Or.inr ⟨_, _, _, W, hx, T4.md hm' rfl, ?_⟩⟩
  have cL : pI h' 4 (2 + 0) = v4 := by
    have z : pI h' 4 (2 + 0) = pI h4 0 11 + 0 := hr' (4, 2 + 0, 0, 0) List.mem_cons_self
    omega
  exact R4.onc hm' (by decide) cL
theorem SedB0 : spmB swM sT0 [(0, 4, 6)] 100 1 213 [] [sr0, sI1 1 1, sI1 99999 99999] ([(3, 1, (1, 1))], [], [], []) fP [] [fR 3] = true := by decide +kernel
theorem SedB1 : spmB swM sT0 [(3, 1, 2)] 100 1 213 [] [sr0, sI1 1 1, sI1 99999 99999] ([(3, 1, (0, 0))], [], [], []) [] [(23, [sr0], [(0, sr0), (1, sI1 1 1), (2, sI1 99999 99999)], ([(3, 1, (1, 1))], [], [], []), [], [])] [] = true := by decide +kernel
theorem zv_Sed23 : zcvB 213 23 12 0 195 = true := by decide +kernel
theorem SedB2 : spqB swM sT0 [] 100 1 213 [(0, sr0), (1, sI1 1 1), (2, sI1 99999 99999)] sA0 [] [] 26 [(29, [sI1 99999 99999, sI1 0 0, sr0], [(0, sr0), (1, sI1 1 1), (2, sI1 99999 99999)], sA0, [], [])] [] = true := by decide +kernel
theorem zv_Sed29 : zcvB 213 29 12 2 208 = true := by decide +kernel
theorem SedB3 : spqB swM sT0 [] 100 1 213 [(0, sr0), (1, sI1 1 1), (2, sI1 99999 99999)] sA0 [] [0] 32 [] [rI 0 sA0 []] = true := by decide +kernel
theorem SedB4 : spqB swM sT0 [(4, 2 + 1, 2 + 1 + 1)] 100 1 213 [(0, sr0), (1, sI1 1 1), (2, sI1 99999 99999)] sA0 [(0, (none, 11), (0, 99999))] [1] 32 [] [rI 1 sA0 [(4, 2 + 1, 0, 0)]] = true := by decide +kernel
theorem zSedR {l : Launch} {Γ : zG} {d : Nat} {D : zD} {N : zN} {S : zS} {q : Nat} {h : zH} (hi : sInv swM h) (hT : tTk D q h) (hR : RM N S h) {a1 a2 : Int32} (ha1 : a1.toInt = 1) (ha2 : a2.toInt = 99999) {KF : zKF} {KO : zKO} (W : wOnc D 6 99999 N S q KF KO) : zSem l Γ false (d + 4) (zhd 213) [.ref 0, .int a1, .int a2] h (zLP D KF KO h) := by
  have M0 : sMd lnMd h h := sMd.rf
  unfold wOnc at W
  have s0 : pI h 3 1 = (S 6 : Int) := hR.1 6 (by decide)
  have sb0 : 0 ≤ pI h 3 1 ∧ pI h 3 1 ≤ 1 := pbd (iv := (0, 1)) hi (by decide +kernel)
  by_cases hfull : S 6 = 0
  rotate_left
  · rw [if_neg hfull] at W
    refine spm_f SedB0 (by omega) ⟨_, _, rfl, rfl, _, _, rfl, ⟨a1, rfl, by show 1 ≤ _; omega, by show _ ≤ 1; omega⟩, _, _, rfl, ⟨a2, rfl, by show 99999 ≤ _; omega, by show _ ≤ 99999; omega⟩, rfl⟩ (sAok.of (iB (by omega) (by omega) iE)) hi ?_
    intro x h' hx hi' hm' hf
    exact ⟨hi', hm'.sub rfl, x, rfl, Or.inl ⟨3, q, W, hx, by rw [← hT.2.2.1]; exact hf⟩⟩
  rw [if_pos hfull] at W
  refine spm_c (fun _ => 0) SedB1 (by omega) ⟨_, _, rfl, rfl, _, _, rfl, ⟨a1, rfl, by show 1 ≤ _; omega, by show _ ≤ 1; omega⟩, _, _, rfl, ⟨a2, rfl, by show 99999 ≤ _; omega, by show _ ≤ 99999; omega⟩, rfl⟩ (sAok.of (iB (by omega) (by omega) iE)) trivial hi ?_
  intro lo1 st1 h1 hp hi1 hm1
  obtain ⟨p1, p2, p3, p4, p5⟩ := hp
  obtain ⟨u0, _, rfl, u0r, hn⟩ := p1
  have u0r : u0 = .ref 0 := u0r
  subst u0r
  have hn : _ = [] := hn
  subst hn
  have M1 := M0.seq (hm1.sub rfl)
  have R1 : RM N (sU S 6 1) h1 := hR.up hm1 rfl (by have z : 1 ≤ pI h1 3 1 ∧ pI h1 3 1 ≤ 1 := p3.1 (3, 1, (1, 1)) List.mem_cons_self; show pI h1 3 1 = ((1 : Nat) : Int); omega) (by decide)
  refine zcallV (as := []) zv_Sed23 rfl (by rw [hi1.1]; rfl) ?_
  refine (ztokR (d := d + 1) hi1 (hT.1.md hm1 rfl rfl rfl)).mono ?_
  rintro r2 h2 ⟨rfl, hi2, T2, hm2⟩
  have M2 := M1.seq (hm2.sub rfl)
  have R2 := R1.md hm2 rfl
  have L2 := p2
  refine spq_c (pc := 26) (fun _ => 0) SedB2 (by omega) L2 (sA0_ok _) trivial hi2 rfl ?_
  intro lo3 st3 h3 hp hi3 hm3
  obtain ⟨p1, L3, p3, p4, p5⟩ := hp
  obtain ⟨_, _, rfl, ⟨u3_0, rfl, u3_0a, u3_0b⟩, _, _, rfl, ⟨u3_1, rfl, u3_1a, u3_1b⟩, u3_2, _, rfl, u3_2r, hn⟩ := p1
  have u3_0a : 99999 ≤ u3_0.toInt := u3_0a
  have u3_0b : u3_0.toInt ≤ 99999 := u3_0b
  have u3_1a : 0 ≤ u3_1.toInt := u3_1a
  have u3_1b : u3_1.toInt ≤ 0 := u3_1b
  have u3_2r : u3_2 = .ref 0 := u3_2r
  subst u3_2r
  have hn : _ = [] := hn
  subst hn
  have M3 := M2.seq (hm3.sub rfl)
  have R3 := R2.md hm3 rfl
  have T3 := T2.md hm3 rfl
  refine zcallV (as := [.int u3_0, .int u3_1]) zv_Sed29 rfl (by rw [hi3.1]; rfl) ?_
  refine (zNumR (d := d) hi3 T3 (a := u3_1) (b := u3_0) (L := 0) (H := 99999) (by omega) (by omega) (by decide)).mono ?_
  rintro rr h4 ⟨hi4, hm4, x4, rfl, hw⟩
  rcases hw _ _ W with ⟨c, p, hF, hx, hf⟩ | ⟨v4, q4, W, hx, T4, g4⟩
  · refine spq_r (pc := 32) (fun _ => 0) SedB3 (by omega) L3 (sA0_ok _) trivial hi4 ⟨x4, [], rfl, hx, rfl⟩ ?_
    intro x h' hx hi' hm' _ _
    exact ⟨hi', (M3.seq (hm4.sub rfl)).seq (hm'.sub rfl), x, rfl, Or.inl ⟨c, p, hF, hx, by unfold fM; rw [pI_md hm' rfl, pI_md hm' rfl]; exact hf⟩⟩
  have M4 := M3.seq (hm4.sub rfl)
  have R4 := R3.md hm4 rfl
  have L4 := L3
  refine spq_r (pc := 32) (fun _ => pI h4 0 11) SedB4 (by omega) L4 (sA0_ok _) ⟨⟨rfl, by dsimp only; omega, by dsimp only; omega⟩, trivial⟩ hi4 ⟨x4, [], rfl, hx, rfl⟩ ?_
  intro x h' hx hi' hm' hA' hr'
  refine ⟨hi', M4.seq (hm'.sub rfl), x, rfl, Or.inr ⟨_, _, _, W, hx, T4.md hm' rfl, ?_⟩⟩
  have cL : pI h' 4 (2 + 1) = v4 := by
    have z : pI h' 4 (2 + 1) = pI h4 0 11 + 0 := hr' (4, 2 + 1, 0, 0) List.mem_cons_self
    omega
  exact R4.onc hm' (by decide) cL
