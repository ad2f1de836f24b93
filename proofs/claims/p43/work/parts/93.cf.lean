/-! the class: lines -/
def rcA (d j : Nat) : Nat × Nat := if j < 5 then (d + 2 * j + 1, 3) else (d, j + 3)
/-- what a text has told so far, in the class's heap -/
def wdO (k : Nat) : Nat := if k = 1 then 6 else if k = 2 then 2 else if k = 3 then 4 else 1
def clO (k c : Nat) : Nat := (if k = 0 then 0 else if k = 1 then 1 else if k = 2 then 7 else if k = 3 then 9 else 13) + c
/-- the laws told: all knots' code, where each law's lies -/
def LwC (d0 : Nat) (N : zN) (S : zS) (h : zH) : Prop := pI h (d0 + 11) 1 = (S 10 : Int) ∧ ∀ j, j < 3 → S (7 + j) ≠ 0 → pI h (d0 + 13) j = (S (14 + j) : Int) ∧ pI h (d0 + 14) j = ((S (14 + j) + S (11 + j) : Nat) : Int) ∧ S (14 + j) + S (11 + j) ≤ S 10 ∧ cdC (pI h (d0 + 12)) (S (14 + j)) (lsF (N (20 + j)) (S (11 + j)))
theorem LwC.kept {d0 : Nat} {N N' : zN} {S S' : zS} {h h' : zH} (hL : LwC d0 N S h) (k : ∀ q j, (q = d0 + 11 ∧ j = 1) ∨ q = d0 + 12 ∨ q = d0 + 13 ∨ q = d0 + 14 → pI h' q j = pI h q j) (hN : ∀ a i, 20 ≤ a → N' a i = N a i) (hS : ∀ i, 7 ≤ i → S' i = S i) : LwC d0 N' S' h' := by
  refine ⟨(k _ _ (by omega)).trans (by rw [hS 10 (by omega)]; exact hL.1), fun j hj h0 => ?_⟩
  rw [hS (7 + j) (by omega)] at h0
  obtain ⟨a1, a2, a3, a4⟩ := hL.2 j hj h0
  rw [hS (14 + j) (by omega), hS (11 + j) (by omega), hS 10 (by omega), k _ _ (by omega), k _ _ (by omega)]
  refine ⟨a1, a2, a3, ?_⟩
  rw [lsF_eq (S (11 + j)) (f := N' (20 + j)) (g := N (20 + j)) (fun i _ => hN (20 + j) i (by omega))]
  exact cdC_eq (fun i _ _ => k _ _ (by omega)) a4
def RC (d0 : Nat) (N : zN) (S : zS) (h : zH) : Prop := (∀ j, j < 7 → pI h (rcA d0 j).1 (rcA d0 j).2 = (S j : Int)) ∧ pI h (d0 + 11) 2 = (S 10 : Int) ∧ (∀ j, j < 3 → (S (7 + j) = 0 ↔ pI h (d0 + 13) j = -1)) ∧ (∀ k c i, k < 5 → c < wdO k → i < S k → pI h (d0 + 2 * k + 2) (i * wdO k + c) = N (clO k c) i) ∧ (∀ j, j < 2 → pI h d0 (6 + j) = N 14 j) ∧ LwC d0 N S h
theorem RC.n0 {d0 : Nat} {N : zN} {S : zS} {h : zH} (hR : RC d0 N S h) {i : Nat} (hlt : i < S 0) : pI h (d0 + 2) i = N 0 i := by
  have := hR.2.2.2.1 0 0 i (by decide) (by decide) hlt
  rw [show wdO 0 = 1 from rfl, show clO 0 0 = 0 from rfl, Nat.mul_one] at this
  exact this
theorem RC.n1 {d0 : Nat} {N : zN} {S : zS} {h : zH} (hR : RC d0 N S h) {i : Nat} (hlt : i < S 1) : pI h (d0 + 4) (i * 6) = N 1 i := hR.2.2.2.1 1 0 i (by decide) (by decide) hlt
theorem clO_ne : ∀ k k' : Fin 5, ∀ c : Fin 6, k ≠ k' → c.val < wdO k'.val → ¬ (clO k.val 0 ≤ clO k'.val c.val ∧ clO k'.val c.val < clO k.val 0 + wdO k.val) := by decide
theorem wdO_6 {k : Nat} : wdO k ≤ 6 := by
  unfold wdO
  split
  · decide
  · split
    · decide
    · split <;> decide
theorem clO_c {k c : Nat} : clO k c = clO k 0 + c := rfl
theorem clO_14 {k c : Nat} (hk : k < 5) (hc : c < wdO k) : clO k c < 14 := by
  have h1 : ∀ k : Fin 5, clO k.val 0 + wdO k.val ≤ 14 := by decide
  have := h1 ⟨k, hk⟩
  rw [clO_c]
  simp only at this
  omega
theorem nUc_ne {N : zN} {k r : Nat} {v : Int} {a i : Nat} (h : ¬ (i = r ∧ a = k)) : nU N k r v a i = N a i := if_neg (fun g => h ⟨g.2, g.1⟩)
theorem nG_ne {N : zN} {r : Nat} {v m a b n c : Int} {x i : Nat} (h : ¬ (i = r ∧ 1 ≤ x ∧ x < 7)) : nG N r v m a b n c x i = N x i := by
  unfold nG
  rw [nUc_ne (by omega), nUc_ne (by omega), nUc_ne (by omega), nUc_ne (by omega), nUc_ne (by omega), nUc_ne (by omega)]
theorem nT_ne {N : zN} {r : Nat} {g m : Int} {x i : Nat} (h : ¬ (i = r ∧ 7 ≤ x ∧ x < 9)) : nT N r g m x i = N x i := by
  unfold nT
  rw [nUc_ne (by omega), nUc_ne (by omega)]
theorem nP_ne {N : zN} {r : Nat} {a b m g : Int} {x i : Nat} (h : ¬ (i = r ∧ 9 ≤ x ∧ x < 13)) : nPy N r a b m g x i = N x i := by
  unfold nPy
  rw [nUc_ne (by omega), nUc_ne (by omega), nUc_ne (by omega), nUc_ne (by omega)]
theorem nM_at {N : zN} {r : Nat} {v : Int} {f : Nat → Int} (e0 : f 0 = v) : ∀ c, c < wdO 0 → f c = nU N 0 r v (clO 0 c) r := fun c hc => by
  have hc : c < 1 := hc
  have e : c = 0 := by omega
  subst e
  rw [e0]
  exact nU_at.symm
theorem nG_at {N : zN} {r : Nat} {v m a b n d : Int} {f : Nat → Int} (e0 : f 0 = v) (e1 : f 1 = m) (e2 : f 2 = a) (e3 : f 3 = b) (e4 : f 4 = n) (e5 : f 5 = d) : ∀ c, c < wdO 1 → f c = nG N r v m a b n d (clO 1 c) r := fun c hc => by
  have hc : c < 6 := hc
  have e : c = 0 ∨ c = 1 ∨ c = 2 ∨ c = 3 ∨ c = 4 ∨ c = 5 := by omega
  rcases e with rfl | rfl | rfl | rfl | rfl | rfl
  · rw [e0]
    simp [nG, nU, clO]
  · rw [e1]
    simp [nG, nU, clO]
  · rw [e2]
    simp [nG, nU, clO]
  · rw [e3]
    simp [nG, nU, clO]
  · rw [e4]
    simp [nG, nU, clO]
  · rw [e5]
    simp [nG, nU, clO]
theorem nT_at {N : zN} {r : Nat} {g m : Int} {f : Nat → Int} (e0 : f 0 = g) (e1 : f 1 = m) : ∀ c, c < wdO 2 → f c = nT N r g m (clO 2 c) r := fun c hc => by
  have hc : c < 2 := hc
  have e : c = 0 ∨ c = 1 := by omega
  rcases e with rfl | rfl
  · rw [e0]
    simp [nT, nU, clO]
  · rw [e1]
    simp [nT, nU, clO]
theorem nP_at {N : zN} {r : Nat} {a b m g : Int} {f : Nat → Int} (e0 : f 0 = a) (e1 : f 1 = b) (e2 : f 2 = m) (e3 : f 3 = g) : ∀ c, c < wdO 3 → f c = nPy N r a b m g (clO 3 c) r := fun c hc => by
  have hc : c < 4 := hc
  have e : c = 0 ∨ c = 1 ∨ c = 2 ∨ c = 3 := by omega
  rcases e with rfl | rfl | rfl | rfl
  · rw [e0]
    simp [nPy, nU, clO]
  · rw [e1]
    simp [nPy, nU, clO]
  · rw [e2]
    simp [nPy, nU, clO]
  · rw [e3]
    simp [nPy, nU, clO]
theorem nS_at {N : zN} {r : Nat} {v : Int} {f : Nat → Int} (e0 : f 0 = v) : ∀ c, c < wdO 4 → f c = nU N 13 r v (clO 4 c) r := fun c hc => by
  have hc : c < 1 := hc
  have e : c = 0 := by omega
  subst e
  rw [e0]
  exact nU_at.symm
theorem wThr_s {D : zD} {f : Nat → Int} {r q : Nat} {KF KO : Int → Nat → Prop} (h : wThr D f r q KF KO) : wThr D f r q KF (fun v q' => (kF D q = 2 ∧ 0 ≤ v ∧ v = fIx f r (lF D q)) ∧ KO v q') := by
  unfold wThr at h ⊢
  split
  · rename_i e
    rw [if_pos e] at h
    split
    · rename_i e2
      rw [if_pos e2] at h
      exact h
    · rename_i e2
      rw [if_neg e2] at h
      exact ⟨⟨e, by omega, rfl⟩, h⟩
  · rename_i e
    rw [if_neg e] at h
    exact h
theorem RC.gen {d0 : Nat} {N : zN} {S : zS} {h h' : zH} (hR : RC d0 N S h) (k : ∀ q j, d0 ≤ q → pI h' q j = pI h q j) : RC d0 N S h' := by
  obtain ⟨r1, r2, r3, r4, r5, r6⟩ := hR
  refine ⟨fun j hj => ?_, (k _ _ (by omega)).trans r2, fun j hj => ?_, fun a c i h1 h2 h3 => (k _ _ (by omega)).trans (r4 a c i h1 h2 h3), fun j hj => (k _ _ (by omega)).trans (r5 j hj), r6.kept (fun q j hq => k q j (by omega)) (fun _ _ _ => rfl) (fun _ _ => rfl)⟩
  · rw [k _ _ (by unfold rcA; split <;> simp only <;> omega)]
    exact r1 j hj
  · rw [k _ _ (by omega)]
    exact r3 j hj
theorem smem_lt {md : sM} {b q j : Nat} (hb : md.all (fun t => decide (t.1 < b)) = true) (hq : b ≤ q) : smem md q j = false := by
  cases hc : smem md q j with
  | false => rfl
  | true =>
    obtain ⟨t, ht, h1⟩ := List.any_eq_true.mp hc
    have h2 := of_decide_eq_true (List.all_eq_true.mp hb t ht)
    simp only [Bool.and_eq_true, beq_iff_eq] at h1
    omega
theorem RC.md {d0 : Nat} {N : zN} {S : zS} {h h' : zH} {md : sM} (hR : RC d0 N S h) (hm : sMd md h h') (hb : md.all (fun t => decide (t.1 < 9)) = true) (hd : 9 ≤ d0) : RC d0 N S h' := hR.gen (fun q j hq => pI_md hm (smem_lt hb (by omega)))
theorem RC.s {d0 : Nat} {N : zN} {S : zS} {h : zH} (hR : RC d0 N S h) {j : Nat} (hj : j < 5) : pI h (d0 + 2 * j + 1) 3 = (S j : Int) := by
  have := hR.1 j (by omega)
  unfold rcA at this
  rw [if_pos hj] at this
  exact this
theorem RC.add {d0 : Nat} {N N' : zN} {S : zS} {h h' : zH} (hR : RC d0 N S h) {k r : Nat} (hk : k < 5) (hd : 9 ≤ d0) (er : r = S k) (kept : ∀ q j, ¬ (q = 3 ∨ (q = d0 + 2 * k + 1 ∧ j = 3) ∨ (q = d0 + 2 * k + 2 ∧ r * wdO k ≤ j ∧ j < r * wdO k + wdO k)) → pI h' q j = pI h q j) (h3 : pI h' (d0 + 2 * k + 1) 3 = (r : Int) + 1) (hN : ∀ a i, ¬ (i = r ∧ clO k 0 ≤ a ∧ a < clO k 0 + wdO k) → N' a i = N a i) (hc : ∀ c, c < wdO k → pI h' (d0 + 2 * k + 2) (r * wdO k + c) = N' (clO k c) r) : RC d0 N' (sU S k (r + 1)) h' := by
  obtain ⟨r1, r2, r3, r4, r5, r6⟩ := hR
  have h14 : clO k 0 + wdO k ≤ 14 := by
    have h1 : ∀ k : Fin 5, clO k.val 0 + wdO k.val ≤ 14 := by decide
    exact h1 ⟨k, hk⟩
  refine ⟨fun j hj => ?_, ?_, fun j hj => ?_, fun k' c i hk' hc' hlt => ?_, fun j hj => ?_, r6.kept (fun q j hq => kept q j (by omega)) (fun a i ha => hN a i (by omega)) (fun i hi => sU_ne (by omega))⟩
  · by_cases e : j = k
    · subst e
      rw [sU_at]
      unfold rcA
      rw [if_pos hk]
      show pI h' (d0 + 2 * j + 1) 3 = _
      rw [h3]
      rfl
    · rw [sU_ne e, ← r1 j hj]
      refine kept _ _ ?_
      unfold rcA
      split <;> simp only <;> omega
  · rw [sU_ne (by omega), ← r2]
    exact kept _ _ (by omega)
  · rw [sU_ne (by omega), kept _ _ (by omega)]
    exact r3 j hj
  · by_cases e : k' = k
    · subst e
      rw [sU_at] at hlt
      by_cases ei : i = r
      · subst ei
        exact hc c hc'
      · rw [hN _ _ (fun g => ei g.1), ← r4 k' c i hk' hc' (by omega)]
        have m1 : (i + 1) * wdO k' ≤ r * wdO k' := Nat.mul_le_mul_right _ (by omega)
        rw [Nat.succ_mul] at m1
        exact kept _ _ (by omega)
    · rw [sU_ne e] at hlt
      have c6 := @wdO_6 k'
      rw [hN _ _ (fun g => clO_ne ⟨k, hk⟩ ⟨k', hk'⟩ ⟨c, by omega⟩ (fun g => e (by injection g with g; exact g.symm)) hc' g.2), ← r4 k' c i hk' hc' hlt]
      exact kept _ _ (by omega)
  · have h14 : clO k 0 + wdO k ≤ 14 := by
      have h1 : ∀ k : Fin 5, clO k.val 0 + wdO k.val ≤ 14 := by decide
      exact h1 ⟨k, hk⟩
    rw [hN 14 j (by omega), ← r5 j hj]
    exact kept _ _ (by omega)
theorem cA.md {D : zD} {p : Nat} {h h' : zH} {md : sM} (hA : cA D p h) (hm : sMd md h h') (h1 : md.all (fun t => !(t.1 == 1)) = true) (h31 : smem md 3 1 = false) (h32 : smem md 3 2 = false) (h33 : smem md 3 3 = false) (h38 : smem md 3 8 = false) (h39 : smem md 3 9 = false) : cA D p h' := by
  obtain ⟨t1, t2, t3, t4, t5, t6, t7, t8⟩ := hA
  exact ⟨fun j hj => (pI_md hm (smem_q h1 j)).trans (t1 j hj), t2, ((hm 3 1 h31).2.1).trans t3, (pI_md hm h32).trans t4, (pI_md hm h33).trans t5, t6, t7, by rw [pI_md hm h38, pI_md hm h39]; exact t8⟩
theorem cTk.md {D : zD} {q : Nat} {h h' : zH} {md : sM} (hT : cTk D q h) (hm : sMd md h h') (h1 : md.all (fun t => !(t.1 == 1)) = true) (h3 : md.all (fun t => !(t.1 == 3)) = true) : cTk D q h' := by
  obtain ⟨t, u1, u2, u3, u4, u5⟩ := hT
  exact ⟨t.md hm h1 (smem_q h3 _) (smem_q h3 _) (smem_q h3 _) (smem_q h3 _) (smem_q h3 _), u1, (pI_md hm (smem_q h3 _)).trans u2, (pI_md hm (smem_q h3 _)).trans u3, fun e => (pI_md hm (smem_q h3 _)).trans (u4 e), fun e => (pI_md hm (smem_q h3 _)).trans (u5 e)⟩
def cMdL (d0 : Nat) : sM := [(3, 3, 10), (6, 1, 5), (7, 0, 100), (8, 0, 6), (d0, 6, 10)] ++ (List.range 16).map (fun k => (d0 + k + 1, 0, 100))
/-- how a line ends -/
def zCP (D : zD) (d0 : Nat) (KF : zKF) (KO : zKO) (h : zH) (r : Option Value) (h' : zH) : Prop := r = none ∧ sInv swC h' ∧ sMd (cMdL d0) h h' ∧ ((∃ c p, KF c p ∧ 1 ≤ c ∧ c ≤ 5 ∧ fC c p h') ∨ (∃ N' S' q', KO N' S' q' ∧ pI h' 3 8 = 0 ∧ cTk D q' h' ∧ RC d0 N' S' h'))
def cT (mi : Nat) : List sCt := if mi = 34 ∨ mi = 45 then sTC mi else []
theorem cTd (l : Launch) (Γ : zG) (dep : Nat) : ∀ mi, ∀ c ∈ cT mi, c.2.2.2.2.2 ≤ dep → sCon l Γ swC mi c := fun mi c hc _ => by
  unfold cT at hc
  split at hc
  · exact sTC_ok l Γ mi c hc
  · cases hc
def fpr : sAs := ([(3, 8, (1, 5))], [(3, 1, 1)], [], [])
/-- numbers and names with a fault before them -/
def fcs : List (Nat × sCt) := (52, ([.inr (.inl 2), .inl sf32, .inl sf32], fpr, some (.inl sf32), sA0, [(3, 3, 8)], 4)) :: (48, ([.inr (.inl 2)], fpr, none, sA0, [(3, 3, 8)], 4)) :: ([10, 12, 27, 29].map (fun R => (44, ([.inr (.inl 2), .inr (.inl R)], fpr, some (.inl sf32), sA0, [(3, 3, 8)], 4))) ++ ([10, 12, 27, 29].map (fun R => (51, ([.inr (.inl 2), .inr (.inl R)], fpr, some (.inl sf32), sA0, [(3, 3, 8)], 4))) ++ [10, 12, 14, 16, 18, 27, 29, 31, 33, 35].map (fun R => (47, ([.inr (.inl 2), .inr (.inl R)], fpr, none, sA0, [(3, 3, 8)], 5)))))
theorem fcs_ok : fcs.all (fun t => schk swC cT 2000 t.1 t.2 [] []) = true := by decide +kernel
def cT2 (mi : Nat) : List sCt := cT mi ++ (fcs.filter (fun t => t.1 == mi)).map (fun t => t.2)
theorem cT2d (l : Launch) (Γ : zG) (dep : Nat) : ∀ mi, ∀ c ∈ cT2 mi, c.2.2.2.2.2 ≤ dep → sCon l Γ swC mi c := fun mi c hc hd => by
  rcases List.mem_append.mp hc with h1 | h1
  · exact cTd l Γ dep mi c h1 hd
  · obtain ⟨t, ht, rfl⟩ := List.mem_map.mp h1
    obtain ⟨h2, h3⟩ := List.mem_filter.mp ht
    have e := eq_of_beq h3
    subst e
    exact schk_ok (T := cT) (fun mi c hc _ => cTd l Γ _ mi c hc (Nat.le_refl _)) (List.all_eq_true.mp fcs_ok t h2)
def cFm (d0 : Nat) : sM := [(3, 3, 8), (8, 0, 6), (d0, 6, 10)]
def flP : List (Nat × Nat) := [(40, 8), (40, 22), (50, 8), (50, 22), (50, 36), (50, 49), (50, 62), (50, 75), (50, 88), (53, 8), (53, 22), (53, 35), (55, 8), (55, 21), (54, 8), (54, 22), (54, 74), (54, 88), (54, 101), (54, 114), (56, 15), (56, 38), (57, 15), (57, 38)]
theorem flC : [9, 26].all (fun d0 => flP.all (fun t => spqB swC cT2 (cFm d0) 2000 5 t.1 [(0, .inr (.inl 2)), (1, .inr (.inl d0))] ([(3, 8, (1, 5))], [(3, 1, 1)], [], []) [] [] t.2 [] [(none, sA0, [])])) = true := by decide +kernel
theorem zflC {l : Launch} {Γ : zG} {d d0 : Nat} (hd0 : d0 ∈ [9, 26]) {t : Nat × Nat} (ht : t ∈ flP) {D : zD} {KF : zKF} {KO : zKO} {h0 h : zH} {c p : Int} {p' : Nat} (h31 : h0.2.2.2 3 1 = some 1) (hi : sInv swC h) (hM : sMd (cMdL d0) h0 h) (hF : KF c p') (hp : p = (p' : Int)) (h1 : 1 ≤ c) (h5 : c ≤ 5) (hf : fC c p h) : zX l Γ false (d + 6) (zhd t.1) (zMQ' Γ false (zhd t.1) (zCP D d0 KF KO h0)) 0 0 t.2 [(0, .ref 2), (1, .ref d0)] [] h := by
  have B := List.all_eq_true.mp (List.all_eq_true.mp flC d0 hd0) t ht
  have f8 := hf.1
  refine spq_ok (fun _ => 0) B (cT2d l Γ 5) (by omega) (sfm ⟨.ref 2, rfl, rfl⟩ (sfm ⟨.ref d0, rfl, rfl⟩ (fun _ h => nomatch h))) ⟨iB (by omega) (by omega) iE, fun t ht => by
    have ht := List.mem_singleton.mp ht
    subst ht
    refine Eq.trans (hM 3 1 ?_).2.1 h31
    simp only [List.mem_cons, List.not_mem_nil, or_false] at hd0
    rcases hd0 with rfl | rfl <;> decide +kernel, (fun _ h => nomatch h), Or.inl rfl⟩ trivial hi rfl (fun e he => nomatch he) ?_
  intro e he r' h' hp' hi' hm'
  have e := List.mem_singleton.mp he
  subst e
  have hr' : r' = none := hp'.1
  subst hp
  refine ⟨hr', hi', hM.seq (sMd.sub hm' ?_), Or.inl ⟨c, p', hF, h1, h5, ?_⟩⟩
  · simp only [List.mem_cons, List.not_mem_nil, or_false] at hd0
    rcases hd0 with rfl | rfl <;> decide +kernel
  · simp only [List.mem_cons, List.not_mem_nil, or_false] at hd0
    rcases hd0 with rfl | rfl <;> exact hf.md hm' rfl rfl
theorem adS10 {r : Nat} (hlt : r < 5) : ∀ q k, smem ((3, 3, 10) :: adM10 r) q k = true → smem (cMdL 9) q k = true := fun q k hm => by
  obtain ⟨t, ht, hc⟩ := List.any_eq_true.mp hm
  simp only [adM10, List.mem_cons, List.not_mem_nil, or_false] at ht
  simp only [Bool.and_eq_true, beq_iff_eq, decide_eq_true_eq] at hc
  rcases ht with rfl | rfl | rfl
  · exact List.any_eq_true.mpr ⟨(3, 3, 10), by decide, by
      simp only [Bool.and_eq_true, beq_iff_eq, decide_eq_true_eq]
      exact hc⟩
  · exact List.any_eq_true.mpr ⟨(10, 0, 100), by decide, by
      simp only [Bool.and_eq_true, beq_iff_eq, decide_eq_true_eq]
      simp only at hc
      exact ⟨hc.1, by omega, by omega⟩⟩
  · exact List.any_eq_true.mpr ⟨(11, 0, 100), by decide, by
      simp only [Bool.and_eq_true, beq_iff_eq, decide_eq_true_eq]
      simp only at hc
      exact ⟨hc.1, by omega, by omega⟩⟩
theorem adK10 {r : Nat} {h h' : zH} (hm : sMd ((3, 3, 10) :: adM10 r) h h') : ∀ q j, ¬ (q = 3 ∨ (q = 10 ∧ j = 3) ∨ (q = 11 ∧ r * 1 ≤ j ∧ j < r * 1 + 1)) → pI h' q j = pI h q j := fun q j hn => pI_md hm (by
  cases hc : smem ((3, 3, 10) :: adM10 r) q j with
  | false => rfl
  | true =>
    obtain ⟨t, ht, hc⟩ := List.any_eq_true.mp hc
    simp only [adM10, List.mem_cons, List.not_mem_nil, or_false] at ht
    simp only [Bool.and_eq_true, beq_iff_eq, decide_eq_true_eq] at hc
    rcases ht with rfl | rfl | rfl <;> simp only at hc <;> omega)
theorem adS12 {r : Nat} (hlt : r < 8) : ∀ q k, smem ((3, 3, 10) :: adM12 r) q k = true → smem (cMdL 9) q k = true := fun q k hm => by
  obtain ⟨t, ht, hc⟩ := List.any_eq_true.mp hm
  simp only [adM12, List.mem_cons, List.not_mem_nil, or_false] at ht
  simp only [Bool.and_eq_true, beq_iff_eq, decide_eq_true_eq] at hc
  rcases ht with rfl | rfl | rfl
  · exact List.any_eq_true.mpr ⟨(3, 3, 10), by decide, by
      simp only [Bool.and_eq_true, beq_iff_eq, decide_eq_true_eq]
      exact hc⟩
  · exact List.any_eq_true.mpr ⟨(12, 0, 100), by decide, by
      simp only [Bool.and_eq_true, beq_iff_eq, decide_eq_true_eq]
      simp only at hc
      exact ⟨hc.1, by omega, by omega⟩⟩
  · exact List.any_eq_true.mpr ⟨(13, 0, 100), by decide, by
      simp only [Bool.and_eq_true, beq_iff_eq, decide_eq_true_eq]
      simp only at hc
      exact ⟨hc.1, by omega, by omega⟩⟩
theorem adK12 {r : Nat} {h h' : zH} (hm : sMd ((3, 3, 10) :: adM12 r) h h') : ∀ q j, ¬ (q = 3 ∨ (q = 12 ∧ j = 3) ∨ (q = 13 ∧ r * 6 ≤ j ∧ j < r * 6 + 6)) → pI h' q j = pI h q j := fun q j hn => pI_md hm (by
  cases hc : smem ((3, 3, 10) :: adM12 r) q j with
  | false => rfl
  | true =>
    obtain ⟨t, ht, hc⟩ := List.any_eq_true.mp hc
    simp only [adM12, List.mem_cons, List.not_mem_nil, or_false] at ht
    simp only [Bool.and_eq_true, beq_iff_eq, decide_eq_true_eq] at hc
    rcases ht with rfl | rfl | rfl <;> simp only at hc <;> omega)
theorem adS14 {r : Nat} (hlt : r < 10) : ∀ q k, smem ((3, 3, 10) :: adM14 r) q k = true → smem (cMdL 9) q k = true := fun q k hm => by
  obtain ⟨t, ht, hc⟩ := List.any_eq_true.mp hm
  simp only [adM14, List.mem_cons, List.not_mem_nil, or_false] at ht
  simp only [Bool.and_eq_true, beq_iff_eq, decide_eq_true_eq] at hc
  rcases ht with rfl | rfl | rfl
  · exact List.any_eq_true.mpr ⟨(3, 3, 10), by decide, by
      simp only [Bool.and_eq_true, beq_iff_eq, decide_eq_true_eq]
      exact hc⟩
  · exact List.any_eq_true.mpr ⟨(14, 0, 100), by decide, by
      simp only [Bool.and_eq_true, beq_iff_eq, decide_eq_true_eq]
      simp only at hc
      exact ⟨hc.1, by omega, by omega⟩⟩
  · exact List.any_eq_true.mpr ⟨(15, 0, 100), by decide, by
      simp only [Bool.and_eq_true, beq_iff_eq, decide_eq_true_eq]
      simp only at hc
      exact ⟨hc.1, by omega, by omega⟩⟩
theorem adK14 {r : Nat} {h h' : zH} (hm : sMd ((3, 3, 10) :: adM14 r) h h') : ∀ q j, ¬ (q = 3 ∨ (q = 14 ∧ j = 3) ∨ (q = 15 ∧ r * 2 ≤ j ∧ j < r * 2 + 2)) → pI h' q j = pI h q j := fun q j hn => pI_md hm (by
  cases hc : smem ((3, 3, 10) :: adM14 r) q j with
  | false => rfl
  | true =>
    obtain ⟨t, ht, hc⟩ := List.any_eq_true.mp hc
    simp only [adM14, List.mem_cons, List.not_mem_nil, or_false] at ht
    simp only [Bool.and_eq_true, beq_iff_eq, decide_eq_true_eq] at hc
    rcases ht with rfl | rfl | rfl <;> simp only at hc <;> omega)
theorem adS16 {r : Nat} (hlt : r < 10) : ∀ q k, smem ((3, 3, 10) :: adM16 r) q k = true → smem (cMdL 9) q k = true := fun q k hm => by
  obtain ⟨t, ht, hc⟩ := List.any_eq_true.mp hm
  simp only [adM16, List.mem_cons, List.not_mem_nil, or_false] at ht
  simp only [Bool.and_eq_true, beq_iff_eq, decide_eq_true_eq] at hc
  rcases ht with rfl | rfl | rfl
  · exact List.any_eq_true.mpr ⟨(3, 3, 10), by decide, by
      simp only [Bool.and_eq_true, beq_iff_eq, decide_eq_true_eq]
      exact hc⟩
  · exact List.any_eq_true.mpr ⟨(16, 0, 100), by decide, by
      simp only [Bool.and_eq_true, beq_iff_eq, decide_eq_true_eq]
      simp only at hc
      exact ⟨hc.1, by omega, by omega⟩⟩
  · exact List.any_eq_true.mpr ⟨(17, 0, 100), by decide, by
      simp only [Bool.and_eq_true, beq_iff_eq, decide_eq_true_eq]
      simp only at hc
      exact ⟨hc.1, by omega, by omega⟩⟩
theorem adK16 {r : Nat} {h h' : zH} (hm : sMd ((3, 3, 10) :: adM16 r) h h') : ∀ q j, ¬ (q = 3 ∨ (q = 16 ∧ j = 3) ∨ (q = 17 ∧ r * 4 ≤ j ∧ j < r * 4 + 4)) → pI h' q j = pI h q j := fun q j hn => pI_md hm (by
  cases hc : smem ((3, 3, 10) :: adM16 r) q j with
  | false => rfl
  | true =>
    obtain ⟨t, ht, hc⟩ := List.any_eq_true.mp hc
    simp only [adM16, List.mem_cons, List.not_mem_nil, or_false] at ht
    simp only [Bool.and_eq_true, beq_iff_eq, decide_eq_true_eq] at hc
    rcases ht with rfl | rfl | rfl <;> simp only at hc <;> omega)
theorem adS18 {r : Nat} (hlt : r < 6) : ∀ q k, smem ((3, 3, 10) :: adM18 r) q k = true → smem (cMdL 9) q k = true := fun q k hm => by
  obtain ⟨t, ht, hc⟩ := List.any_eq_true.mp hm
  simp only [adM18, List.mem_cons, List.not_mem_nil, or_false] at ht
  simp only [Bool.and_eq_true, beq_iff_eq, decide_eq_true_eq] at hc
  rcases ht with rfl | rfl | rfl
  · exact List.any_eq_true.mpr ⟨(3, 3, 10), by decide, by
      simp only [Bool.and_eq_true, beq_iff_eq, decide_eq_true_eq]
      exact hc⟩
  · exact List.any_eq_true.mpr ⟨(18, 0, 100), by decide, by
      simp only [Bool.and_eq_true, beq_iff_eq, decide_eq_true_eq]
      simp only at hc
      exact ⟨hc.1, by omega, by omega⟩⟩
  · exact List.any_eq_true.mpr ⟨(19, 0, 100), by decide, by
      simp only [Bool.and_eq_true, beq_iff_eq, decide_eq_true_eq]
      simp only at hc
      exact ⟨hc.1, by omega, by omega⟩⟩
theorem adK18 {r : Nat} {h h' : zH} (hm : sMd ((3, 3, 10) :: adM18 r) h h') : ∀ q j, ¬ (q = 3 ∨ (q = 18 ∧ j = 3) ∨ (q = 19 ∧ r * 1 ≤ j ∧ j < r * 1 + 1)) → pI h' q j = pI h q j := fun q j hn => pI_md hm (by
  cases hc : smem ((3, 3, 10) :: adM18 r) q j with
  | false => rfl
  | true =>
    obtain ⟨t, ht, hc⟩ := List.any_eq_true.mp hc
    simp only [adM18, List.mem_cons, List.not_mem_nil, or_false] at ht
    simp only [Bool.and_eq_true, beq_iff_eq, decide_eq_true_eq] at hc
    rcases ht with rfl | rfl | rfl <;> simp only at hc <;> omega)
theorem adS27 {r : Nat} (hlt : r < 5) : ∀ q k, smem ((3, 3, 10) :: adM27 r) q k = true → smem (cMdL 26) q k = true := fun q k hm => by
  obtain ⟨t, ht, hc⟩ := List.any_eq_true.mp hm
  simp only [adM27, List.mem_cons, List.not_mem_nil, or_false] at ht
  simp only [Bool.and_eq_true, beq_iff_eq, decide_eq_true_eq] at hc
  rcases ht with rfl | rfl | rfl
  · exact List.any_eq_true.mpr ⟨(3, 3, 10), by decide, by
      simp only [Bool.and_eq_true, beq_iff_eq, decide_eq_true_eq]
      exact hc⟩
  · exact List.any_eq_true.mpr ⟨(27, 0, 100), by decide, by
      simp only [Bool.and_eq_true, beq_iff_eq, decide_eq_true_eq]
      simp only at hc
      exact ⟨hc.1, by omega, by omega⟩⟩
  · exact List.any_eq_true.mpr ⟨(28, 0, 100), by decide, by
      simp only [Bool.and_eq_true, beq_iff_eq, decide_eq_true_eq]
      simp only at hc
      exact ⟨hc.1, by omega, by omega⟩⟩
theorem adK27 {r : Nat} {h h' : zH} (hm : sMd ((3, 3, 10) :: adM27 r) h h') : ∀ q j, ¬ (q = 3 ∨ (q = 27 ∧ j = 3) ∨ (q = 28 ∧ r * 1 ≤ j ∧ j < r * 1 + 1)) → pI h' q j = pI h q j := fun q j hn => pI_md hm (by
  cases hc : smem ((3, 3, 10) :: adM27 r) q j with
  | false => rfl
  | true =>
    obtain ⟨t, ht, hc⟩ := List.any_eq_true.mp hc
    simp only [adM27, List.mem_cons, List.not_mem_nil, or_false] at ht
    simp only [Bool.and_eq_true, beq_iff_eq, decide_eq_true_eq] at hc
    rcases ht with rfl | rfl | rfl <;> simp only at hc <;> omega)
theorem adS29 {r : Nat} (hlt : r < 8) : ∀ q k, smem ((3, 3, 10) :: adM29 r) q k = true → smem (cMdL 26) q k = true := fun q k hm => by
  obtain ⟨t, ht, hc⟩ := List.any_eq_true.mp hm
  simp only [adM29, List.mem_cons, List.not_mem_nil, or_false] at ht
  simp only [Bool.and_eq_true, beq_iff_eq, decide_eq_true_eq] at hc
  rcases ht with rfl | rfl | rfl
  · exact List.any_eq_true.mpr ⟨(3, 3, 10), by decide, by
      simp only [Bool.and_eq_true, beq_iff_eq, decide_eq_true_eq]
      exact hc⟩
  · exact List.any_eq_true.mpr ⟨(29, 0, 100), by decide, by
      simp only [Bool.and_eq_true, beq_iff_eq, decide_eq_true_eq]
      simp only at hc
      exact ⟨hc.1, by omega, by omega⟩⟩
  · exact List.any_eq_true.mpr ⟨(30, 0, 100), by decide, by
      simp only [Bool.and_eq_true, beq_iff_eq, decide_eq_true_eq]
      simp only at hc
      exact ⟨hc.1, by omega, by omega⟩⟩
theorem adK29 {r : Nat} {h h' : zH} (hm : sMd ((3, 3, 10) :: adM29 r) h h') : ∀ q j, ¬ (q = 3 ∨ (q = 29 ∧ j = 3) ∨ (q = 30 ∧ r * 6 ≤ j ∧ j < r * 6 + 6)) → pI h' q j = pI h q j := fun q j hn => pI_md hm (by
  cases hc : smem ((3, 3, 10) :: adM29 r) q j with
  | false => rfl
  | true =>
    obtain ⟨t, ht, hc⟩ := List.any_eq_true.mp hc
    simp only [adM29, List.mem_cons, List.not_mem_nil, or_false] at ht
    simp only [Bool.and_eq_true, beq_iff_eq, decide_eq_true_eq] at hc
    rcases ht with rfl | rfl | rfl <;> simp only at hc <;> omega)
theorem adS31 {r : Nat} (hlt : r < 10) : ∀ q k, smem ((3, 3, 10) :: adM31 r) q k = true → smem (cMdL 26) q k = true := fun q k hm => by
  obtain ⟨t, ht, hc⟩ := List.any_eq_true.mp hm
  simp only [adM31, List.mem_cons, List.not_mem_nil, or_false] at ht
  simp only [Bool.and_eq_true, beq_iff_eq, decide_eq_true_eq] at hc
  rcases ht with rfl | rfl | rfl
  · exact List.any_eq_true.mpr ⟨(3, 3, 10), by decide, by
      simp only [Bool.and_eq_true, beq_iff_eq, decide_eq_true_eq]
      exact hc⟩
  · exact List.any_eq_true.mpr ⟨(31, 0, 100), by decide, by
      simp only [Bool.and_eq_true, beq_iff_eq, decide_eq_true_eq]
      simp only at hc
      exact ⟨hc.1, by omega, by omega⟩⟩
  · exact List.any_eq_true.mpr ⟨(32, 0, 100), by decide, by
      simp only [Bool.and_eq_true, beq_iff_eq, decide_eq_true_eq]
      simp only at hc
      exact ⟨hc.1, by omega, by omega⟩⟩
theorem adK31 {r : Nat} {h h' : zH} (hm : sMd ((3, 3, 10) :: adM31 r) h h') : ∀ q j, ¬ (q = 3 ∨ (q = 31 ∧ j = 3) ∨ (q = 32 ∧ r * 2 ≤ j ∧ j < r * 2 + 2)) → pI h' q j = pI h q j := fun q j hn => pI_md hm (by
  cases hc : smem ((3, 3, 10) :: adM31 r) q j with
  | false => rfl
  | true =>
    obtain ⟨t, ht, hc⟩ := List.any_eq_true.mp hc
    simp only [adM31, List.mem_cons, List.not_mem_nil, or_false] at ht
    simp only [Bool.and_eq_true, beq_iff_eq, decide_eq_true_eq] at hc
    rcases ht with rfl | rfl | rfl <;> simp only at hc <;> omega)
theorem adS33 {r : Nat} (hlt : r < 10) : ∀ q k, smem ((3, 3, 10) :: adM33 r) q k = true → smem (cMdL 26) q k = true := fun q k hm => by
  obtain ⟨t, ht, hc⟩ := List.any_eq_true.mp hm
  simp only [adM33, List.mem_cons, List.not_mem_nil, or_false] at ht
  simp only [Bool.and_eq_true, beq_iff_eq, decide_eq_true_eq] at hc
  rcases ht with rfl | rfl | rfl
  · exact List.any_eq_true.mpr ⟨(3, 3, 10), by decide, by
      simp only [Bool.and_eq_true, beq_iff_eq, decide_eq_true_eq]
      exact hc⟩
  · exact List.any_eq_true.mpr ⟨(33, 0, 100), by decide, by
      simp only [Bool.and_eq_true, beq_iff_eq, decide_eq_true_eq]
      simp only at hc
      exact ⟨hc.1, by omega, by omega⟩⟩
  · exact List.any_eq_true.mpr ⟨(34, 0, 100), by decide, by
      simp only [Bool.and_eq_true, beq_iff_eq, decide_eq_true_eq]
      simp only at hc
      exact ⟨hc.1, by omega, by omega⟩⟩
theorem adK33 {r : Nat} {h h' : zH} (hm : sMd ((3, 3, 10) :: adM33 r) h h') : ∀ q j, ¬ (q = 3 ∨ (q = 33 ∧ j = 3) ∨ (q = 34 ∧ r * 4 ≤ j ∧ j < r * 4 + 4)) → pI h' q j = pI h q j := fun q j hn => pI_md hm (by
  cases hc : smem ((3, 3, 10) :: adM33 r) q j with
  | false => rfl
  | true =>
    obtain ⟨t, ht, hc⟩ := List.any_eq_true.mp hc
    simp only [adM33, List.mem_cons, List.not_mem_nil, or_false] at ht
    simp only [Bool.and_eq_true, beq_iff_eq, decide_eq_true_eq] at hc
    rcases ht with rfl | rfl | rfl <;> simp only at hc <;> omega)
theorem adS35 {r : Nat} (hlt : r < 6) : ∀ q k, smem ((3, 3, 10) :: adM35 r) q k = true → smem (cMdL 26) q k = true := fun q k hm => by
  obtain ⟨t, ht, hc⟩ := List.any_eq_true.mp hm
  simp only [adM35, List.mem_cons, List.not_mem_nil, or_false] at ht
  simp only [Bool.and_eq_true, beq_iff_eq, decide_eq_true_eq] at hc
  rcases ht with rfl | rfl | rfl
  · exact List.any_eq_true.mpr ⟨(3, 3, 10), by decide, by
      simp only [Bool.and_eq_true, beq_iff_eq, decide_eq_true_eq]
      exact hc⟩
  · exact List.any_eq_true.mpr ⟨(35, 0, 100), by decide, by
      simp only [Bool.and_eq_true, beq_iff_eq, decide_eq_true_eq]
      simp only at hc
      exact ⟨hc.1, by omega, by omega⟩⟩
  · exact List.any_eq_true.mpr ⟨(36, 0, 100), by decide, by
      simp only [Bool.and_eq_true, beq_iff_eq, decide_eq_true_eq]
      simp only at hc
      exact ⟨hc.1, by omega, by omega⟩⟩
theorem adK35 {r : Nat} {h h' : zH} (hm : sMd ((3, 3, 10) :: adM35 r) h h') : ∀ q j, ¬ (q = 3 ∨ (q = 35 ∧ j = 3) ∨ (q = 36 ∧ r * 1 ≤ j ∧ j < r * 1 + 1)) → pI h' q j = pI h q j := fun q j hn => pI_md hm (by
  cases hc : smem ((3, 3, 10) :: adM35 r) q j with
  | false => rfl
  | true =>
    obtain ⟨t, ht, hc⟩ := List.any_eq_true.mp hc
    simp only [adM35, List.mem_cons, List.not_mem_nil, or_false] at ht
    simp only [Bool.and_eq_true, beq_iff_eq, decide_eq_true_eq] at hc
    rcases ht with rfl | rfl | rfl <;> simp only at hc <;> omega)
set_option maxRecDepth 100000 in
set_option maxHeartbeats 4000000 in
theorem rMan9_b {l : Launch} {Γ : zG} {d : Nat} {Kp : Option Value → zH → Prop} {h : zH} (hs : h.1 = zshC) (hr0 : h.2.2.2 9 0 = some 10) (hX : zX l Γ false (d + 1) zh40 (zMQ' Γ false zh40 Kp) 0 0 5 [(0, .ref 2), (1, .ref 9)] [.ref 10, .ref 2] h) : zX l Γ false (d + 1) zh40 (zMQ' Γ false zh40 Kp) 0 0 0 [(0, .ref 2), (1, .ref 9)] [] h := by
  obtain ⟨s, I, Lg, P⟩ := h
  have hs : s = zshC := hs
  subst hs
  have hX : zX l Γ false (d + 1) zh40 (zMQ' Γ false zh40 Kp) 0 0 5 [(0, .ref 2), (1, .ref 9)] [.ref 10, .ref 2] (zshC, I, Lg, P) := hX
  have eP := zPn (P := P) hr0
  rw [eP] at hX ⊢
  refine zpcF (M := (zh40, zc40)) 40 5 rfl zckm40 (fun _ _ _ _ h => h) ?_
  exact hX
set_option maxRecDepth 100000 in
set_option maxHeartbeats 4000000 in
theorem rMan9_a18 {l : Launch} {Γ : zG} {d : Nat} {Kp : Option Value → zH → Prop} {h : zH} (hs : h.1 = zshC) (hr0 : h.2.2.2 2 2 = some 8) (hr1 : h.2.2.2 9 0 = some 10) (hX : zX l Γ false (d + 1) zh40 (zMQ' Γ false zh40 Kp) 0 0 18 [(0, .ref 2), (1, .ref 9)] [.ref 10, .ref 2, .int (Int32.ofInt 0), .ref 8] h) : zX l Γ false (d + 1) zh40 (zMQ' Γ false zh40 Kp) 0 0 8 [(0, .ref 2), (1, .ref 9)] [] h := by
  obtain ⟨s, I, Lg, P⟩ := h
  have hs : s = zshC := hs
  subst hs
  have hX : zX l Γ false (d + 1) zh40 (zMQ' Γ false zh40 Kp) 0 0 18 [(0, .ref 2), (1, .ref 9)] [.ref 10, .ref 2, .int (Int32.ofInt 0), .ref 8] (zshC, I, Lg, P) := hX
  have eP := sP_cS (P := P) hr0 hr1
  rw [eP] at hX ⊢
  refine zpcF (M := (zh40, zc40)) 40 18 rfl zckm40 (fun _ _ _ _ h => h) ?_
  exact hX
set_option maxRecDepth 100000 in
set_option maxHeartbeats 4000000 in
theorem rMan9_s18 {l : Launch} {Γ : zG} {d : Nat} {Kp : Option Value → zH → Prop} {h : zH} {v : Int32} (hs : h.1 = zshC)  (hX : zX l Γ false (d + 1) zh40 (zMQ' Γ false zh40 Kp) 0 0 22 [(0, .ref 2), (1, .ref 9)] [] (h.1, zu2 h.2.1 8 0 v, h.2.2)) : zX l Γ false (d + 1) zh40 (zMQ' Γ false zh40 Kp) 0 0 21 [(0, .ref 2), (1, .ref 9)] [.int v, .int (Int32.ofInt 0), .ref 8] h := by
  obtain ⟨s, I, Lg, P⟩ := h
  have hs : s = zshC := hs
  subst hs
  have hX : zX l Γ false (d + 1) zh40 (zMQ' Γ false zh40 Kp) 0 0 22 [(0, .ref 2), (1, .ref 9)] [] (zshC, zu2 I 8 0 v, Lg, P) := hX
  refine zpcF (M := (zh40, zc40)) 40 22 rfl zckm40 (fun _ _ _ _ h => h) ?_
  exact hX
set_option maxRecDepth 100000 in
set_option maxHeartbeats 4000000 in
theorem rMan9_f {l : Launch} {Γ : zG} {d : Nat} {Kp : Option Value → zH → Prop} {h : zH} (hs : h.1 = zshC) (hr0 : h.2.2.2 9 0 = some 10) (hX : zX l Γ false (d + 1) zh40 (zMQ' Γ false zh40 Kp) 0 0 27 [(0, .ref 2), (1, .ref 9)] [.ref 10, .ref 2] h) : zX l Γ false (d + 1) zh40 (zMQ' Γ false zh40 Kp) 0 0 22 [(0, .ref 2), (1, .ref 9)] [] h := by
  obtain ⟨s, I, Lg, P⟩ := h
  have hs : s = zshC := hs
  subst hs
  have hX : zX l Γ false (d + 1) zh40 (zMQ' Γ false zh40 Kp) 0 0 27 [(0, .ref 2), (1, .ref 9)] [.ref 10, .ref 2] (zshC, I, Lg, P) := hX
  have eP := zPn (P := P) hr0
  rw [eP] at hX ⊢
  refine zpcF (M := (zh40, zc40)) 40 27 rfl zckm40 (fun _ _ _ _ h => h) ?_
  exact hX
set_option maxRecDepth 100000 in
set_option maxHeartbeats 4000000 in
theorem rMan9_r {l : Launch} {Γ : zG} {d : Nat} {Kp : Option Value → zH → Prop} {h : zH} (hK : Kp none h) : zX l Γ false (d + 1) zh40 (zMQ' Γ false zh40 Kp) 0 0 30 [(0, .ref 2), (1, .ref 9)] [] h := by
  refine zpcF (M := (zh40, zc40)) 40 1000 rfl zckm40 (fun _ _ _ _ h => h) ?_
  exact hK
theorem zv_c40_5 : zcvB 40 5 1 1 41 = true := by decide +kernel
theorem zv_c40_18 : zcvB 40 18 1 1 44 = true := by decide +kernel
theorem zv_c40_27 : zcvB 40 27 1 1 47 = true := by decide +kernel
theorem zManC9 {l : Launch} {Γ : zG} {d : Nat} {D : zD} {N : zN} {S : zS} {q : Nat} {h : zH} (hi : sInv swC h) (hT : cTk D q h) (h0 : pI h 3 8 = 0) (hR : RC 9 N S h) {KF : zKF} {KO : zKO} (W : wMan D N S q KF (fun N S q => wEnd D q KF (KO N S))) : zSem l Γ false (d + 6) (zhd 40) [.ref 2, .ref 9] h (zCP D 9 KF KO h) := by
  have M0 : sMd (cMdL 9) h h := sMd.rf
  unfold wMan at W
  show zSem l Γ false (d + 5 + 1) zh40 _ _ _
  refine zbody (by decide +kernel) (by decide) ?_
  refine rMan9_b (d := d + 5) hi.1 (hi.r1 (q := 9) (k := 0) (r := 10) (by decide +kernel)) ?_
  refine zcallR (mi := 40) (as := [.ref 10]) (rest := []) (q0 := 2) zv_c40_5 rfl (by decide) (by rw [hi.1]; rfl) ?_
  refine (zBgn10 (d := d + 1) hi hT h0 (r := S 0) (hR.s (j := 0) (by decide))).mono ?_
  rintro rr h1 ⟨rfl, hi1, hm1, ⟨hfull, hf⟩ | ⟨hlt, z1, T1⟩⟩
  · rw [if_pos hfull] at W
    exact zflC (t := (40, 8)) (by decide) (by decide) hT.1.2.2.1 hi1 (M0.seq (hm1.sub (by decide +kernel))) W rfl (by decide) (by decide) hf
  rw [if_neg (by omega)] at W
  have M1 := M0.seq (hm1.sub (md := cMdL 9) (by decide +kernel))
  have R1 := hR.md hm1 rfl (by decide)
  refine rMan9_a18 (d := d + 5) hi1.1 (hi1.r1 (q := 2) (k := 2) (r := 8) (by decide +kernel)) (hi1.r1 (q := 9) (k := 0) (r := 10) (by decide +kernel)) ?_
  refine zcallR (mi := 40) (as := [.ref 10]) (rest := [.int (Int32.ofInt 0), .ref 8]) (q0 := 2) zv_c40_18 rfl (by decide) (by rw [hi1.1]; rfl) ?_
  have eS1 : pI h1 10 3 = (S 0 : Int) := R1.s (j := 0) (by decide)
  have bS1 : pI h1 10 3 ≤ 5 := by
    have g := hi1.2.2.1 10 3
    rw [show sIv swC 10 3 = (0, 5) from by decide +kernel] at g
    exact g.2
  refine (zNewC (d := d + 1) (R := 10) (f := N 0) (r := S 0) hi1 T1 z1 (by rw [hi1.1]; rfl) (fun v => (zfindC10 (d := d + 2) hi1 (v := v) (r := S 0) eS1 (by omega)).mono (fun rr h' hh => ⟨hh.1, hh.2.choose, hh.2.choose_spec.1, hh.2.choose_spec.2.trans (fIx_eq (fun i hlt => by rw [Nat.mul_one]; exact R1.n0 hlt))⟩))).mono ?_
  rintro rr h2 ⟨hi2, hm2, x2, rfl, hw⟩
  refine rMan9_s18 (d := d + 5) hi2.1 ?_
  obtain ⟨hi3, hm3, nv, no⟩ := c8_i hi2 (c := 0) (by decide) x2
  have M3 := (M1.seq (hm2.sub (by decide +kernel))).seq (hm3.sub (by decide +kernel))
  rcases hw _ _ W with ⟨cc, p, hF, c1, c2, hf⟩ | ⟨v3, q3, W, ev, z3, T3⟩
  · exact zflC (t := (40, 22)) (by decide) (by decide) hT.1.2.2.1 hi3 M3 hF rfl c1 c2 (hf.md hm3 rfl rfl)
  have R3 := (R1.md hm2 rfl (by decide)).md hm3 rfl (by decide)
  replace z3 := (pI_md hm3 rfl).trans z3
  replace T3 := T3.md hm3 rfl rfl
  have nr3 := nv.trans ev
  generalize hg3 : (h2.1, zu2 h2.2.1 8 0 x2, h2.2.2) = h3 at *
  refine rMan9_f (d := d + 5) hi3.1 (hi3.r1 (q := 9) (k := 0) (r := 10) (by decide +kernel)) ?_
  refine zcallR (mi := 40) (as := [.ref 10]) (rest := []) (q0 := 2) zv_c40_27 rfl (by decide) (by rw [hi3.1]; rfl) ?_
  refine (zFin10 (d := d) hi3 T3 z3 (r := S 0) (R3.s (j := 0) (by decide)) hlt).mono ?_
  rintro rr h' ⟨rfl, hi', hw⟩
  refine rMan9_r (d := d + 5) ?_
  rcases hw _ _ W with ⟨hm', cc, p, hF, c1, c2, hf⟩ | ⟨hm', ⟨q', W', z', T'⟩, g3, gc⟩
  · exact ⟨rfl, hi', M3.seq (hm'.sub (by decide +kernel)), Or.inl ⟨cc, p, hF, c1, c2, hf⟩⟩
  · refine ⟨rfl, hi', M3.tr hm' (adS10 hlt), Or.inr ⟨_, _, _, W', z', T', ?_⟩⟩
    exact R3.add (k := 0) (r := S 0) (by decide) (by decide) rfl (adK10 hm') g3 (fun a i g => nUc_ne (fun e => g ⟨e.1, by rw [e.2]; decide, by rw [e.2]; decide⟩)) (fun c hc => (gc c hc).trans (nM_at (f := pI h3 8) nr3 c hc))
set_option maxRecDepth 100000 in
set_option maxHeartbeats 4000000 in
theorem rMan26_b {l : Launch} {Γ : zG} {d : Nat} {Kp : Option Value → zH → Prop} {h : zH} (hs : h.1 = zshC) (hr0 : h.2.2.2 26 0 = some 27) (hX : zX l Γ false (d + 1) zh40 (zMQ' Γ false zh40 Kp) 0 0 5 [(0, .ref 2), (1, .ref 26)] [.ref 27, .ref 2] h) : zX l Γ false (d + 1) zh40 (zMQ' Γ false zh40 Kp) 0 0 0 [(0, .ref 2), (1, .ref 26)] [] h := by
  obtain ⟨s, I, Lg, P⟩ := h
  have hs : s = zshC := hs
  subst hs
  have hX : zX l Γ false (d + 1) zh40 (zMQ' Γ false zh40 Kp) 0 0 5 [(0, .ref 2), (1, .ref 26)] [.ref 27, .ref 2] (zshC, I, Lg, P) := hX
  have eP := zPn (P := P) hr0
  rw [eP] at hX ⊢
  refine zpcF (M := (zh40, zc40)) 40 5 rfl zckm40 (fun _ _ _ _ h => h) ?_
  exact hX
set_option maxRecDepth 100000 in
set_option maxHeartbeats 4000000 in
theorem rMan26_a18 {l : Launch} {Γ : zG} {d : Nat} {Kp : Option Value → zH → Prop} {h : zH} (hs : h.1 = zshC) (hr0 : h.2.2.2 2 2 = some 8) (hr1 : h.2.2.2 26 0 = some 27) (hX : zX l Γ false (d + 1) zh40 (zMQ' Γ false zh40 Kp) 0 0 18 [(0, .ref 2), (1, .ref 26)] [.ref 27, .ref 2, .int (Int32.ofInt 0), .ref 8] h) : zX l Γ false (d + 1) zh40 (zMQ' Γ false zh40 Kp) 0 0 8 [(0, .ref 2), (1, .ref 26)] [] h := by
  obtain ⟨s, I, Lg, P⟩ := h
  have hs : s = zshC := hs
  subst hs
  have hX : zX l Γ false (d + 1) zh40 (zMQ' Γ false zh40 Kp) 0 0 18 [(0, .ref 2), (1, .ref 26)] [.ref 27, .ref 2, .int (Int32.ofInt 0), .ref 8] (zshC, I, Lg, P) := hX
  have eP := sP_cS (P := P) hr0 hr1
  rw [eP] at hX ⊢
  refine zpcF (M := (zh40, zc40)) 40 18 rfl zckm40 (fun _ _ _ _ h => h) ?_
  exact hX
set_option maxRecDepth 100000 in
set_option maxHeartbeats 4000000 in
theorem rMan26_s18 {l : Launch} {Γ : zG} {d : Nat} {Kp : Option Value → zH → Prop} {h : zH} {v : Int32} (hs : h.1 = zshC)  (hX : zX l Γ false (d + 1) zh40 (zMQ' Γ false zh40 Kp) 0 0 22 [(0, .ref 2), (1, .ref 26)] [] (h.1, zu2 h.2.1 8 0 v, h.2.2)) : zX l Γ false (d + 1) zh40 (zMQ' Γ false zh40 Kp) 0 0 21 [(0, .ref 2), (1, .ref 26)] [.int v, .int (Int32.ofInt 0), .ref 8] h := by
  obtain ⟨s, I, Lg, P⟩ := h
  have hs : s = zshC := hs
  subst hs
  have hX : zX l Γ false (d + 1) zh40 (zMQ' Γ false zh40 Kp) 0 0 22 [(0, .ref 2), (1, .ref 26)] [] (zshC, zu2 I 8 0 v, Lg, P) := hX
  refine zpcF (M := (zh40, zc40)) 40 22 rfl zckm40 (fun _ _ _ _ h => h) ?_
  exact hX
set_option maxRecDepth 100000 in
set_option maxHeartbeats 4000000 in
theorem rMan26_f {l : Launch} {Γ : zG} {d : Nat} {Kp : Option Value → zH → Prop} {h : zH} (hs : h.1 = zshC) (hr0 : h.2.2.2 26 0 = some 27) (hX : zX l Γ false (d + 1) zh40 (zMQ' Γ false zh40 Kp) 0 0 27 [(0, .ref 2), (1, .ref 26)] [.ref 27, .ref 2] h) : zX l Γ false (d + 1) zh40 (zMQ' Γ false zh40 Kp) 0 0 22 [(0, .ref 2), (1, .ref 26)] [] h := by
  obtain ⟨s, I, Lg, P⟩ := h
  have hs : s = zshC := hs
  subst hs
  have hX : zX l Γ false (d + 1) zh40 (zMQ' Γ false zh40 Kp) 0 0 27 [(0, .ref 2), (1, .ref 26)] [.ref 27, .ref 2] (zshC, I, Lg, P) := hX
  have eP := zPn (P := P) hr0
  rw [eP] at hX ⊢
  refine zpcF (M := (zh40, zc40)) 40 27 rfl zckm40 (fun _ _ _ _ h => h) ?_
  exact hX
set_option maxRecDepth 100000 in
set_option maxHeartbeats 4000000 in
theorem rMan26_r {l : Launch} {Γ : zG} {d : Nat} {Kp : Option Value → zH → Prop} {h : zH} (hK : Kp none h) : zX l Γ false (d + 1) zh40 (zMQ' Γ false zh40 Kp) 0 0 30 [(0, .ref 2), (1, .ref 26)] [] h := by
  refine zpcF (M := (zh40, zc40)) 40 1000 rfl zckm40 (fun _ _ _ _ h => h) ?_
  exact hK
theorem zManC26 {l : Launch} {Γ : zG} {d : Nat} {D : zD} {N : zN} {S : zS} {q : Nat} {h : zH} (hi : sInv swC h) (hT : cTk D q h) (h0 : pI h 3 8 = 0) (hR : RC 26 N S h) {KF : zKF} {KO : zKO} (W : wMan D N S q KF (fun N S q => wEnd D q KF (KO N S))) : zSem l Γ false (d + 6) (zhd 40) [.ref 2, .ref 26] h (zCP D 26 KF KO h) := by
  have M0 : sMd (cMdL 26) h h := sMd.rf
  unfold wMan at W
  show zSem l Γ false (d + 5 + 1) zh40 _ _ _
  refine zbody (by decide +kernel) (by decide) ?_
  refine rMan26_b (d := d + 5) hi.1 (hi.r1 (q := 26) (k := 0) (r := 27) (by decide +kernel)) ?_
  refine zcallR (mi := 40) (as := [.ref 27]) (rest := []) (q0 := 2) zv_c40_5 rfl (by decide) (by rw [hi.1]; rfl) ?_
  refine (zBgn27 (d := d + 1) hi hT h0 (r := S 0) (hR.s (j := 0) (by decide))).mono ?_
  rintro rr h1 ⟨rfl, hi1, hm1, ⟨hfull, hf⟩ | ⟨hlt, z1, T1⟩⟩
  · rw [if_pos hfull] at W
    exact zflC (t := (40, 8)) (by decide) (by decide) hT.1.2.2.1 hi1 (M0.seq (hm1.sub (by decide +kernel))) W rfl (by decide) (by decide) hf
  rw [if_neg (by omega)] at W
  have M1 := M0.seq (hm1.sub (md := cMdL 26) (by decide +kernel))
  have R1 := hR.md hm1 rfl (by decide)
  refine rMan26_a18 (d := d + 5) hi1.1 (hi1.r1 (q := 2) (k := 2) (r := 8) (by decide +kernel)) (hi1.r1 (q := 26) (k := 0) (r := 27) (by decide +kernel)) ?_
  refine zcallR (mi := 40) (as := [.ref 27]) (rest := [.int (Int32.ofInt 0), .ref 8]) (q0 := 2) zv_c40_18 rfl (by decide) (by rw [hi1.1]; rfl) ?_
  have eS1 : pI h1 27 3 = (S 0 : Int) := R1.s (j := 0) (by decide)
  have bS1 : pI h1 27 3 ≤ 5 := by
    have g := hi1.2.2.1 27 3
    rw [show sIv swC 27 3 = (0, 5) from by decide +kernel] at g
    exact g.2
  refine (zNewC (d := d + 1) (R := 27) (f := N 0) (r := S 0) hi1 T1 z1 (by rw [hi1.1]; rfl) (fun v => (zfindC27 (d := d + 2) hi1 (v := v) (r := S 0) eS1 (by omega)).mono (fun rr h' hh => ⟨hh.1, hh.2.choose, hh.2.choose_spec.1, hh.2.choose_spec.2.trans (fIx_eq (fun i hlt => by rw [Nat.mul_one]; exact R1.n0 hlt))⟩))).mono ?_
  rintro rr h2 ⟨hi2, hm2, x2, rfl, hw⟩
  refine rMan26_s18 (d := d + 5) hi2.1 ?_
  obtain ⟨hi3, hm3, nv, no⟩ := c8_i hi2 (c := 0) (by decide) x2
  have M3 := (M1.seq (hm2.sub (by decide +kernel))).seq (hm3.sub (by decide +kernel))
  rcases hw _ _ W with ⟨cc, p, hF, c1, c2, hf⟩ | ⟨v3, q3, W, ev, z3, T3⟩
  · exact zflC (t := (40, 22)) (by decide) (by decide) hT.1.2.2.1 hi3 M3 hF rfl c1 c2 (hf.md hm3 rfl rfl)
  have R3 := (R1.md hm2 rfl (by decide)).md hm3 rfl (by decide)
  replace z3 := (pI_md hm3 rfl).trans z3
  replace T3 := T3.md hm3 rfl rfl
  have nr3 := nv.trans ev
  generalize hg3 : (h2.1, zu2 h2.2.1 8 0 x2, h2.2.2) = h3 at *
  refine rMan26_f (d := d + 5) hi3.1 (hi3.r1 (q := 26) (k := 0) (r := 27) (by decide +kernel)) ?_
  refine zcallR (mi := 40) (as := [.ref 27]) (rest := []) (q0 := 2) zv_c40_27 rfl (by decide) (by rw [hi3.1]; rfl) ?_
  refine (zFin27 (d := d) hi3 T3 z3 (r := S 0) (R3.s (j := 0) (by decide)) hlt).mono ?_
  rintro rr h' ⟨rfl, hi', hw⟩
  refine rMan26_r (d := d + 5) ?_
  rcases hw _ _ W with ⟨hm', cc, p, hF, c1, c2, hf⟩ | ⟨hm', ⟨q', W', z', T'⟩, g3, gc⟩
  · exact ⟨rfl, hi', M3.seq (hm'.sub (by decide +kernel)), Or.inl ⟨cc, p, hF, c1, c2, hf⟩⟩
  · refine ⟨rfl, hi', M3.tr hm' (adS27 hlt), Or.inr ⟨_, _, _, W', z', T', ?_⟩⟩
    exact R3.add (k := 0) (r := S 0) (by decide) (by decide) rfl (adK27 hm') g3 (fun a i g => nUc_ne (fun e => g ⟨e.1, by rw [e.2]; decide, by rw [e.2]; decide⟩)) (fun c hc => (gc c hc).trans (nM_at (f := pI h3 8) nr3 c hc))
set_option maxRecDepth 100000 in
set_option maxHeartbeats 4000000 in
theorem rGls9_b {l : Launch} {Γ : zG} {d : Nat} {Kp : Option Value → zH → Prop} {h : zH} (hs : h.1 = zshC) (hr0 : h.2.2.2 9 1 = some 12) (hX : zX l Γ false (d + 1) zh50 (zMQ' Γ false zh50 Kp) 0 0 5 [(0, .ref 2), (1, .ref 9)] [.ref 12, .ref 2] h) : zX l Γ false (d + 1) zh50 (zMQ' Γ false zh50 Kp) 0 0 0 [(0, .ref 2), (1, .ref 9)] [] h := by
  obtain ⟨s, I, Lg, P⟩ := h
  have hs : s = zshC := hs
  subst hs
  have hX : zX l Γ false (d + 1) zh50 (zMQ' Γ false zh50 Kp) 0 0 5 [(0, .ref 2), (1, .ref 9)] [.ref 12, .ref 2] (zshC, I, Lg, P) := hX
  have eP := zPn (P := P) hr0
  rw [eP] at hX ⊢
  refine zpcF (M := (zh50, zc50)) 50 5 rfl zckm50 (fun _ _ _ _ h => h) ?_
  exact hX
set_option maxRecDepth 100000 in
set_option maxHeartbeats 4000000 in
theorem rGls9_a18 {l : Launch} {Γ : zG} {d : Nat} {Kp : Option Value → zH → Prop} {h : zH} (hs : h.1 = zshC) (hr0 : h.2.2.2 2 2 = some 8) (hr1 : h.2.2.2 9 1 = some 12) (hX : zX l Γ false (d + 1) zh50 (zMQ' Γ false zh50 Kp) 0 0 18 [(0, .ref 2), (1, .ref 9)] [.ref 12, .ref 2, .int (Int32.ofInt 0), .ref 8] h) : zX l Γ false (d + 1) zh50 (zMQ' Γ false zh50 Kp) 0 0 8 [(0, .ref 2), (1, .ref 9)] [] h := by
  obtain ⟨s, I, Lg, P⟩ := h
  have hs : s = zshC := hs
  subst hs
  have hX : zX l Γ false (d + 1) zh50 (zMQ' Γ false zh50 Kp) 0 0 18 [(0, .ref 2), (1, .ref 9)] [.ref 12, .ref 2, .int (Int32.ofInt 0), .ref 8] (zshC, I, Lg, P) := hX
  have eP := sP_cS (P := P) hr0 hr1
  rw [eP] at hX ⊢
  refine zpcF (M := (zh50, zc50)) 50 18 rfl zckm50 (fun _ _ _ _ h => h) ?_
  exact hX
set_option maxRecDepth 100000 in
set_option maxHeartbeats 4000000 in
theorem rGls9_s18 {l : Launch} {Γ : zG} {d : Nat} {Kp : Option Value → zH → Prop} {h : zH} {v : Int32} (hs : h.1 = zshC)  (hX : zX l Γ false (d + 1) zh50 (zMQ' Γ false zh50 Kp) 0 0 22 [(0, .ref 2), (1, .ref 9)] [] (h.1, zu2 h.2.1 8 0 v, h.2.2)) : zX l Γ false (d + 1) zh50 (zMQ' Γ false zh50 Kp) 0 0 21 [(0, .ref 2), (1, .ref 9)] [.int v, .int (Int32.ofInt 0), .ref 8] h := by
  obtain ⟨s, I, Lg, P⟩ := h
  have hs : s = zshC := hs
  subst hs
  have hX : zX l Γ false (d + 1) zh50 (zMQ' Γ false zh50 Kp) 0 0 22 [(0, .ref 2), (1, .ref 9)] [] (zshC, zu2 I 8 0 v, Lg, P) := hX
  refine zpcF (M := (zh50, zc50)) 50 22 rfl zckm50 (fun _ _ _ _ h => h) ?_
  exact hX
set_option maxRecDepth 100000 in
set_option maxHeartbeats 4000000 in
theorem rGls9_a32 {l : Launch} {Γ : zG} {d : Nat} {Kp : Option Value → zH → Prop} {h : zH} (hs : h.1 = zshC) (hr0 : h.2.2.2 2 2 = some 8) (hr1 : h.2.2.2 9 0 = some 10) (hX : zX l Γ false (d + 1) zh50 (zMQ' Γ false zh50 Kp) 0 0 32 [(0, .ref 2), (1, .ref 9)] [.ref 10, .ref 2, .int (Int32.ofInt 1), .ref 8] h) : zX l Γ false (d + 1) zh50 (zMQ' Γ false zh50 Kp) 0 0 22 [(0, .ref 2), (1, .ref 9)] [] h := by
  obtain ⟨s, I, Lg, P⟩ := h
  have hs : s = zshC := hs
  subst hs
  have hX : zX l Γ false (d + 1) zh50 (zMQ' Γ false zh50 Kp) 0 0 32 [(0, .ref 2), (1, .ref 9)] [.ref 10, .ref 2, .int (Int32.ofInt 1), .ref 8] (zshC, I, Lg, P) := hX
  have eP := sP_cS (P := P) hr0 hr1
  rw [eP] at hX ⊢
  refine zpcF (M := (zh50, zc50)) 50 32 rfl zckm50 (fun _ _ _ _ h => h) ?_
  exact hX
set_option maxRecDepth 100000 in
set_option maxHeartbeats 4000000 in
theorem rGls9_s32 {l : Launch} {Γ : zG} {d : Nat} {Kp : Option Value → zH → Prop} {h : zH} {v : Int32} (hs : h.1 = zshC)  (hX : zX l Γ false (d + 1) zh50 (zMQ' Γ false zh50 Kp) 0 0 36 [(0, .ref 2), (1, .ref 9)] [] (h.1, zu2 h.2.1 8 1 v, h.2.2)) : zX l Γ false (d + 1) zh50 (zMQ' Γ false zh50 Kp) 0 0 35 [(0, .ref 2), (1, .ref 9)] [.int v, .int (Int32.ofInt 1), .ref 8] h := by
  obtain ⟨s, I, Lg, P⟩ := h
  have hs : s = zshC := hs
  subst hs
  have hX : zX l Γ false (d + 1) zh50 (zMQ' Γ false zh50 Kp) 0 0 36 [(0, .ref 2), (1, .ref 9)] [] (zshC, zu2 I 8 1 v, Lg, P) := hX
  refine zpcF (M := (zh50, zc50)) 50 36 rfl zckm50 (fun _ _ _ _ h => h) ?_
  exact hX
set_option maxRecDepth 100000 in
set_option maxHeartbeats 4000000 in
theorem rGls9_a45 {l : Launch} {Γ : zG} {d : Nat} {Kp : Option Value → zH → Prop} {h : zH} (hs : h.1 = zshC) (hr0 : h.2.2.2 2 2 = some 8) (hX : zX l Γ false (d + 1) zh50 (zMQ' Γ false zh50 Kp) 0 0 45 [(0, .ref 2), (1, .ref 9)] [.int (Int8.ofInt 99).toInt32, .int (Int32.ofInt 0), .ref 2, .int (Int32.ofInt 2), .ref 8] h) : zX l Γ false (d + 1) zh50 (zMQ' Γ false zh50 Kp) 0 0 36 [(0, .ref 2), (1, .ref 9)] [] h := by
  obtain ⟨s, I, Lg, P⟩ := h
  have hs : s = zshC := hs
  subst hs
  have hX : zX l Γ false (d + 1) zh50 (zMQ' Γ false zh50 Kp) 0 0 45 [(0, .ref 2), (1, .ref 9)] [.int (Int8.ofInt 99).toInt32, .int (Int32.ofInt 0), .ref 2, .int (Int32.ofInt 2), .ref 8] (zshC, I, Lg, P) := hX
  have eP := zPn (P := P) hr0
  rw [eP] at hX ⊢
  refine zpcF (M := (zh50, zc50)) 50 45 rfl zckm50 (fun _ _ _ _ h => h) ?_
  exact hX
set_option maxRecDepth 100000 in
set_option maxHeartbeats 4000000 in
theorem rGls9_s45 {l : Launch} {Γ : zG} {d : Nat} {Kp : Option Value → zH → Prop} {h : zH} {v : Int32} (hs : h.1 = zshC)  (hX : zX l Γ false (d + 1) zh50 (zMQ' Γ false zh50 Kp) 0 0 49 [(0, .ref 2), (1, .ref 9)] [] (h.1, zu2 h.2.1 8 2 v, h.2.2)) : zX l Γ false (d + 1) zh50 (zMQ' Γ false zh50 Kp) 0 0 48 [(0, .ref 2), (1, .ref 9)] [.int v, .int (Int32.ofInt 2), .ref 8] h := by
  obtain ⟨s, I, Lg, P⟩ := h
  have hs : s = zshC := hs
  subst hs
  have hX : zX l Γ false (d + 1) zh50 (zMQ' Γ false zh50 Kp) 0 0 49 [(0, .ref 2), (1, .ref 9)] [] (zshC, zu2 I 8 2 v, Lg, P) := hX
  refine zpcF (M := (zh50, zc50)) 50 49 rfl zckm50 (fun _ _ _ _ h => h) ?_
  exact hX
set_option maxRecDepth 100000 in
set_option maxHeartbeats 4000000 in
theorem rGls9_a58 {l : Launch} {Γ : zG} {d : Nat} {Kp : Option Value → zH → Prop} {h : zH} (hs : h.1 = zshC) (hr0 : h.2.2.2 2 2 = some 8) (hX : zX l Γ false (d + 1) zh50 (zMQ' Γ false zh50 Kp) 0 0 58 [(0, .ref 2), (1, .ref 9)] [.int (Int8.ofInt 99).toInt32, .int (Int32.ofInt 0), .ref 2, .int (Int32.ofInt 3), .ref 8] h) : zX l Γ false (d + 1) zh50 (zMQ' Γ false zh50 Kp) 0 0 49 [(0, .ref 2), (1, .ref 9)] [] h := by
  obtain ⟨s, I, Lg, P⟩ := h
  have hs : s = zshC := hs
  subst hs
  have hX : zX l Γ false (d + 1) zh50 (zMQ' Γ false zh50 Kp) 0 0 58 [(0, .ref 2), (1, .ref 9)] [.int (Int8.ofInt 99).toInt32, .int (Int32.ofInt 0), .ref 2, .int (Int32.ofInt 3), .ref 8] (zshC, I, Lg, P) := hX
  have eP := zPn (P := P) hr0
  rw [eP] at hX ⊢
  refine zpcF (M := (zh50, zc50)) 50 58 rfl zckm50 (fun _ _ _ _ h => h) ?_
  exact hX
set_option maxRecDepth 100000 in
set_option maxHeartbeats 4000000 in
theorem rGls9_s58 {l : Launch} {Γ : zG} {d : Nat} {Kp : Option Value → zH → Prop} {h : zH} {v : Int32} (hs : h.1 = zshC)  (hX : zX l Γ false (d + 1) zh50 (zMQ' Γ false zh50 Kp) 0 0 62 [(0, .ref 2), (1, .ref 9)] [] (h.1, zu2 h.2.1 8 3 v, h.2.2)) : zX l Γ false (d + 1) zh50 (zMQ' Γ false zh50 Kp) 0 0 61 [(0, .ref 2), (1, .ref 9)] [.int v, .int (Int32.ofInt 3), .ref 8] h := by
  obtain ⟨s, I, Lg, P⟩ := h
  have hs : s = zshC := hs
  subst hs
  have hX : zX l Γ false (d + 1) zh50 (zMQ' Γ false zh50 Kp) 0 0 62 [(0, .ref 2), (1, .ref 9)] [] (zshC, zu2 I 8 3 v, Lg, P) := hX
  refine zpcF (M := (zh50, zc50)) 50 62 rfl zckm50 (fun _ _ _ _ h => h) ?_
  exact hX
set_option maxRecDepth 100000 in
set_option maxHeartbeats 4000000 in
theorem rGls9_a71 {l : Launch} {Γ : zG} {d : Nat} {Kp : Option Value → zH → Prop} {h : zH} (hs : h.1 = zshC) (hr0 : h.2.2.2 2 2 = some 8) (hX : zX l Γ false (d + 1) zh50 (zMQ' Γ false zh50 Kp) 0 0 71 [(0, .ref 2), (1, .ref 9)] [.int (Int8.ofInt 9).toInt32, .int (Int32.ofInt 1), .ref 2, .int (Int32.ofInt 4), .ref 8] h) : zX l Γ false (d + 1) zh50 (zMQ' Γ false zh50 Kp) 0 0 62 [(0, .ref 2), (1, .ref 9)] [] h := by
  obtain ⟨s, I, Lg, P⟩ := h
  have hs : s = zshC := hs
  subst hs
  have hX : zX l Γ false (d + 1) zh50 (zMQ' Γ false zh50 Kp) 0 0 71 [(0, .ref 2), (1, .ref 9)] [.int (Int8.ofInt 9).toInt32, .int (Int32.ofInt 1), .ref 2, .int (Int32.ofInt 4), .ref 8] (zshC, I, Lg, P) := hX
  have eP := zPn (P := P) hr0
  rw [eP] at hX ⊢
  refine zpcF (M := (zh50, zc50)) 50 71 rfl zckm50 (fun _ _ _ _ h => h) ?_
  exact hX
set_option maxRecDepth 100000 in
set_option maxHeartbeats 4000000 in
theorem rGls9_s71 {l : Launch} {Γ : zG} {d : Nat} {Kp : Option Value → zH → Prop} {h : zH} {v : Int32} (hs : h.1 = zshC)  (hX : zX l Γ false (d + 1) zh50 (zMQ' Γ false zh50 Kp) 0 0 75 [(0, .ref 2), (1, .ref 9)] [] (h.1, zu2 h.2.1 8 4 v, h.2.2)) : zX l Γ false (d + 1) zh50 (zMQ' Γ false zh50 Kp) 0 0 74 [(0, .ref 2), (1, .ref 9)] [.int v, .int (Int32.ofInt 4), .ref 8] h := by
  obtain ⟨s, I, Lg, P⟩ := h
  have hs : s = zshC := hs
  subst hs
  have hX : zX l Γ false (d + 1) zh50 (zMQ' Γ false zh50 Kp) 0 0 75 [(0, .ref 2), (1, .ref 9)] [] (zshC, zu2 I 8 4 v, Lg, P) := hX
  refine zpcF (M := (zh50, zc50)) 50 75 rfl zckm50 (fun _ _ _ _ h => h) ?_
  exact hX
set_option maxRecDepth 100000 in
set_option maxHeartbeats 4000000 in
theorem rGls9_a84 {l : Launch} {Γ : zG} {d : Nat} {Kp : Option Value → zH → Prop} {h : zH} (hs : h.1 = zshC) (hr0 : h.2.2.2 2 2 = some 8) (hX : zX l Γ false (d + 1) zh50 (zMQ' Γ false zh50 Kp) 0 0 84 [(0, .ref 2), (1, .ref 9)] [.int (Int8.ofInt 9).toInt32, .int (Int32.ofInt 1), .ref 2, .int (Int32.ofInt 5), .ref 8] h) : zX l Γ false (d + 1) zh50 (zMQ' Γ false zh50 Kp) 0 0 75 [(0, .ref 2), (1, .ref 9)] [] h := by
  obtain ⟨s, I, Lg, P⟩ := h
  have hs : s = zshC := hs
  subst hs
  have hX : zX l Γ false (d + 1) zh50 (zMQ' Γ false zh50 Kp) 0 0 84 [(0, .ref 2), (1, .ref 9)] [.int (Int8.ofInt 9).toInt32, .int (Int32.ofInt 1), .ref 2, .int (Int32.ofInt 5), .ref 8] (zshC, I, Lg, P) := hX
  have eP := zPn (P := P) hr0
  rw [eP] at hX ⊢
  refine zpcF (M := (zh50, zc50)) 50 84 rfl zckm50 (fun _ _ _ _ h => h) ?_
  exact hX
set_option maxRecDepth 100000 in
set_option maxHeartbeats 4000000 in
theorem rGls9_s84 {l : Launch} {Γ : zG} {d : Nat} {Kp : Option Value → zH → Prop} {h : zH} {v : Int32} (hs : h.1 = zshC)  (hX : zX l Γ false (d + 1) zh50 (zMQ' Γ false zh50 Kp) 0 0 88 [(0, .ref 2), (1, .ref 9)] [] (h.1, zu2 h.2.1 8 5 v, h.2.2)) : zX l Γ false (d + 1) zh50 (zMQ' Γ false zh50 Kp) 0 0 87 [(0, .ref 2), (1, .ref 9)] [.int v, .int (Int32.ofInt 5), .ref 8] h := by
  obtain ⟨s, I, Lg, P⟩ := h
  have hs : s = zshC := hs
  subst hs
  have hX : zX l Γ false (d + 1) zh50 (zMQ' Γ false zh50 Kp) 0 0 88 [(0, .ref 2), (1, .ref 9)] [] (zshC, zu2 I 8 5 v, Lg, P) := hX
  refine zpcF (M := (zh50, zc50)) 50 88 rfl zckm50 (fun _ _ _ _ h => h) ?_
  exact hX
set_option maxRecDepth 100000 in
set_option maxHeartbeats 4000000 in
theorem rGls9_f {l : Launch} {Γ : zG} {d : Nat} {Kp : Option Value → zH → Prop} {h : zH} (hs : h.1 = zshC) (hr0 : h.2.2.2 9 1 = some 12) (hX : zX l Γ false (d + 1) zh50 (zMQ' Γ false zh50 Kp) 0 0 93 [(0, .ref 2), (1, .ref 9)] [.ref 12, .ref 2] h) : zX l Γ false (d + 1) zh50 (zMQ' Γ false zh50 Kp) 0 0 88 [(0, .ref 2), (1, .ref 9)] [] h := by
  obtain ⟨s, I, Lg, P⟩ := h
  have hs : s = zshC := hs
  subst hs
  have hX : zX l Γ false (d + 1) zh50 (zMQ' Γ false zh50 Kp) 0 0 93 [(0, .ref 2), (1, .ref 9)] [.ref 12, .ref 2] (zshC, I, Lg, P) := hX
  have eP := zPn (P := P) hr0
  rw [eP] at hX ⊢
  refine zpcF (M := (zh50, zc50)) 50 93 rfl zckm50 (fun _ _ _ _ h => h) ?_
  exact hX
set_option maxRecDepth 100000 in
set_option maxHeartbeats 4000000 in
theorem rGls9_r {l : Launch} {Γ : zG} {d : Nat} {Kp : Option Value → zH → Prop} {h : zH} (hK : Kp none h) : zX l Γ false (d + 1) zh50 (zMQ' Γ false zh50 Kp) 0 0 96 [(0, .ref 2), (1, .ref 9)] [] h := by
  refine zpcF (M := (zh50, zc50)) 50 1000 rfl zckm50 (fun _ _ _ _ h => h) ?_
  exact hK
theorem zv_c50_5 : zcvB 50 5 1 1 41 = true := by decide +kernel
theorem zv_c50_18 : zcvB 50 18 1 1 44 = true := by decide +kernel
theorem zv_c50_32 : zcvB 50 32 1 1 51 = true := by decide +kernel
theorem zv_c50_45 : zcvB 50 45 1 2 52 = true := by decide +kernel
theorem zv_c50_58 : zcvB 50 58 1 2 52 = true := by decide +kernel
theorem zv_c50_71 : zcvB 50 71 1 2 52 = true := by decide +kernel
theorem zv_c50_84 : zcvB 50 84 1 2 52 = true := by decide +kernel
theorem zv_c50_93 : zcvB 50 93 1 1 47 = true := by decide +kernel
theorem zGlsC9 {l : Launch} {Γ : zG} {d : Nat} {D : zD} {N : zN} {S : zS} {q : Nat} {h : zH} (hi : sInv swC h) (hT : cTk D q h) (h0 : pI h 3 8 = 0) (hR : RC 9 N S h) {KF : zKF} {KO : zKO} (W : wGls D N S q KF (fun N S q => wEnd D q KF (KO N S))) : zSem l Γ false (d + 6) (zhd 50) [.ref 2, .ref 9] h (zCP D 9 KF KO h) := by
  have M0 : sMd (cMdL 9) h h := sMd.rf
  unfold wGls at W
  show zSem l Γ false (d + 5 + 1) zh50 _ _ _
  refine zbody (by decide +kernel) (by decide) ?_
  refine rGls9_b (d := d + 5) hi.1 (hi.r1 (q := 9) (k := 1) (r := 12) (by decide +kernel)) ?_
  refine zcallR (mi := 50) (as := [.ref 12]) (rest := []) (q0 := 2) zv_c50_5 rfl (by decide) (by rw [hi.1]; rfl) ?_
  refine (zBgn12 (d := d + 1) hi hT h0 (r := S 1) (hR.s (j := 1) (by decide))).mono ?_
  rintro rr h1 ⟨rfl, hi1, hm1, ⟨hfull, hf⟩ | ⟨hlt, z1, T1⟩⟩
  · rw [if_pos hfull] at W
    exact zflC (t := (50, 8)) (by decide) (by decide) hT.1.2.2.1 hi1 (M0.seq (hm1.sub (by decide +kernel))) W rfl (by decide) (by decide) hf
  rw [if_neg (by omega)] at W
  have M1 := M0.seq (hm1.sub (md := cMdL 9) (by decide +kernel))
  have R1 := hR.md hm1 rfl (by decide)
  refine rGls9_a18 (d := d + 5) hi1.1 (hi1.r1 (q := 2) (k := 2) (r := 8) (by decide +kernel)) (hi1.r1 (q := 9) (k := 1) (r := 12) (by decide +kernel)) ?_
  refine zcallR (mi := 50) (as := [.ref 12]) (rest := [.int (Int32.ofInt 0), .ref 8]) (q0 := 2) zv_c50_18 rfl (by decide) (by rw [hi1.1]; rfl) ?_
  have eS1 : pI h1 12 3 = (S 1 : Int) := R1.s (j := 1) (by decide)
  have bS1 : pI h1 12 3 ≤ 8 := by
    have g := hi1.2.2.1 12 3
    rw [show sIv swC 12 3 = (0, 8) from by decide +kernel] at g
    exact g.2
  refine (zNewC (d := d + 1) (R := 12) (f := N 1) (r := S 1) hi1 T1 z1 (by rw [hi1.1]; rfl) (fun v => (zfindC12 (d := d + 2) hi1 (v := v) (r := S 1) eS1 (by omega)).mono (fun rr h' hh => ⟨hh.1, hh.2.choose, hh.2.choose_spec.1, hh.2.choose_spec.2.trans (fIx_eq (fun i hlt => R1.n1 hlt))⟩))).mono ?_
  rintro rr h2 ⟨hi2, hm2, x2, rfl, hw⟩
  refine rGls9_s18 (d := d + 5) hi2.1 ?_
  obtain ⟨hi3, hm3, nv, no⟩ := c8_i hi2 (c := 0) (by decide) x2
  have M3 := (M1.seq (hm2.sub (by decide +kernel))).seq (hm3.sub (by decide +kernel))
  rcases hw _ _ W with ⟨cc, p, hF, c1, c2, hf⟩ | ⟨v3, q3, W, ev, z3, T3⟩
  · exact zflC (t := (50, 22)) (by decide) (by decide) hT.1.2.2.1 hi3 M3 hF rfl c1 c2 (hf.md hm3 rfl rfl)
  have R3 := (R1.md hm2 rfl (by decide)).md hm3 rfl (by decide)
  replace z3 := (pI_md hm3 rfl).trans z3
  replace T3 := T3.md hm3 rfl rfl
  have nr3 := nv.trans ev
  generalize hg3 : (h2.1, zu2 h2.2.1 8 0 x2, h2.2.2) = h3 at *
  refine rGls9_a32 (d := d + 5) hi3.1 (hi3.r1 (q := 2) (k := 2) (r := 8) (by decide +kernel)) (hi3.r1 (q := 9) (k := 0) (r := 10) (by decide +kernel)) ?_
  refine zcallR (mi := 50) (as := [.ref 10]) (rest := [.int (Int32.ofInt 1), .ref 8]) (q0 := 2) zv_c50_32 rfl (by decide) (by rw [hi3.1]; rfl) ?_
  have eS3 : pI h3 10 3 = (S 0 : Int) := R3.s (j := 0) (by decide)
  have bS3 : pI h3 10 3 ≤ 5 := by
    have g := hi3.2.2.1 10 3
    rw [show sIv swC 10 3 = (0, 5) from by decide +kernel] at g
    exact g.2
  refine (zThrC (d := d + 1) (R := 10) (f := N 0) (r := S 0) hi3 T3 z3 (by rw [hi3.1]; rfl) (fun v => (zfindC10 (d := d + 2) hi3 (v := v) (r := S 0) eS3 (by omega)).mono (fun rr h' hh => ⟨hh.1, hh.2.choose, hh.2.choose_spec.1, hh.2.choose_spec.2.trans (fIx_eq (fun i hlt => by rw [Nat.mul_one]; exact R3.n0 hlt))⟩))).mono ?_
  rintro rr h4 ⟨hi4, hm4, x4, rfl, hw⟩
  refine rGls9_s32 (d := d + 5) hi4.1 ?_
  obtain ⟨hi5, hm5, nv, no⟩ := c8_i hi4 (c := 1) (by decide) x4
  have M5 := (M3.seq (hm4.sub (by decide +kernel))).seq (hm5.sub (by decide +kernel))
  rcases hw _ _ W with ⟨cc, p, hF, c1, c2, hf⟩ | ⟨v5, q5, W, ev, z5, T5⟩
  · exact zflC (t := (50, 36)) (by decide) (by decide) hT.1.2.2.1 hi5 M5 hF rfl c1 c2 (hf.md hm5 rfl rfl)
  have R5 := (R3.md hm4 rfl (by decide)).md hm5 rfl (by decide)
  replace z5 := (pI_md hm5 rfl).trans z5
  replace T5 := T5.md hm5 rfl rfl
  have nr5 := (no 0 (by decide)).trans ((pI_md hm4 rfl).trans nr3)
  have nr5_1 := nv.trans ev
  generalize hg5 : (h4.1, zu2 h4.2.1 8 1 x4, h4.2.2) = h5 at *
  refine rGls9_a45 (d := d + 5) hi5.1 (hi5.r1 (q := 2) (k := 2) (r := 8) (by decide +kernel)) ?_
  refine zcallR (mi := 50) (as := [.int (Int8.ofInt 99).toInt32, .int (Int32.ofInt 0)]) (rest := [.int (Int32.ofInt 2), .ref 8]) (q0 := 2) zv_c50_45 rfl (by decide) (by rw [hi5.1]; rfl) ?_
  refine (zNumC (d := d + 1) hi5 T5 z5 (a := Int32.ofInt 0) (b := (Int8.ofInt 99).toInt32) (L := 0) (H := 99) (by decide) (by decide)).mono ?_
  rintro rr h6 ⟨hi6, hm6, x6, rfl, hw⟩
  refine rGls9_s45 (d := d + 5) hi6.1 ?_
  obtain ⟨hi7, hm7, nv, no⟩ := c8_i hi6 (c := 2) (by decide) x6
  have M7 := (M5.seq (hm6.sub (by decide +kernel))).seq (hm7.sub (by decide +kernel))
  rcases hw _ _ W with ⟨cc, p, hF, c1, c2, hf⟩ | ⟨v7, q7, W, ev, z7, T7⟩
  · exact zflC (t := (50, 49)) (by decide) (by decide) hT.1.2.2.1 hi7 M7 hF rfl c1 c2 (hf.md hm7 rfl rfl)
  have R7 := (R5.md hm6 rfl (by decide)).md hm7 rfl (by decide)
  replace z7 := (pI_md hm7 rfl).trans z7
  replace T7 := T7.md hm7 rfl rfl
  have nr7 := (no 0 (by decide)).trans ((pI_md hm6 rfl).trans nr5)
  have nr7_1 := (no 1 (by decide)).trans ((pI_md hm6 rfl).trans nr5_1)
  have nr7_2 := nv.trans ev
  generalize hg7 : (h6.1, zu2 h6.2.1 8 2 x6, h6.2.2) = h7 at *
  refine rGls9_a58 (d := d + 5) hi7.1 (hi7.r1 (q := 2) (k := 2) (r := 8) (by decide +kernel)) ?_
  refine zcallR (mi := 50) (as := [.int (Int8.ofInt 99).toInt32, .int (Int32.ofInt 0)]) (rest := [.int (Int32.ofInt 3), .ref 8]) (q0 := 2) zv_c50_58 rfl (by decide) (by rw [hi7.1]; rfl) ?_
  refine (zNumC (d := d + 1) hi7 T7 z7 (a := Int32.ofInt 0) (b := (Int8.ofInt 99).toInt32) (L := 0) (H := 99) (by decide) (by decide)).mono ?_
  rintro rr h8 ⟨hi8, hm8, x8, rfl, hw⟩
  refine rGls9_s58 (d := d + 5) hi8.1 ?_
  obtain ⟨hi9, hm9, nv, no⟩ := c8_i hi8 (c := 3) (by decide) x8
  have M9 := (M7.seq (hm8.sub (by decide +kernel))).seq (hm9.sub (by decide +kernel))
  rcases hw _ _ W with ⟨cc, p, hF, c1, c2, hf⟩ | ⟨v9, q9, W, ev, z9, T9⟩
  · exact zflC (t := (50, 62)) (by decide) (by decide) hT.1.2.2.1 hi9 M9 hF rfl c1 c2 (hf.md hm9 rfl rfl)
  have R9 := (R7.md hm8 rfl (by decide)).md hm9 rfl (by decide)
  replace z9 := (pI_md hm9 rfl).trans z9
  replace T9 := T9.md hm9 rfl rfl
  have nr9 := (no 0 (by decide)).trans ((pI_md hm8 rfl).trans nr7)
  have nr9_1 := (no 1 (by decide)).trans ((pI_md hm8 rfl).trans nr7_1)
  have nr9_2 := (no 2 (by decide)).trans ((pI_md hm8 rfl).trans nr7_2)
  have nr9_3 := nv.trans ev
  generalize hg9 : (h8.1, zu2 h8.2.1 8 3 x8, h8.2.2) = h9 at *
  refine rGls9_a71 (d := d + 5) hi9.1 (hi9.r1 (q := 2) (k := 2) (r := 8) (by decide +kernel)) ?_
  refine zcallR (mi := 50) (as := [.int (Int8.ofInt 9).toInt32, .int (Int32.ofInt 1)]) (rest := [.int (Int32.ofInt 4), .ref 8]) (q0 := 2) zv_c50_71 rfl (by decide) (by rw [hi9.1]; rfl) ?_
  refine (zNumC (d := d + 1) hi9 T9 z9 (a := Int32.ofInt 1) (b := (Int8.ofInt 9).toInt32) (L := 1) (H := 9) (by decide) (by decide)).mono ?_
  rintro rr h10 ⟨hi10, hm10, x10, rfl, hw⟩
  refine rGls9_s71 (d := d + 5) hi10.1 ?_
  obtain ⟨hi11, hm11, nv, no⟩ := c8_i hi10 (c := 4) (by decide) x10
  have M11 := (M9.seq (hm10.sub (by decide +kernel))).seq (hm11.sub (by decide +kernel))
  rcases hw _ _ W with ⟨cc, p, hF, c1, c2, hf⟩ | ⟨v11, q11, W, ev, z11, T11⟩
  · exact zflC (t := (50, 75)) (by decide) (by decide) hT.1.2.2.1 hi11 M11 hF rfl c1 c2 (hf.md hm11 rfl rfl)
  have R11 := (R9.md hm10 rfl (by decide)).md hm11 rfl (by decide)
  replace z11 := (pI_md hm11 rfl).trans z11
  replace T11 := T11.md hm11 rfl rfl
  have nr11 := (no 0 (by decide)).trans ((pI_md hm10 rfl).trans nr9)
  have nr11_1 := (no 1 (by decide)).trans ((pI_md hm10 rfl).trans nr9_1)
  have nr11_2 := (no 2 (by decide)).trans ((pI_md hm10 rfl).trans nr9_2)
  have nr11_3 := (no 3 (by decide)).trans ((pI_md hm10 rfl).trans nr9_3)
  have nr11_4 := nv.trans ev
  generalize hg11 : (h10.1, zu2 h10.2.1 8 4 x10, h10.2.2) = h11 at *
  refine rGls9_a84 (d := d + 5) hi11.1 (hi11.r1 (q := 2) (k := 2) (r := 8) (by decide +kernel)) ?_
  refine zcallR (mi := 50) (as := [.int (Int8.ofInt 9).toInt32, .int (Int32.ofInt 1)]) (rest := [.int (Int32.ofInt 5), .ref 8]) (q0 := 2) zv_c50_84 rfl (by decide) (by rw [hi11.1]; rfl) ?_
  refine (zNumC (d := d + 1) hi11 T11 z11 (a := Int32.ofInt 1) (b := (Int8.ofInt 9).toInt32) (L := 1) (H := 9) (by decide) (by decide)).mono ?_
  rintro rr h12 ⟨hi12, hm12, x12, rfl, hw⟩
  refine rGls9_s84 (d := d + 5) hi12.1 ?_
  obtain ⟨hi13, hm13, nv, no⟩ := c8_i hi12 (c := 5) (by decide) x12
  have M13 := (M11.seq (hm12.sub (by decide +kernel))).seq (hm13.sub (by decide +kernel))
  rcases hw _ _ W with ⟨cc, p, hF, c1, c2, hf⟩ | ⟨v13, q13, W, ev, z13, T13⟩
  · exact zflC (t := (50, 88)) (by decide) (by decide) hT.1.2.2.1 hi13 M13 hF rfl c1 c2 (hf.md hm13 rfl rfl)
  have R13 := (R11.md hm12 rfl (by decide)).md hm13 rfl (by decide)
  replace z13 := (pI_md hm13 rfl).trans z13
  replace T13 := T13.md hm13 rfl rfl
  have nr13 := (no 0 (by decide)).trans ((pI_md hm12 rfl).trans nr11)
  have nr13_1 := (no 1 (by decide)).trans ((pI_md hm12 rfl).trans nr11_1)
  have nr13_2 := (no 2 (by decide)).trans ((pI_md hm12 rfl).trans nr11_2)
  have nr13_3 := (no 3 (by decide)).trans ((pI_md hm12 rfl).trans nr11_3)
  have nr13_4 := (no 4 (by decide)).trans ((pI_md hm12 rfl).trans nr11_4)
  have nr13_5 := nv.trans ev
  generalize hg13 : (h12.1, zu2 h12.2.1 8 5 x12, h12.2.2) = h13 at *
  refine rGls9_f (d := d + 5) hi13.1 (hi13.r1 (q := 9) (k := 1) (r := 12) (by decide +kernel)) ?_
  refine zcallR (mi := 50) (as := [.ref 12]) (rest := []) (q0 := 2) zv_c50_93 rfl (by decide) (by rw [hi13.1]; rfl) ?_
  refine (zFin12 (d := d) hi13 T13 z13 (r := S 1) (R13.s (j := 1) (by decide)) hlt).mono ?_
  rintro rr h' ⟨rfl, hi', hw⟩
  refine rGls9_r (d := d + 5) ?_
  rcases hw _ _ W with ⟨hm', cc, p, hF, c1, c2, hf⟩ | ⟨hm', ⟨q', W', z', T'⟩, g3, gc⟩
  · exact ⟨rfl, hi', M13.seq (hm'.sub (by decide +kernel)), Or.inl ⟨cc, p, hF, c1, c2, hf⟩⟩
  · refine ⟨rfl, hi', M13.tr hm' (adS12 hlt), Or.inr ⟨_, _, _, W', z', T', ?_⟩⟩
    exact R13.add (k := 1) (r := S 1) (by decide) (by decide) rfl (adK12 hm') g3 (fun a i g => nG_ne g) (fun c hc => (gc c hc).trans (nG_at (f := pI h13 8) nr13 nr13_1 nr13_2 nr13_3 nr13_4 nr13_5 c hc))
set_option maxRecDepth 100000 in
set_option maxHeartbeats 4000000 in
theorem rGls26_b {l : Launch} {Γ : zG} {d : Nat} {Kp : Option Value → zH → Prop} {h : zH} (hs : h.1 = zshC) (hr0 : h.2.2.2 26 1 = some 29) (hX : zX l Γ false (d + 1) zh50 (zMQ' Γ false zh50 Kp) 0 0 5 [(0, .ref 2), (1, .ref 26)] [.ref 29, .ref 2] h) : zX l Γ false (d + 1) zh50 (zMQ' Γ false zh50 Kp) 0 0 0 [(0, .ref 2), (1, .ref 26)] [] h := by
  obtain ⟨s, I, Lg, P⟩ := h
  have hs : s = zshC := hs
  subst hs
  have hX : zX l Γ false (d + 1) zh50 (zMQ' Γ false zh50 Kp) 0 0 5 [(0, .ref 2), (1, .ref 26)] [.ref 29, .ref 2] (zshC, I, Lg, P) := hX
  have eP := zPn (P := P) hr0
  rw [eP] at hX ⊢
  refine zpcF (M := (zh50, zc50)) 50 5 rfl zckm50 (fun _ _ _ _ h => h) ?_
  exact hX
set_option maxRecDepth 100000 in
set_option maxHeartbeats 4000000 in
theorem rGls26_a18 {l : Launch} {Γ : zG} {d : Nat} {Kp : Option Value → zH → Prop} {h : zH} (hs : h.1 = zshC) (hr0 : h.2.2.2 2 2 = some 8) (hr1 : h.2.2.2 26 1 = some 29) (hX : zX l Γ false (d + 1) zh50 (zMQ' Γ false zh50 Kp) 0 0 18 [(0, .ref 2), (1, .ref 26)] [.ref 29, .ref 2, .int (Int32.ofInt 0), .ref 8] h) : zX l Γ false (d + 1) zh50 (zMQ' Γ false zh50 Kp) 0 0 8 [(0, .ref 2), (1, .ref 26)] [] h := by
  obtain ⟨s, I, Lg, P⟩ := h
  have hs : s = zshC := hs
  subst hs
  have hX : zX l Γ false (d + 1) zh50 (zMQ' Γ false zh50 Kp) 0 0 18 [(0, .ref 2), (1, .ref 26)] [.ref 29, .ref 2, .int (Int32.ofInt 0), .ref 8] (zshC, I, Lg, P) := hX
  have eP := sP_cS (P := P) hr0 hr1
  rw [eP] at hX ⊢
  refine zpcF (M := (zh50, zc50)) 50 18 rfl zckm50 (fun _ _ _ _ h => h) ?_
  exact hX
set_option maxRecDepth 100000 in
set_option maxHeartbeats 4000000 in
theorem rGls26_s18 {l : Launch} {Γ : zG} {d : Nat} {Kp : Option Value → zH → Prop} {h : zH} {v : Int32} (hs : h.1 = zshC)  (hX : zX l Γ false (d + 1) zh50 (zMQ' Γ false zh50 Kp) 0 0 22 [(0, .ref 2), (1, .ref 26)] [] (h.1, zu2 h.2.1 8 0 v, h.2.2)) : zX l Γ false (d + 1) zh50 (zMQ' Γ false zh50 Kp) 0 0 21 [(0, .ref 2), (1, .ref 26)] [.int v, .int (Int32.ofInt 0), .ref 8] h := by
  obtain ⟨s, I, Lg, P⟩ := h
  have hs : s = zshC := hs
  subst hs
  have hX : zX l Γ false (d + 1) zh50 (zMQ' Γ false zh50 Kp) 0 0 22 [(0, .ref 2), (1, .ref 26)] [] (zshC, zu2 I 8 0 v, Lg, P) := hX
  refine zpcF (M := (zh50, zc50)) 50 22 rfl zckm50 (fun _ _ _ _ h => h) ?_
  exact hX
set_option maxRecDepth 100000 in
set_option maxHeartbeats 4000000 in
theorem rGls26_a32 {l : Launch} {Γ : zG} {d : Nat} {Kp : Option Value → zH → Prop} {h : zH} (hs : h.1 = zshC) (hr0 : h.2.2.2 2 2 = some 8) (hr1 : h.2.2.2 26 0 = some 27) (hX : zX l Γ false (d + 1) zh50 (zMQ' Γ false zh50 Kp) 0 0 32 [(0, .ref 2), (1, .ref 26)] [.ref 27, .ref 2, .int (Int32.ofInt 1), .ref 8] h) : zX l Γ false (d + 1) zh50 (zMQ' Γ false zh50 Kp) 0 0 22 [(0, .ref 2), (1, .ref 26)] [] h := by
  obtain ⟨s, I, Lg, P⟩ := h
  have hs : s = zshC := hs
  subst hs
  have hX : zX l Γ false (d + 1) zh50 (zMQ' Γ false zh50 Kp) 0 0 32 [(0, .ref 2), (1, .ref 26)] [.ref 27, .ref 2, .int (Int32.ofInt 1), .ref 8] (zshC, I, Lg, P) := hX
  have eP := sP_cS (P := P) hr0 hr1
  rw [eP] at hX ⊢
  refine zpcF (M := (zh50, zc50)) 50 32 rfl zckm50 (fun _ _ _ _ h => h) ?_
  exact hX
set_option maxRecDepth 100000 in
set_option maxHeartbeats 4000000 in
theorem rGls26_s32 {l : Launch} {Γ : zG} {d : Nat} {Kp : Option Value → zH → Prop} {h : zH} {v : Int32} (hs : h.1 = zshC)  (hX : zX l Γ false (d + 1) zh50 (zMQ' Γ false zh50 Kp) 0 0 36 [(0, .ref 2), (1, .ref 26)] [] (h.1, zu2 h.2.1 8 1 v, h.2.2)) : zX l Γ false (d + 1) zh50 (zMQ' Γ false zh50 Kp) 0 0 35 [(0, .ref 2), (1, .ref 26)] [.int v, .int (Int32.ofInt 1), .ref 8] h := by
  obtain ⟨s, I, Lg, P⟩ := h
  have hs : s = zshC := hs
  subst hs
  have hX : zX l Γ false (d + 1) zh50 (zMQ' Γ false zh50 Kp) 0 0 36 [(0, .ref 2), (1, .ref 26)] [] (zshC, zu2 I 8 1 v, Lg, P) := hX
  refine zpcF (M := (zh50, zc50)) 50 36 rfl zckm50 (fun _ _ _ _ h => h) ?_
  exact hX
set_option maxRecDepth 100000 in
set_option maxHeartbeats 4000000 in
theorem rGls26_a45 {l : Launch} {Γ : zG} {d : Nat} {Kp : Option Value → zH → Prop} {h : zH} (hs : h.1 = zshC) (hr0 : h.2.2.2 2 2 = some 8) (hX : zX l Γ false (d + 1) zh50 (zMQ' Γ false zh50 Kp) 0 0 45 [(0, .ref 2), (1, .ref 26)] [.int (Int8.ofInt 99).toInt32, .int (Int32.ofInt 0), .ref 2, .int (Int32.ofInt 2), .ref 8] h) : zX l Γ false (d + 1) zh50 (zMQ' Γ false zh50 Kp) 0 0 36 [(0, .ref 2), (1, .ref 26)] [] h := by
  obtain ⟨s, I, Lg, P⟩ := h
  have hs : s = zshC := hs
  subst hs
  have hX : zX l Γ false (d + 1) zh50 (zMQ' Γ false zh50 Kp) 0 0 45 [(0, .ref 2), (1, .ref 26)] [.int (Int8.ofInt 99).toInt32, .int (Int32.ofInt 0), .ref 2, .int (Int32.ofInt 2), .ref 8] (zshC, I, Lg, P) := hX
  have eP := zPn (P := P) hr0
  rw [eP] at hX ⊢
  refine zpcF (M := (zh50, zc50)) 50 45 rfl zckm50 (fun _ _ _ _ h => h) ?_
  exact hX
set_option maxRecDepth 100000 in
set_option maxHeartbeats 4000000 in
theorem rGls26_s45 {l : Launch} {Γ : zG} {d : Nat} {Kp : Option Value → zH → Prop} {h : zH} {v : Int32} (hs : h.1 = zshC)  (hX : zX l Γ false (d + 1) zh50 (zMQ' Γ false zh50 Kp) 0 0 49 [(0, .ref 2), (1, .ref 26)] [] (h.1, zu2 h.2.1 8 2 v, h.2.2)) : zX l Γ false (d + 1) zh50 (zMQ' Γ false zh50 Kp) 0 0 48 [(0, .ref 2), (1, .ref 26)] [.int v, .int (Int32.ofInt 2), .ref 8] h := by
  obtain ⟨s, I, Lg, P⟩ := h
  have hs : s = zshC := hs
  subst hs
  have hX : zX l Γ false (d + 1) zh50 (zMQ' Γ false zh50 Kp) 0 0 49 [(0, .ref 2), (1, .ref 26)] [] (zshC, zu2 I 8 2 v, Lg, P) := hX
  refine zpcF (M := (zh50, zc50)) 50 49 rfl zckm50 (fun _ _ _ _ h => h) ?_
  exact hX
set_option maxRecDepth 100000 in
set_option maxHeartbeats 4000000 in
theorem rGls26_a58 {l : Launch} {Γ : zG} {d : Nat} {Kp : Option Value → zH → Prop} {h : zH} (hs : h.1 = zshC) (hr0 : h.2.2.2 2 2 = some 8) (hX : zX l Γ false (d + 1) zh50 (zMQ' Γ false zh50 Kp) 0 0 58 [(0, .ref 2), (1, .ref 26)] [.int (Int8.ofInt 99).toInt32, .int (Int32.ofInt 0), .ref 2, .int (Int32.ofInt 3), .ref 8] h) : zX l Γ false (d + 1) zh50 (zMQ' Γ false zh50 Kp) 0 0 49 [(0, .ref 2), (1, .ref 26)] [] h := by
  obtain ⟨s, I, Lg, P⟩ := h
  have hs : s = zshC := hs
  subst hs
  have hX : zX l Γ false (d + 1) zh50 (zMQ' Γ false zh50 Kp) 0 0 58 [(0, .ref 2), (1, .ref 26)] [.int (Int8.ofInt 99).toInt32, .int (Int32.ofInt 0), .ref 2, .int (Int32.ofInt 3), .ref 8] (zshC, I, Lg, P) := hX
  have eP := zPn (P := P) hr0
  rw [eP] at hX ⊢
  refine zpcF (M := (zh50, zc50)) 50 58 rfl zckm50 (fun _ _ _ _ h => h) ?_
  exact hX
set_option maxRecDepth 100000 in
set_option maxHeartbeats 4000000 in
theorem rGls26_s58 {l : Launch} {Γ : zG} {d : Nat} {Kp : Option Value → zH → Prop} {h : zH} {v : Int32} (hs : h.1 = zshC)  (hX : zX l Γ false (d + 1) zh50 (zMQ' Γ false zh50 Kp) 0 0 62 [(0, .ref 2), (1, .ref 26)] [] (h.1, zu2 h.2.1 8 3 v, h.2.2)) : zX l Γ false (d + 1) zh50 (zMQ' Γ false zh50 Kp) 0 0 61 [(0, .ref 2), (1, .ref 26)] [.int v, .int (Int32.ofInt 3), .ref 8] h := by
  obtain ⟨s, I, Lg, P⟩ := h
  have hs : s = zshC := hs
  subst hs
  have hX : zX l Γ false (d + 1) zh50 (zMQ' Γ false zh50 Kp) 0 0 62 [(0, .ref 2), (1, .ref 26)] [] (zshC, zu2 I 8 3 v, Lg, P) := hX
  refine zpcF (M := (zh50, zc50)) 50 62 rfl zckm50 (fun _ _ _ _ h => h) ?_
  exact hX
set_option maxRecDepth 100000 in
set_option maxHeartbeats 4000000 in
theorem rGls26_a71 {l : Launch} {Γ : zG} {d : Nat} {Kp : Option Value → zH → Prop} {h : zH} (hs : h.1 = zshC) (hr0 : h.2.2.2 2 2 = some 8) (hX : zX l Γ false (d + 1) zh50 (zMQ' Γ false zh50 Kp) 0 0 71 [(0, .ref 2), (1, .ref 26)] [.int (Int8.ofInt 9).toInt32, .int (Int32.ofInt 1), .ref 2, .int (Int32.ofInt 4), .ref 8] h) : zX l Γ false (d + 1) zh50 (zMQ' Γ false zh50 Kp) 0 0 62 [(0, .ref 2), (1, .ref 26)] [] h := by
  obtain ⟨s, I, Lg, P⟩ := h
  have hs : s = zshC := hs
  subst hs
  have hX : zX l Γ false (d + 1) zh50 (zMQ' Γ false zh50 Kp) 0 0 71 [(0, .ref 2), (1, .ref 26)] [.int (Int8.ofInt 9).toInt32, .int (Int32.ofInt 1), .ref 2, .int (Int32.ofInt 4), .ref 8] (zshC, I, Lg, P) := hX
  have eP := zPn (P := P) hr0
  rw [eP] at hX ⊢
  refine zpcF (M := (zh50, zc50)) 50 71 rfl zckm50 (fun _ _ _ _ h => h) ?_
  exact hX
set_option maxRecDepth 100000 in
set_option maxHeartbeats 4000000 in
theorem rGls26_s71 {l : Launch} {Γ : zG} {d : Nat} {Kp : Option Value → zH → Prop} {h : zH} {v : Int32} (hs : h.1 = zshC)  (hX : zX l Γ false (d + 1) zh50 (zMQ' Γ false zh50 Kp) 0 0 75 [(0, .ref 2), (1, .ref 26)] [] (h.1, zu2 h.2.1 8 4 v, h.2.2)) : zX l Γ false (d + 1) zh50 (zMQ' Γ false zh50 Kp) 0 0 74 [(0, .ref 2), (1, .ref 26)] [.int v, .int (Int32.ofInt 4), .ref 8] h := by
  obtain ⟨s, I, Lg, P⟩ := h
  have hs : s = zshC := hs
  subst hs
  have hX : zX l Γ false (d + 1) zh50 (zMQ' Γ false zh50 Kp) 0 0 75 [(0, .ref 2), (1, .ref 26)] [] (zshC, zu2 I 8 4 v, Lg, P) := hX
  refine zpcF (M := (zh50, zc50)) 50 75 rfl zckm50 (fun _ _ _ _ h => h) ?_
  exact hX
set_option maxRecDepth 100000 in
set_option maxHeartbeats 4000000 in
theorem rGls26_a84 {l : Launch} {Γ : zG} {d : Nat} {Kp : Option Value → zH → Prop} {h : zH} (hs : h.1 = zshC) (hr0 : h.2.2.2 2 2 = some 8) (hX : zX l Γ false (d + 1) zh50 (zMQ' Γ false zh50 Kp) 0 0 84 [(0, .ref 2), (1, .ref 26)] [.int (Int8.ofInt 9).toInt32, .int (Int32.ofInt 1), .ref 2, .int (Int32.ofInt 5), .ref 8] h) : zX l Γ false (d + 1) zh50 (zMQ' Γ false zh50 Kp) 0 0 75 [(0, .ref 2), (1, .ref 26)] [] h := by
  obtain ⟨s, I, Lg, P⟩ := h
  have hs : s = zshC := hs
  subst hs
  have hX : zX l Γ false (d + 1) zh50 (zMQ' Γ false zh50 Kp) 0 0 84 [(0, .ref 2), (1, .ref 26)] [.int (Int8.ofInt 9).toInt32, .int (Int32.ofInt 1), .ref 2, .int (Int32.ofInt 5), .ref 8] (zshC, I, Lg, P) := hX
  have eP := zPn (P := P) hr0
  rw [eP] at hX ⊢
  refine zpcF (M := (zh50, zc50)) 50 84 rfl zckm50 (fun _ _ _ _ h => h) ?_
  exact hX
set_option maxRecDepth 100000 in
set_option maxHeartbeats 4000000 in
theorem rGls26_s84 {l : Launch} {Γ : zG} {d : Nat} {Kp : Option Value → zH → Prop} {h : zH} {v : Int32} (hs : h.1 = zshC)  (hX : zX l Γ false (d + 1) zh50 (zMQ' Γ false zh50 Kp) 0 0 88 [(0, .ref 2), (1, .ref 26)] [] (h.1, zu2 h.2.1 8 5 v, h.2.2)) : zX l Γ false (d + 1) zh50 (zMQ' Γ false zh50 Kp) 0 0 87 [(0, .ref 2), (1, .ref 26)] [.int v, .int (Int32.ofInt 5), .ref 8] h := by
  obtain ⟨s, I, Lg, P⟩ := h
  have hs : s = zshC := hs
  subst hs
  have hX : zX l Γ false (d + 1) zh50 (zMQ' Γ false zh50 Kp) 0 0 88 [(0, .ref 2), (1, .ref 26)] [] (zshC, zu2 I 8 5 v, Lg, P) := hX
  refine zpcF (M := (zh50, zc50)) 50 88 rfl zckm50 (fun _ _ _ _ h => h) ?_
  exact hX
set_option maxRecDepth 100000 in
set_option maxHeartbeats 4000000 in
theorem rGls26_f {l : Launch} {Γ : zG} {d : Nat} {Kp : Option Value → zH → Prop} {h : zH} (hs : h.1 = zshC) (hr0 : h.2.2.2 26 1 = some 29) (hX : zX l Γ false (d + 1) zh50 (zMQ' Γ false zh50 Kp) 0 0 93 [(0, .ref 2), (1, .ref 26)] [.ref 29, .ref 2] h) : zX l Γ false (d + 1) zh50 (zMQ' Γ false zh50 Kp) 0 0 88 [(0, .ref 2), (1, .ref 26)] [] h := by
  obtain ⟨s, I, Lg, P⟩ := h
  have hs : s = zshC := hs
  subst hs
  have hX : zX l Γ false (d + 1) zh50 (zMQ' Γ false zh50 Kp) 0 0 93 [(0, .ref 2), (1, .ref 26)] [.ref 29, .ref 2] (zshC, I, Lg, P) := hX
  have eP := zPn (P := P) hr0
  rw [eP] at hX ⊢
  refine zpcF (M := (zh50, zc50)) 50 93 rfl zckm50 (fun _ _ _ _ h => h) ?_
  exact hX
set_option maxRecDepth 100000 in
set_option maxHeartbeats 4000000 in
theorem rGls26_r {l : Launch} {Γ : zG} {d : Nat} {Kp : Option Value → zH → Prop} {h : zH} (hK : Kp none h) : zX l Γ false (d + 1) zh50 (zMQ' Γ false zh50 Kp) 0 0 96 [(0, .ref 2), (1, .ref 26)] [] h := by
  refine zpcF (M := (zh50, zc50)) 50 1000 rfl zckm50 (fun _ _ _ _ h => h) ?_
  exact hK
theorem zGlsC26 {l : Launch} {Γ : zG} {d : Nat} {D : zD} {N : zN} {S : zS} {q : Nat} {h : zH} (hi : sInv swC h) (hT : cTk D q h) (h0 : pI h 3 8 = 0) (hR : RC 26 N S h) {KF : zKF} {KO : zKO} (W : wGls D N S q KF (fun N S q => wEnd D q KF (KO N S))) : zSem l Γ false (d + 6) (zhd 50) [.ref 2, .ref 26] h (zCP D 26 KF KO h) := by
  have M0 : sMd (cMdL 26) h h := sMd.rf
  unfold wGls at W
  show zSem l Γ false (d + 5 + 1) zh50 _ _ _
  refine zbody (by decide +kernel) (by decide) ?_
  refine rGls26_b (d := d + 5) hi.1 (hi.r1 (q := 26) (k := 1) (r := 29) (by decide +kernel)) ?_
  refine zcallR (mi := 50) (as := [.ref 29]) (rest := []) (q0 := 2) zv_c50_5 rfl (by decide) (by rw [hi.1]; rfl) ?_
  refine (zBgn29 (d := d + 1) hi hT h0 (r := S 1) (hR.s (j := 1) (by decide))).mono ?_
  rintro rr h1 ⟨rfl, hi1, hm1, ⟨hfull, hf⟩ | ⟨hlt, z1, T1⟩⟩
  · rw [if_pos hfull] at W
    exact zflC (t := (50, 8)) (by decide) (by decide) hT.1.2.2.1 hi1 (M0.seq (hm1.sub (by decide +kernel))) W rfl (by decide) (by decide) hf
  rw [if_neg (by omega)] at W
  have M1 := M0.seq (hm1.sub (md := cMdL 26) (by decide +kernel))
  have R1 := hR.md hm1 rfl (by decide)
  refine rGls26_a18 (d := d + 5) hi1.1 (hi1.r1 (q := 2) (k := 2) (r := 8) (by decide +kernel)) (hi1.r1 (q := 26) (k := 1) (r := 29) (by decide +kernel)) ?_
  refine zcallR (mi := 50) (as := [.ref 29]) (rest := [.int (Int32.ofInt 0), .ref 8]) (q0 := 2) zv_c50_18 rfl (by decide) (by rw [hi1.1]; rfl) ?_
  have eS1 : pI h1 29 3 = (S 1 : Int) := R1.s (j := 1) (by decide)
  have bS1 : pI h1 29 3 ≤ 8 := by
    have g := hi1.2.2.1 29 3
    rw [show sIv swC 29 3 = (0, 8) from by decide +kernel] at g
    exact g.2
  refine (zNewC (d := d + 1) (R := 29) (f := N 1) (r := S 1) hi1 T1 z1 (by rw [hi1.1]; rfl) (fun v => (zfindC29 (d := d + 2) hi1 (v := v) (r := S 1) eS1 (by omega)).mono (fun rr h' hh => ⟨hh.1, hh.2.choose, hh.2.choose_spec.1, hh.2.choose_spec.2.trans (fIx_eq (fun i hlt => R1.n1 hlt))⟩))).mono ?_
  rintro rr h2 ⟨hi2, hm2, x2, rfl, hw⟩
  refine rGls26_s18 (d := d + 5) hi2.1 ?_
  obtain ⟨hi3, hm3, nv, no⟩ := c8_i hi2 (c := 0) (by decide) x2
  have M3 := (M1.seq (hm2.sub (by decide +kernel))).seq (hm3.sub (by decide +kernel))
  rcases hw _ _ W with ⟨cc, p, hF, c1, c2, hf⟩ | ⟨v3, q3, W, ev, z3, T3⟩
  · exact zflC (t := (50, 22)) (by decide) (by decide) hT.1.2.2.1 hi3 M3 hF rfl c1 c2 (hf.md hm3 rfl rfl)
  have R3 := (R1.md hm2 rfl (by decide)).md hm3 rfl (by decide)
  replace z3 := (pI_md hm3 rfl).trans z3
  replace T3 := T3.md hm3 rfl rfl
  have nr3 := nv.trans ev
  generalize hg3 : (h2.1, zu2 h2.2.1 8 0 x2, h2.2.2) = h3 at *
  refine rGls26_a32 (d := d + 5) hi3.1 (hi3.r1 (q := 2) (k := 2) (r := 8) (by decide +kernel)) (hi3.r1 (q := 26) (k := 0) (r := 27) (by decide +kernel)) ?_
  refine zcallR (mi := 50) (as := [.ref 27]) (rest := [.int (Int32.ofInt 1), .ref 8]) (q0 := 2) zv_c50_32 rfl (by decide) (by rw [hi3.1]; rfl) ?_
  have eS3 : pI h3 27 3 = (S 0 : Int) := R3.s (j := 0) (by decide)
  have bS3 : pI h3 27 3 ≤ 5 := by
    have g := hi3.2.2.1 27 3
    rw [show sIv swC 27 3 = (0, 5) from by decide +kernel] at g
    exact g.2
  refine (zThrC (d := d + 1) (R := 27) (f := N 0) (r := S 0) hi3 T3 z3 (by rw [hi3.1]; rfl) (fun v => (zfindC27 (d := d + 2) hi3 (v := v) (r := S 0) eS3 (by omega)).mono (fun rr h' hh => ⟨hh.1, hh.2.choose, hh.2.choose_spec.1, hh.2.choose_spec.2.trans (fIx_eq (fun i hlt => by rw [Nat.mul_one]; exact R3.n0 hlt))⟩))).mono ?_
  rintro rr h4 ⟨hi4, hm4, x4, rfl, hw⟩
  refine rGls26_s32 (d := d + 5) hi4.1 ?_
  obtain ⟨hi5, hm5, nv, no⟩ := c8_i hi4 (c := 1) (by decide) x4
  have M5 := (M3.seq (hm4.sub (by decide +kernel))).seq (hm5.sub (by decide +kernel))
  rcases hw _ _ W with ⟨cc, p, hF, c1, c2, hf⟩ | ⟨v5, q5, W, ev, z5, T5⟩
  · exact zflC (t := (50, 36)) (by decide) (by decide) hT.1.2.2.1 hi5 M5 hF rfl c1 c2 (hf.md hm5 rfl rfl)
  have R5 := (R3.md hm4 rfl (by decide)).md hm5 rfl (by decide)
  replace z5 := (pI_md hm5 rfl).trans z5
  replace T5 := T5.md hm5 rfl rfl
  have nr5 := (no 0 (by decide)).trans ((pI_md hm4 rfl).trans nr3)
  have nr5_1 := nv.trans ev
  generalize hg5 : (h4.1, zu2 h4.2.1 8 1 x4, h4.2.2) = h5 at *
  refine rGls26_a45 (d := d + 5) hi5.1 (hi5.r1 (q := 2) (k := 2) (r := 8) (by decide +kernel)) ?_
  refine zcallR (mi := 50) (as := [.int (Int8.ofInt 99).toInt32, .int (Int32.ofInt 0)]) (rest := [.int (Int32.ofInt 2), .ref 8]) (q0 := 2) zv_c50_45 rfl (by decide) (by rw [hi5.1]; rfl) ?_
  refine (zNumC (d := d + 1) hi5 T5 z5 (a := Int32.ofInt 0) (b := (Int8.ofInt 99).toInt32) (L := 0) (H := 99) (by decide) (by decide)).mono ?_
  rintro rr h6 ⟨hi6, hm6, x6, rfl, hw⟩
  refine rGls26_s45 (d := d + 5) hi6.1 ?_
  obtain ⟨hi7, hm7, nv, no⟩ := c8_i hi6 (c := 2) (by decide) x6
  have M7 := (M5.seq (hm6.sub (by decide +kernel))).seq (hm7.sub (by decide +kernel))
  rcases hw _ _ W with ⟨cc, p, hF, c1, c2, hf⟩ | ⟨v7, q7, W, ev, z7, T7⟩
  · exact zflC (t := (50, 49)) (by decide) (by decide) hT.1.2.2.1 hi7 M7 hF rfl c1 c2 (hf.md hm7 rfl rfl)
  have R7 := (R5.md hm6 rfl (by decide)).md hm7 rfl (by decide)
  replace z7 := (pI_md hm7 rfl).trans z7
  replace T7 := T7.md hm7 rfl rfl
  have nr7 := (no 0 (by decide)).trans ((pI_md hm6 rfl).trans nr5)
  have nr7_1 := (no 1 (by decide)).trans ((pI_md hm6 rfl).trans nr5_1)
  have nr7_2 := nv.trans ev
  generalize hg7 : (h6.1, zu2 h6.2.1 8 2 x6, h6.2.2) = h7 at *
  refine rGls26_a58 (d := d + 5) hi7.1 (hi7.r1 (q := 2) (k := 2) (r := 8) (by decide +kernel)) ?_
  refine zcallR (mi := 50) (as := [.int (Int8.ofInt 99).toInt32, .int (Int32.ofInt 0)]) (rest := [.int (Int32.ofInt 3), .ref 8]) (q0 := 2) zv_c50_58 rfl (by decide) (by rw [hi7.1]; rfl) ?_
  refine (zNumC (d := d + 1) hi7 T7 z7 (a := Int32.ofInt 0) (b := (Int8.ofInt 99).toInt32) (L := 0) (H := 99) (by decide) (by decide)).mono ?_
  rintro rr h8 ⟨hi8, hm8, x8, rfl, hw⟩
  refine rGls26_s58 (d := d + 5) hi8.1 ?_
  obtain ⟨hi9, hm9, nv, no⟩ := c8_i hi8 (c := 3) (by decide) x8
  have M9 := (M7.seq (hm8.sub (by decide +kernel))).seq (hm9.sub (by decide +kernel))
  rcases hw _ _ W with ⟨cc, p, hF, c1, c2, hf⟩ | ⟨v9, q9, W, ev, z9, T9⟩
  · exact zflC (t := (50, 62)) (by decide) (by decide) hT.1.2.2.1 hi9 M9 hF rfl c1 c2 (hf.md hm9 rfl rfl)
  have R9 := (R7.md hm8 rfl (by decide)).md hm9 rfl (by decide)
  replace z9 := (pI_md hm9 rfl).trans z9
  replace T9 := T9.md hm9 rfl rfl
  have nr9 := (no 0 (by decide)).trans ((pI_md hm8 rfl).trans nr7)
  have nr9_1 := (no 1 (by decide)).trans ((pI_md hm8 rfl).trans nr7_1)
  have nr9_2 := (no 2 (by decide)).trans ((pI_md hm8 rfl).trans nr7_2)
  have nr9_3 := nv.trans ev
  generalize hg9 : (h8.1, zu2 h8.2.1 8 3 x8, h8.2.2) = h9 at *
  refine rGls26_a71 (d := d + 5) hi9.1 (hi9.r1 (q := 2) (k := 2) (r := 8) (by decide +kernel)) ?_
  refine zcallR (mi := 50) (as := [.int (Int8.ofInt 9).toInt32, .int (Int32.ofInt 1)]) (rest := [.int (Int32.ofInt 4), .ref 8]) (q0 := 2) zv_c50_71 rfl (by decide) (by rw [hi9.1]; rfl) ?_
  refine (zNumC (d := d + 1) hi9 T9 z9 (a := Int32.ofInt 1) (b := (Int8.ofInt 9).toInt32) (L := 1) (H := 9) (by decide) (by decide)).mono ?_
  rintro rr h10 ⟨hi10, hm10, x10, rfl, hw⟩
  refine rGls26_s71 (d := d + 5) hi10.1 ?_
  obtain ⟨hi11, hm11, nv, no⟩ := c8_i hi10 (c := 4) (by decide) x10
  have M11 := (M9.seq (hm10.sub (by decide +kernel))).seq (hm11.sub (by decide +kernel))
  rcases hw _ _ W with ⟨cc, p, hF, c1, c2, hf⟩ | ⟨v11, q11, W, ev, z11, T11⟩
  · exact zflC (t := (50, 75)) (by decide) (by decide) hT.1.2.2.1 hi11 M11 hF rfl c1 c2 (hf.md hm11 rfl rfl)
  have R11 := (R9.md hm10 rfl (by decide)).md hm11 rfl (by decide)
  replace z11 := (pI_md hm11 rfl).trans z11
  replace T11 := T11.md hm11 rfl rfl
  have nr11 := (no 0 (by decide)).trans ((pI_md hm10 rfl).trans nr9)
  have nr11_1 := (no 1 (by decide)).trans ((pI_md hm10 rfl).trans nr9_1)
  have nr11_2 := (no 2 (by decide)).trans ((pI_md hm10 rfl).trans nr9_2)
  have nr11_3 := (no 3 (by decide)).trans ((pI_md hm10 rfl).trans nr9_3)
  have nr11_4 := nv.trans ev
  generalize hg11 : (h10.1, zu2 h10.2.1 8 4 x10, h10.2.2) = h11 at *
  refine rGls26_a84 (d := d + 5) hi11.1 (hi11.r1 (q := 2) (k := 2) (r := 8) (by decide +kernel)) ?_
  refine zcallR (mi := 50) (as := [.int (Int8.ofInt 9).toInt32, .int (Int32.ofInt 1)]) (rest := [.int (Int32.ofInt 5), .ref 8]) (q0 := 2) zv_c50_84 rfl (by decide) (by rw [hi11.1]; rfl) ?_
  refine (zNumC (d := d + 1) hi11 T11 z11 (a := Int32.ofInt 1) (b := (Int8.ofInt 9).toInt32) (L := 1) (H := 9) (by decide) (by decide)).mono ?_
  rintro rr h12 ⟨hi12, hm12, x12, rfl, hw⟩
  refine rGls26_s84 (d := d + 5) hi12.1 ?_
  obtain ⟨hi13, hm13, nv, no⟩ := c8_i hi12 (c := 5) (by decide) x12
  have M13 := (M11.seq (hm12.sub (by decide +kernel))).seq (hm13.sub (by decide +kernel))
  rcases hw _ _ W with ⟨cc, p, hF, c1, c2, hf⟩ | ⟨v13, q13, W, ev, z13, T13⟩
  · exact zflC (t := (50, 88)) (by decide) (by decide) hT.1.2.2.1 hi13 M13 hF rfl c1 c2 (hf.md hm13 rfl rfl)
  have R13 := (R11.md hm12 rfl (by decide)).md hm13 rfl (by decide)
  replace z13 := (pI_md hm13 rfl).trans z13
  replace T13 := T13.md hm13 rfl rfl
  have nr13 := (no 0 (by decide)).trans ((pI_md hm12 rfl).trans nr11)
  have nr13_1 := (no 1 (by decide)).trans ((pI_md hm12 rfl).trans nr11_1)
  have nr13_2 := (no 2 (by decide)).trans ((pI_md hm12 rfl).trans nr11_2)
  have nr13_3 := (no 3 (by decide)).trans ((pI_md hm12 rfl).trans nr11_3)
  have nr13_4 := (no 4 (by decide)).trans ((pI_md hm12 rfl).trans nr11_4)
  have nr13_5 := nv.trans ev
  generalize hg13 : (h12.1, zu2 h12.2.1 8 5 x12, h12.2.2) = h13 at *
  refine rGls26_f (d := d + 5) hi13.1 (hi13.r1 (q := 26) (k := 1) (r := 29) (by decide +kernel)) ?_
  refine zcallR (mi := 50) (as := [.ref 29]) (rest := []) (q0 := 2) zv_c50_93 rfl (by decide) (by rw [hi13.1]; rfl) ?_
  refine (zFin29 (d := d) hi13 T13 z13 (r := S 1) (R13.s (j := 1) (by decide)) hlt).mono ?_
  rintro rr h' ⟨rfl, hi', hw⟩
  refine rGls26_r (d := d + 5) ?_
  rcases hw _ _ W with ⟨hm', cc, p, hF, c1, c2, hf⟩ | ⟨hm', ⟨q', W', z', T'⟩, g3, gc⟩
  · exact ⟨rfl, hi', M13.seq (hm'.sub (by decide +kernel)), Or.inl ⟨cc, p, hF, c1, c2, hf⟩⟩
  · refine ⟨rfl, hi', M13.tr hm' (adS29 hlt), Or.inr ⟨_, _, _, W', z', T', ?_⟩⟩
    exact R13.add (k := 1) (r := S 1) (by decide) (by decide) rfl (adK29 hm') g3 (fun a i g => nG_ne g) (fun c hc => (gc c hc).trans (nG_at (f := pI h13 8) nr13 nr13_1 nr13_2 nr13_3 nr13_4 nr13_5 c hc))
set_option maxRecDepth 100000 in
set_option maxHeartbeats 4000000 in
theorem rTrn9_b {l : Launch} {Γ : zG} {d : Nat} {Kp : Option Value → zH → Prop} {h : zH} (hs : h.1 = zshC) (hr0 : h.2.2.2 9 2 = some 14) (hX : zX l Γ false (d + 1) zh53 (zMQ' Γ false zh53 Kp) 0 0 5 [(0, .ref 2), (1, .ref 9)] [.ref 14, .ref 2] h) : zX l Γ false (d + 1) zh53 (zMQ' Γ false zh53 Kp) 0 0 0 [(0, .ref 2), (1, .ref 9)] [] h := by
  obtain ⟨s, I, Lg, P⟩ := h
  have hs : s = zshC := hs
  subst hs
  have hX : zX l Γ false (d + 1) zh53 (zMQ' Γ false zh53 Kp) 0 0 5 [(0, .ref 2), (1, .ref 9)] [.ref 14, .ref 2] (zshC, I, Lg, P) := hX
  have eP := zPn (P := P) hr0
  rw [eP] at hX ⊢
  refine zpcF (M := (zh53, zc53)) 53 5 rfl zckm53 (fun _ _ _ _ h => h) ?_
  exact hX
set_option maxRecDepth 100000 in
set_option maxHeartbeats 4000000 in
theorem rTrn9_a18 {l : Launch} {Γ : zG} {d : Nat} {Kp : Option Value → zH → Prop} {h : zH} (hs : h.1 = zshC) (hr0 : h.2.2.2 2 2 = some 8) (hr1 : h.2.2.2 9 1 = some 12) (hX : zX l Γ false (d + 1) zh53 (zMQ' Γ false zh53 Kp) 0 0 18 [(0, .ref 2), (1, .ref 9)] [.ref 12, .ref 2, .int (Int32.ofInt 0), .ref 8] h) : zX l Γ false (d + 1) zh53 (zMQ' Γ false zh53 Kp) 0 0 8 [(0, .ref 2), (1, .ref 9)] [] h := by
  obtain ⟨s, I, Lg, P⟩ := h
  have hs : s = zshC := hs
  subst hs
  have hX : zX l Γ false (d + 1) zh53 (zMQ' Γ false zh53 Kp) 0 0 18 [(0, .ref 2), (1, .ref 9)] [.ref 12, .ref 2, .int (Int32.ofInt 0), .ref 8] (zshC, I, Lg, P) := hX
  have eP := sP_cS (P := P) hr0 hr1
  rw [eP] at hX ⊢
  refine zpcF (M := (zh53, zc53)) 53 18 rfl zckm53 (fun _ _ _ _ h => h) ?_
  exact hX
set_option maxRecDepth 100000 in
set_option maxHeartbeats 4000000 in
theorem rTrn9_s18 {l : Launch} {Γ : zG} {d : Nat} {Kp : Option Value → zH → Prop} {h : zH} {v : Int32} (hs : h.1 = zshC)  (hX : zX l Γ false (d + 1) zh53 (zMQ' Γ false zh53 Kp) 0 0 22 [(0, .ref 2), (1, .ref 9)] [] (h.1, zu2 h.2.1 8 0 v, h.2.2)) : zX l Γ false (d + 1) zh53 (zMQ' Γ false zh53 Kp) 0 0 21 [(0, .ref 2), (1, .ref 9)] [.int v, .int (Int32.ofInt 0), .ref 8] h := by
  obtain ⟨s, I, Lg, P⟩ := h
  have hs : s = zshC := hs
  subst hs
  have hX : zX l Γ false (d + 1) zh53 (zMQ' Γ false zh53 Kp) 0 0 22 [(0, .ref 2), (1, .ref 9)] [] (zshC, zu2 I 8 0 v, Lg, P) := hX
  refine zpcF (M := (zh53, zc53)) 53 22 rfl zckm53 (fun _ _ _ _ h => h) ?_
  exact hX
set_option maxRecDepth 100000 in
set_option maxHeartbeats 4000000 in
theorem rTrn9_a31 {l : Launch} {Γ : zG} {d : Nat} {Kp : Option Value → zH → Prop} {h : zH} (hs : h.1 = zshC) (hr0 : h.2.2.2 2 2 = some 8) (hX : zX l Γ false (d + 1) zh53 (zMQ' Γ false zh53 Kp) 0 0 31 [(0, .ref 2), (1, .ref 9)] [.int (Int8.ofInt 99).toInt32, .int (Int32.ofInt 0), .ref 2, .int (Int32.ofInt 1), .ref 8] h) : zX l Γ false (d + 1) zh53 (zMQ' Γ false zh53 Kp) 0 0 22 [(0, .ref 2), (1, .ref 9)] [] h := by
  obtain ⟨s, I, Lg, P⟩ := h
  have hs : s = zshC := hs
  subst hs
  have hX : zX l Γ false (d + 1) zh53 (zMQ' Γ false zh53 Kp) 0 0 31 [(0, .ref 2), (1, .ref 9)] [.int (Int8.ofInt 99).toInt32, .int (Int32.ofInt 0), .ref 2, .int (Int32.ofInt 1), .ref 8] (zshC, I, Lg, P) := hX
  have eP := zPn (P := P) hr0
  rw [eP] at hX ⊢
  refine zpcF (M := (zh53, zc53)) 53 31 rfl zckm53 (fun _ _ _ _ h => h) ?_
  exact hX
set_option maxRecDepth 100000 in
set_option maxHeartbeats 4000000 in
theorem rTrn9_s31 {l : Launch} {Γ : zG} {d : Nat} {Kp : Option Value → zH → Prop} {h : zH} {v : Int32} (hs : h.1 = zshC)  (hX : zX l Γ false (d + 1) zh53 (zMQ' Γ false zh53 Kp) 0 0 35 [(0, .ref 2), (1, .ref 9)] [] (h.1, zu2 h.2.1 8 1 v, h.2.2)) : zX l Γ false (d + 1) zh53 (zMQ' Γ false zh53 Kp) 0 0 34 [(0, .ref 2), (1, .ref 9)] [.int v, .int (Int32.ofInt 1), .ref 8] h := by
  obtain ⟨s, I, Lg, P⟩ := h
  have hs : s = zshC := hs
  subst hs
  have hX : zX l Γ false (d + 1) zh53 (zMQ' Γ false zh53 Kp) 0 0 35 [(0, .ref 2), (1, .ref 9)] [] (zshC, zu2 I 8 1 v, Lg, P) := hX
  refine zpcF (M := (zh53, zc53)) 53 35 rfl zckm53 (fun _ _ _ _ h => h) ?_
  exact hX
set_option maxRecDepth 100000 in
set_option maxHeartbeats 4000000 in
theorem rTrn9_f {l : Launch} {Γ : zG} {d : Nat} {Kp : Option Value → zH → Prop} {h : zH} (hs : h.1 = zshC) (hr0 : h.2.2.2 9 2 = some 14) (hX : zX l Γ false (d + 1) zh53 (zMQ' Γ false zh53 Kp) 0 0 40 [(0, .ref 2), (1, .ref 9)] [.ref 14, .ref 2] h) : zX l Γ false (d + 1) zh53 (zMQ' Γ false zh53 Kp) 0 0 35 [(0, .ref 2), (1, .ref 9)] [] h := by
  obtain ⟨s, I, Lg, P⟩ := h
  have hs : s = zshC := hs
  subst hs
  have hX : zX l Γ false (d + 1) zh53 (zMQ' Γ false zh53 Kp) 0 0 40 [(0, .ref 2), (1, .ref 9)] [.ref 14, .ref 2] (zshC, I, Lg, P) := hX
  have eP := zPn (P := P) hr0
  rw [eP] at hX ⊢
  refine zpcF (M := (zh53, zc53)) 53 40 rfl zckm53 (fun _ _ _ _ h => h) ?_
  exact hX
set_option maxRecDepth 100000 in
set_option maxHeartbeats 4000000 in
theorem rTrn9_r {l : Launch} {Γ : zG} {d : Nat} {Kp : Option Value → zH → Prop} {h : zH} (hK : Kp none h) : zX l Γ false (d + 1) zh53 (zMQ' Γ false zh53 Kp) 0 0 43 [(0, .ref 2), (1, .ref 9)] [] h := by
  refine zpcF (M := (zh53, zc53)) 53 1000 rfl zckm53 (fun _ _ _ _ h => h) ?_
  exact hK
theorem zv_c53_5 : zcvB 53 5 1 1 41 = true := by decide +kernel
theorem zv_c53_18 : zcvB 53 18 1 1 51 = true := by decide +kernel
theorem zv_c53_31 : zcvB 53 31 1 2 52 = true := by decide +kernel
theorem zv_c53_40 : zcvB 53 40 1 1 47 = true := by decide +kernel
theorem zTrnC9 {l : Launch} {Γ : zG} {d : Nat} {D : zD} {N : zN} {S : zS} {q : Nat} {h : zH} (hi : sInv swC h) (hT : cTk D q h) (h0 : pI h 3 8 = 0) (hR : RC 9 N S h) {KF : zKF} {KO : zKO} (W : wTrn D N S q KF (fun N S q => wEnd D q KF (KO N S))) : zSem l Γ false (d + 6) (zhd 53) [.ref 2, .ref 9] h (zCP D 9 KF KO h) := by
  have M0 : sMd (cMdL 9) h h := sMd.rf
  unfold wTrn at W
  show zSem l Γ false (d + 5 + 1) zh53 _ _ _
  refine zbody (by decide +kernel) (by decide) ?_
  refine rTrn9_b (d := d + 5) hi.1 (hi.r1 (q := 9) (k := 2) (r := 14) (by decide +kernel)) ?_
  refine zcallR (mi := 53) (as := [.ref 14]) (rest := []) (q0 := 2) zv_c53_5 rfl (by decide) (by rw [hi.1]; rfl) ?_
  refine (zBgn14 (d := d + 1) hi hT h0 (r := S 2) (hR.s (j := 2) (by decide))).mono ?_
  rintro rr h1 ⟨rfl, hi1, hm1, ⟨hfull, hf⟩ | ⟨hlt, z1, T1⟩⟩
  · rw [if_pos hfull] at W
    exact zflC (t := (53, 8)) (by decide) (by decide) hT.1.2.2.1 hi1 (M0.seq (hm1.sub (by decide +kernel))) W rfl (by decide) (by decide) hf
  rw [if_neg (by omega)] at W
  have M1 := M0.seq (hm1.sub (md := cMdL 9) (by decide +kernel))
  have R1 := hR.md hm1 rfl (by decide)
  refine rTrn9_a18 (d := d + 5) hi1.1 (hi1.r1 (q := 2) (k := 2) (r := 8) (by decide +kernel)) (hi1.r1 (q := 9) (k := 1) (r := 12) (by decide +kernel)) ?_
  refine zcallR (mi := 53) (as := [.ref 12]) (rest := [.int (Int32.ofInt 0), .ref 8]) (q0 := 2) zv_c53_18 rfl (by decide) (by rw [hi1.1]; rfl) ?_
  have eS1 : pI h1 12 3 = (S 1 : Int) := R1.s (j := 1) (by decide)
  have bS1 : pI h1 12 3 ≤ 8 := by
    have g := hi1.2.2.1 12 3
    rw [show sIv swC 12 3 = (0, 8) from by decide +kernel] at g
    exact g.2
  refine (zThrC (d := d + 1) (R := 12) (f := N 1) (r := S 1) hi1 T1 z1 (by rw [hi1.1]; rfl) (fun v => (zfindC12 (d := d + 2) hi1 (v := v) (r := S 1) eS1 (by omega)).mono (fun rr h' hh => ⟨hh.1, hh.2.choose, hh.2.choose_spec.1, hh.2.choose_spec.2.trans (fIx_eq (fun i hlt => R1.n1 hlt))⟩))).mono ?_
  rintro rr h2 ⟨hi2, hm2, x2, rfl, hw⟩
  refine rTrn9_s18 (d := d + 5) hi2.1 ?_
  obtain ⟨hi3, hm3, nv, no⟩ := c8_i hi2 (c := 0) (by decide) x2
  have M3 := (M1.seq (hm2.sub (by decide +kernel))).seq (hm3.sub (by decide +kernel))
  rcases hw _ _ W with ⟨cc, p, hF, c1, c2, hf⟩ | ⟨v3, q3, W, ev, z3, T3⟩
  · exact zflC (t := (53, 22)) (by decide) (by decide) hT.1.2.2.1 hi3 M3 hF rfl c1 c2 (hf.md hm3 rfl rfl)
  have R3 := (R1.md hm2 rfl (by decide)).md hm3 rfl (by decide)
  replace z3 := (pI_md hm3 rfl).trans z3
  replace T3 := T3.md hm3 rfl rfl
  have nr3 := nv.trans ev
  generalize hg3 : (h2.1, zu2 h2.2.1 8 0 x2, h2.2.2) = h3 at *
  refine rTrn9_a31 (d := d + 5) hi3.1 (hi3.r1 (q := 2) (k := 2) (r := 8) (by decide +kernel)) ?_
  refine zcallR (mi := 53) (as := [.int (Int8.ofInt 99).toInt32, .int (Int32.ofInt 0)]) (rest := [.int (Int32.ofInt 1), .ref 8]) (q0 := 2) zv_c53_31 rfl (by decide) (by rw [hi3.1]; rfl) ?_
  refine (zNumC (d := d + 1) hi3 T3 z3 (a := Int32.ofInt 0) (b := (Int8.ofInt 99).toInt32) (L := 0) (H := 99) (by decide) (by decide)).mono ?_
  rintro rr h4 ⟨hi4, hm4, x4, rfl, hw⟩
  refine rTrn9_s31 (d := d + 5) hi4.1 ?_
  obtain ⟨hi5, hm5, nv, no⟩ := c8_i hi4 (c := 1) (by decide) x4
  have M5 := (M3.seq (hm4.sub (by decide +kernel))).seq (hm5.sub (by decide +kernel))
  rcases hw _ _ W with ⟨cc, p, hF, c1, c2, hf⟩ | ⟨v5, q5, W, ev, z5, T5⟩
  · exact zflC (t := (53, 35)) (by decide) (by decide) hT.1.2.2.1 hi5 M5 hF rfl c1 c2 (hf.md hm5 rfl rfl)
  have R5 := (R3.md hm4 rfl (by decide)).md hm5 rfl (by decide)
  replace z5 := (pI_md hm5 rfl).trans z5
  replace T5 := T5.md hm5 rfl rfl
  have nr5 := (no 0 (by decide)).trans ((pI_md hm4 rfl).trans nr3)
  have nr5_1 := nv.trans ev
  generalize hg5 : (h4.1, zu2 h4.2.1 8 1 x4, h4.2.2) = h5 at *
  refine rTrn9_f (d := d + 5) hi5.1 (hi5.r1 (q := 9) (k := 2) (r := 14) (by decide +kernel)) ?_
  refine zcallR (mi := 53) (as := [.ref 14]) (rest := []) (q0 := 2) zv_c53_40 rfl (by decide) (by rw [hi5.1]; rfl) ?_
  refine (zFin14 (d := d) hi5 T5 z5 (r := S 2) (R5.s (j := 2) (by decide)) hlt).mono ?_
  rintro rr h' ⟨rfl, hi', hw⟩
  refine rTrn9_r (d := d + 5) ?_
  rcases hw _ _ W with ⟨hm', cc, p, hF, c1, c2, hf⟩ | ⟨hm', ⟨q', W', z', T'⟩, g3, gc⟩
  · exact ⟨rfl, hi', M5.seq (hm'.sub (by decide +kernel)), Or.inl ⟨cc, p, hF, c1, c2, hf⟩⟩
  · refine ⟨rfl, hi', M5.tr hm' (adS14 hlt), Or.inr ⟨_, _, _, W', z', T', ?_⟩⟩
    exact R5.add (k := 2) (r := S 2) (by decide) (by decide) rfl (adK14 hm') g3 (fun a i g => nT_ne g) (fun c hc => (gc c hc).trans (nT_at (f := pI h5 8) nr5 nr5_1 c hc))
set_option maxRecDepth 100000 in
set_option maxHeartbeats 4000000 in
theorem rTrn26_b {l : Launch} {Γ : zG} {d : Nat} {Kp : Option Value → zH → Prop} {h : zH} (hs : h.1 = zshC) (hr0 : h.2.2.2 26 2 = some 31) (hX : zX l Γ false (d + 1) zh53 (zMQ' Γ false zh53 Kp) 0 0 5 [(0, .ref 2), (1, .ref 26)] [.ref 31, .ref 2] h) : zX l Γ false (d + 1) zh53 (zMQ' Γ false zh53 Kp) 0 0 0 [(0, .ref 2), (1, .ref 26)] [] h := by
  obtain ⟨s, I, Lg, P⟩ := h
  have hs : s = zshC := hs
  subst hs
  have hX : zX l Γ false (d + 1) zh53 (zMQ' Γ false zh53 Kp) 0 0 5 [(0, .ref 2), (1, .ref 26)] [.ref 31, .ref 2] (zshC, I, Lg, P) := hX
  have eP := zPn (P := P) hr0
  rw [eP] at hX ⊢
  refine zpcF (M := (zh53, zc53)) 53 5 rfl zckm53 (fun _ _ _ _ h => h) ?_
  exact hX
set_option maxRecDepth 100000 in
set_option maxHeartbeats 4000000 in
theorem rTrn26_a18 {l : Launch} {Γ : zG} {d : Nat} {Kp : Option Value → zH → Prop} {h : zH} (hs : h.1 = zshC) (hr0 : h.2.2.2 2 2 = some 8) (hr1 : h.2.2.2 26 1 = some 29) (hX : zX l Γ false (d + 1) zh53 (zMQ' Γ false zh53 Kp) 0 0 18 [(0, .ref 2), (1, .ref 26)] [.ref 29, .ref 2, .int (Int32.ofInt 0), .ref 8] h) : zX l Γ false (d + 1) zh53 (zMQ' Γ false zh53 Kp) 0 0 8 [(0, .ref 2), (1, .ref 26)] [] h := by
  obtain ⟨s, I, Lg, P⟩ := h
  have hs : s = zshC := hs
  subst hs
  have hX : zX l Γ false (d + 1) zh53 (zMQ' Γ false zh53 Kp) 0 0 18 [(0, .ref 2), (1, .ref 26)] [.ref 29, .ref 2, .int (Int32.ofInt 0), .ref 8] (zshC, I, Lg, P) := hX
  have eP := sP_cS (P := P) hr0 hr1
  rw [eP] at hX ⊢
  refine zpcF (M := (zh53, zc53)) 53 18 rfl zckm53 (fun _ _ _ _ h => h) ?_
  exact hX
set_option maxRecDepth 100000 in
set_option maxHeartbeats 4000000 in
theorem rTrn26_s18 {l : Launch} {Γ : zG} {d : Nat} {Kp : Option Value → zH → Prop} {h : zH} {v : Int32} (hs : h.1 = zshC)  (hX : zX l Γ false (d + 1) zh53 (zMQ' Γ false zh53 Kp) 0 0 22 [(0, .ref 2), (1, .ref 26)] [] (h.1, zu2 h.2.1 8 0 v, h.2.2)) : zX l Γ false (d + 1) zh53 (zMQ' Γ false zh53 Kp) 0 0 21 [(0, .ref 2), (1, .ref 26)] [.int v, .int (Int32.ofInt 0), .ref 8] h := by
  obtain ⟨s, I, Lg, P⟩ := h
  have hs : s = zshC := hs
  subst hs
  have hX : zX l Γ false (d + 1) zh53 (zMQ' Γ false zh53 Kp) 0 0 22 [(0, .ref 2), (1, .ref 26)] [] (zshC, zu2 I 8 0 v, Lg, P) := hX
  refine zpcF (M := (zh53, zc53)) 53 22 rfl zckm53 (fun _ _ _ _ h => h) ?_
  exact hX
set_option maxRecDepth 100000 in
set_option maxHeartbeats 4000000 in
theorem rTrn26_a31 {l : Launch} {Γ : zG} {d : Nat} {Kp : Option Value → zH → Prop} {h : zH} (hs : h.1 = zshC) (hr0 : h.2.2.2 2 2 = some 8) (hX : zX l Γ false (d + 1) zh53 (zMQ' Γ false zh53 Kp) 0 0 31 [(0, .ref 2), (1, .ref 26)] [.int (Int8.ofInt 99).toInt32, .int (Int32.ofInt 0), .ref 2, .int (Int32.ofInt 1), .ref 8] h) : zX l Γ false (d + 1) zh53 (zMQ' Γ false zh53 Kp) 0 0 22 [(0, .ref 2), (1, .ref 26)] [] h := by
  obtain ⟨s, I, Lg, P⟩ := h
  have hs : s = zshC := hs
  subst hs
  have hX : zX l Γ false (d + 1) zh53 (zMQ' Γ false zh53 Kp) 0 0 31 [(0, .ref 2), (1, .ref 26)] [.int (Int8.ofInt 99).toInt32, .int (Int32.ofInt 0), .ref 2, .int (Int32.ofInt 1), .ref 8] (zshC, I, Lg, P) := hX
  have eP := zPn (P := P) hr0
  rw [eP] at hX ⊢
  refine zpcF (M := (zh53, zc53)) 53 31 rfl zckm53 (fun _ _ _ _ h => h) ?_
  exact hX
set_option maxRecDepth 100000 in
set_option maxHeartbeats 4000000 in
theorem rTrn26_s31 {l : Launch} {Γ : zG} {d : Nat} {Kp : Option Value → zH → Prop} {h : zH} {v : Int32} (hs : h.1 = zshC)  (hX : zX l Γ false (d + 1) zh53 (zMQ' Γ false zh53 Kp) 0 0 35 [(0, .ref 2), (1, .ref 26)] [] (h.1, zu2 h.2.1 8 1 v, h.2.2)) : zX l Γ false (d + 1) zh53 (zMQ' Γ false zh53 Kp) 0 0 34 [(0, .ref 2), (1, .ref 26)] [.int v, .int (Int32.ofInt 1), .ref 8] h := by
  obtain ⟨s, I, Lg, P⟩ := h
  have hs : s = zshC := hs
  subst hs
  have hX : zX l Γ false (d + 1) zh53 (zMQ' Γ false zh53 Kp) 0 0 35 [(0, .ref 2), (1, .ref 26)] [] (zshC, zu2 I 8 1 v, Lg, P) := hX
  refine zpcF (M := (zh53, zc53)) 53 35 rfl zckm53 (fun _ _ _ _ h => h) ?_
  exact hX
set_option maxRecDepth 100000 in
set_option maxHeartbeats 4000000 in
theorem rTrn26_f {l : Launch} {Γ : zG} {d : Nat} {Kp : Option Value → zH → Prop} {h : zH} (hs : h.1 = zshC) (hr0 : h.2.2.2 26 2 = some 31) (hX : zX l Γ false (d + 1) zh53 (zMQ' Γ false zh53 Kp) 0 0 40 [(0, .ref 2), (1, .ref 26)] [.ref 31, .ref 2] h) : zX l Γ false (d + 1) zh53 (zMQ' Γ false zh53 Kp) 0 0 35 [(0, .ref 2), (1, .ref 26)] [] h := by
  obtain ⟨s, I, Lg, P⟩ := h
  have hs : s = zshC := hs
  subst hs
  have hX : zX l Γ false (d + 1) zh53 (zMQ' Γ false zh53 Kp) 0 0 40 [(0, .ref 2), (1, .ref 26)] [.ref 31, .ref 2] (zshC, I, Lg, P) := hX
  have eP := zPn (P := P) hr0
  rw [eP] at hX ⊢
  refine zpcF (M := (zh53, zc53)) 53 40 rfl zckm53 (fun _ _ _ _ h => h) ?_
  exact hX
set_option maxRecDepth 100000 in
set_option maxHeartbeats 4000000 in
theorem rTrn26_r {l : Launch} {Γ : zG} {d : Nat} {Kp : Option Value → zH → Prop} {h : zH} (hK : Kp none h) : zX l Γ false (d + 1) zh53 (zMQ' Γ false zh53 Kp) 0 0 43 [(0, .ref 2), (1, .ref 26)] [] h := by
  refine zpcF (M := (zh53, zc53)) 53 1000 rfl zckm53 (fun _ _ _ _ h => h) ?_
  exact hK
theorem zTrnC26 {l : Launch} {Γ : zG} {d : Nat} {D : zD} {N : zN} {S : zS} {q : Nat} {h : zH} (hi : sInv swC h) (hT : cTk D q h) (h0 : pI h 3 8 = 0) (hR : RC 26 N S h) {KF : zKF} {KO : zKO} (W : wTrn D N S q KF (fun N S q => wEnd D q KF (KO N S))) : zSem l Γ false (d + 6) (zhd 53) [.ref 2, .ref 26] h (zCP D 26 KF KO h) := by
  have M0 : sMd (cMdL 26) h h := sMd.rf
  unfold wTrn at W
  show zSem l Γ false (d + 5 + 1) zh53 _ _ _
  refine zbody (by decide +kernel) (by decide) ?_
  refine rTrn26_b (d := d + 5) hi.1 (hi.r1 (q := 26) (k := 2) (r := 31) (by decide +kernel)) ?_
  refine zcallR (mi := 53) (as := [.ref 31]) (rest := []) (q0 := 2) zv_c53_5 rfl (by decide) (by rw [hi.1]; rfl) ?_
  refine (zBgn31 (d := d + 1) hi hT h0 (r := S 2) (hR.s (j := 2) (by decide))).mono ?_
  rintro rr h1 ⟨rfl, hi1, hm1, ⟨hfull, hf⟩ | ⟨hlt, z1, T1⟩⟩
  · rw [if_pos hfull] at W
    exact zflC (t := (53, 8)) (by decide) (by decide) hT.1.2.2.1 hi1 (M0.seq (hm1.sub (by decide +kernel))) W rfl (by decide) (by decide) hf
  rw [if_neg (by omega)] at W
  have M1 := M0.seq (hm1.sub (md := cMdL 26) (by decide +kernel))
  have R1 := hR.md hm1 rfl (by decide)
  refine rTrn26_a18 (d := d + 5) hi1.1 (hi1.r1 (q := 2) (k := 2) (r := 8) (by decide +kernel)) (hi1.r1 (q := 26) (k := 1) (r := 29) (by decide +kernel)) ?_
  refine zcallR (mi := 53) (as := [.ref 29]) (rest := [.int (Int32.ofInt 0), .ref 8]) (q0 := 2) zv_c53_18 rfl (by decide) (by rw [hi1.1]; rfl) ?_
  have eS1 : pI h1 29 3 = (S 1 : Int) := R1.s (j := 1) (by decide)
  have bS1 : pI h1 29 3 ≤ 8 := by
    have g := hi1.2.2.1 29 3
    rw [show sIv swC 29 3 = (0, 8) from by decide +kernel] at g
    exact g.2
  refine (zThrC (d := d + 1) (R := 29) (f := N 1) (r := S 1) hi1 T1 z1 (by rw [hi1.1]; rfl) (fun v => (zfindC29 (d := d + 2) hi1 (v := v) (r := S 1) eS1 (by omega)).mono (fun rr h' hh => ⟨hh.1, hh.2.choose, hh.2.choose_spec.1, hh.2.choose_spec.2.trans (fIx_eq (fun i hlt => R1.n1 hlt))⟩))).mono ?_
  rintro rr h2 ⟨hi2, hm2, x2, rfl, hw⟩
  refine rTrn26_s18 (d := d + 5) hi2.1 ?_
  obtain ⟨hi3, hm3, nv, no⟩ := c8_i hi2 (c := 0) (by decide) x2
  have M3 := (M1.seq (hm2.sub (by decide +kernel))).seq (hm3.sub (by decide +kernel))
  rcases hw _ _ W with ⟨cc, p, hF, c1, c2, hf⟩ | ⟨v3, q3, W, ev, z3, T3⟩
  · exact zflC (t := (53, 22)) (by decide) (by decide) hT.1.2.2.1 hi3 M3 hF rfl c1 c2 (hf.md hm3 rfl rfl)
  have R3 := (R1.md hm2 rfl (by decide)).md hm3 rfl (by decide)
  replace z3 := (pI_md hm3 rfl).trans z3
  replace T3 := T3.md hm3 rfl rfl
  have nr3 := nv.trans ev
  generalize hg3 : (h2.1, zu2 h2.2.1 8 0 x2, h2.2.2) = h3 at *
  refine rTrn26_a31 (d := d + 5) hi3.1 (hi3.r1 (q := 2) (k := 2) (r := 8) (by decide +kernel)) ?_
  refine zcallR (mi := 53) (as := [.int (Int8.ofInt 99).toInt32, .int (Int32.ofInt 0)]) (rest := [.int (Int32.ofInt 1), .ref 8]) (q0 := 2) zv_c53_31 rfl (by decide) (by rw [hi3.1]; rfl) ?_
  refine (zNumC (d := d + 1) hi3 T3 z3 (a := Int32.ofInt 0) (b := (Int8.ofInt 99).toInt32) (L := 0) (H := 99) (by decide) (by decide)).mono ?_
  rintro rr h4 ⟨hi4, hm4, x4, rfl, hw⟩
  refine rTrn26_s31 (d := d + 5) hi4.1 ?_
  obtain ⟨hi5, hm5, nv, no⟩ := c8_i hi4 (c := 1) (by decide) x4
  have M5 := (M3.seq (hm4.sub (by decide +kernel))).seq (hm5.sub (by decide +kernel))
  rcases hw _ _ W with ⟨cc, p, hF, c1, c2, hf⟩ | ⟨v5, q5, W, ev, z5, T5⟩
  · exact zflC (t := (53, 35)) (by decide) (by decide) hT.1.2.2.1 hi5 M5 hF rfl c1 c2 (hf.md hm5 rfl rfl)
  have R5 := (R3.md hm4 rfl (by decide)).md hm5 rfl (by decide)
  replace z5 := (pI_md hm5 rfl).trans z5
  replace T5 := T5.md hm5 rfl rfl
  have nr5 := (no 0 (by decide)).trans ((pI_md hm4 rfl).trans nr3)
  have nr5_1 := nv.trans ev
  generalize hg5 : (h4.1, zu2 h4.2.1 8 1 x4, h4.2.2) = h5 at *
  refine rTrn26_f (d := d + 5) hi5.1 (hi5.r1 (q := 26) (k := 2) (r := 31) (by decide +kernel)) ?_
  refine zcallR (mi := 53) (as := [.ref 31]) (rest := []) (q0 := 2) zv_c53_40 rfl (by decide) (by rw [hi5.1]; rfl) ?_
  refine (zFin31 (d := d) hi5 T5 z5 (r := S 2) (R5.s (j := 2) (by decide)) hlt).mono ?_
  rintro rr h' ⟨rfl, hi', hw⟩
  refine rTrn26_r (d := d + 5) ?_
  rcases hw _ _ W with ⟨hm', cc, p, hF, c1, c2, hf⟩ | ⟨hm', ⟨q', W', z', T'⟩, g3, gc⟩
  · exact ⟨rfl, hi', M5.seq (hm'.sub (by decide +kernel)), Or.inl ⟨cc, p, hF, c1, c2, hf⟩⟩
  · refine ⟨rfl, hi', M5.tr hm' (adS31 hlt), Or.inr ⟨_, _, _, W', z', T', ?_⟩⟩
    exact R5.add (k := 2) (r := S 2) (by decide) (by decide) rfl (adK31 hm') g3 (fun a i g => nT_ne g) (fun c hc => (gc c hc).trans (nT_at (f := pI h5 8) nr5 nr5_1 c hc))
set_option maxRecDepth 100000 in
set_option maxHeartbeats 4000000 in
theorem rSiv9_b {l : Launch} {Γ : zG} {d : Nat} {Kp : Option Value → zH → Prop} {h : zH} (hs : h.1 = zshC) (hr0 : h.2.2.2 9 4 = some 18) (hX : zX l Γ false (d + 1) zh55 (zMQ' Γ false zh55 Kp) 0 0 5 [(0, .ref 2), (1, .ref 9)] [.ref 18, .ref 2] h) : zX l Γ false (d + 1) zh55 (zMQ' Γ false zh55 Kp) 0 0 0 [(0, .ref 2), (1, .ref 9)] [] h := by
  obtain ⟨s, I, Lg, P⟩ := h
  have hs : s = zshC := hs
  subst hs
  have hX : zX l Γ false (d + 1) zh55 (zMQ' Γ false zh55 Kp) 0 0 5 [(0, .ref 2), (1, .ref 9)] [.ref 18, .ref 2] (zshC, I, Lg, P) := hX
  have eP := zPn (P := P) hr0
  rw [eP] at hX ⊢
  refine zpcF (M := (zh55, zc55)) 55 5 rfl zckm55 (fun _ _ _ _ h => h) ?_
  exact hX
set_option maxRecDepth 100000 in
set_option maxHeartbeats 4000000 in
theorem rSiv9_a17 {l : Launch} {Γ : zG} {d : Nat} {Kp : Option Value → zH → Prop} {h : zH} (hs : h.1 = zshC) (hr0 : h.2.2.2 2 2 = some 8) (hX : zX l Γ false (d + 1) zh55 (zMQ' Γ false zh55 Kp) 0 0 17 [(0, .ref 2), (1, .ref 9)] [.int (Int8.ofInt 9).toInt32, .int (Int32.ofInt 1), .ref 2, .int (Int32.ofInt 0), .ref 8] h) : zX l Γ false (d + 1) zh55 (zMQ' Γ false zh55 Kp) 0 0 8 [(0, .ref 2), (1, .ref 9)] [] h := by
  obtain ⟨s, I, Lg, P⟩ := h
  have hs : s = zshC := hs
  subst hs
  have hX : zX l Γ false (d + 1) zh55 (zMQ' Γ false zh55 Kp) 0 0 17 [(0, .ref 2), (1, .ref 9)] [.int (Int8.ofInt 9).toInt32, .int (Int32.ofInt 1), .ref 2, .int (Int32.ofInt 0), .ref 8] (zshC, I, Lg, P) := hX
  have eP := zPn (P := P) hr0
  rw [eP] at hX ⊢
  refine zpcF (M := (zh55, zc55)) 55 17 rfl zckm55 (fun _ _ _ _ h => h) ?_
  exact hX
set_option maxRecDepth 100000 in
set_option maxHeartbeats 4000000 in
theorem rSiv9_s17 {l : Launch} {Γ : zG} {d : Nat} {Kp : Option Value → zH → Prop} {h : zH} {v : Int32} (hs : h.1 = zshC)  (hX : zX l Γ false (d + 1) zh55 (zMQ' Γ false zh55 Kp) 0 0 21 [(0, .ref 2), (1, .ref 9)] [] (h.1, zu2 h.2.1 8 0 v, h.2.2)) : zX l Γ false (d + 1) zh55 (zMQ' Γ false zh55 Kp) 0 0 20 [(0, .ref 2), (1, .ref 9)] [.int v, .int (Int32.ofInt 0), .ref 8] h := by
  obtain ⟨s, I, Lg, P⟩ := h
  have hs : s = zshC := hs
  subst hs
  have hX : zX l Γ false (d + 1) zh55 (zMQ' Γ false zh55 Kp) 0 0 21 [(0, .ref 2), (1, .ref 9)] [] (zshC, zu2 I 8 0 v, Lg, P) := hX
  refine zpcF (M := (zh55, zc55)) 55 21 rfl zckm55 (fun _ _ _ _ h => h) ?_
  exact hX
set_option maxRecDepth 100000 in
set_option maxHeartbeats 4000000 in
theorem rSiv9_f {l : Launch} {Γ : zG} {d : Nat} {Kp : Option Value → zH → Prop} {h : zH} (hs : h.1 = zshC) (hr0 : h.2.2.2 9 4 = some 18) (hX : zX l Γ false (d + 1) zh55 (zMQ' Γ false zh55 Kp) 0 0 26 [(0, .ref 2), (1, .ref 9)] [.ref 18, .ref 2] h) : zX l Γ false (d + 1) zh55 (zMQ' Γ false zh55 Kp) 0 0 21 [(0, .ref 2), (1, .ref 9)] [] h := by
  obtain ⟨s, I, Lg, P⟩ := h
  have hs : s = zshC := hs
  subst hs
  have hX : zX l Γ false (d + 1) zh55 (zMQ' Γ false zh55 Kp) 0 0 26 [(0, .ref 2), (1, .ref 9)] [.ref 18, .ref 2] (zshC, I, Lg, P) := hX
  have eP := zPn (P := P) hr0
  rw [eP] at hX ⊢
  refine zpcF (M := (zh55, zc55)) 55 26 rfl zckm55 (fun _ _ _ _ h => h) ?_
  exact hX
set_option maxRecDepth 100000 in
set_option maxHeartbeats 4000000 in
theorem rSiv9_r {l : Launch} {Γ : zG} {d : Nat} {Kp : Option Value → zH → Prop} {h : zH} (hK : Kp none h) : zX l Γ false (d + 1) zh55 (zMQ' Γ false zh55 Kp) 0 0 29 [(0, .ref 2), (1, .ref 9)] [] h := by
  refine zpcF (M := (zh55, zc55)) 55 1000 rfl zckm55 (fun _ _ _ _ h => h) ?_
  exact hK
theorem zv_c55_5 : zcvB 55 5 1 1 41 = true := by decide +kernel
theorem zv_c55_17 : zcvB 55 17 1 2 52 = true := by decide +kernel
theorem zv_c55_26 : zcvB 55 26 1 1 47 = true := by decide +kernel
theorem zSivC9 {l : Launch} {Γ : zG} {d : Nat} {D : zD} {N : zN} {S : zS} {q : Nat} {h : zH} (hi : sInv swC h) (hT : cTk D q h) (h0 : pI h 3 8 = 0) (hR : RC 9 N S h) {KF : zKF} {KO : zKO} (W : wSiv D N S q KF (fun N S q => wEnd D q KF (KO N S))) : zSem l Γ false (d + 6) (zhd 55) [.ref 2, .ref 9] h (zCP D 9 KF KO h) := by
  have M0 : sMd (cMdL 9) h h := sMd.rf
  unfold wSiv at W
  show zSem l Γ false (d + 5 + 1) zh55 _ _ _
  refine zbody (by decide +kernel) (by decide) ?_
  refine rSiv9_b (d := d + 5) hi.1 (hi.r1 (q := 9) (k := 4) (r := 18) (by decide +kernel)) ?_
  refine zcallR (mi := 55) (as := [.ref 18]) (rest := []) (q0 := 2) zv_c55_5 rfl (by decide) (by rw [hi.1]; rfl) ?_
  refine (zBgn18 (d := d + 1) hi hT h0 (r := S 4) (hR.s (j := 4) (by decide))).mono ?_
  rintro rr h1 ⟨rfl, hi1, hm1, ⟨hfull, hf⟩ | ⟨hlt, z1, T1⟩⟩
  · rw [if_pos hfull] at W
    exact zflC (t := (55, 8)) (by decide) (by decide) hT.1.2.2.1 hi1 (M0.seq (hm1.sub (by decide +kernel))) W rfl (by decide) (by decide) hf
  rw [if_neg (by omega)] at W
  have M1 := M0.seq (hm1.sub (md := cMdL 9) (by decide +kernel))
  have R1 := hR.md hm1 rfl (by decide)
  refine rSiv9_a17 (d := d + 5) hi1.1 (hi1.r1 (q := 2) (k := 2) (r := 8) (by decide +kernel)) ?_
  refine zcallR (mi := 55) (as := [.int (Int8.ofInt 9).toInt32, .int (Int32.ofInt 1)]) (rest := [.int (Int32.ofInt 0), .ref 8]) (q0 := 2) zv_c55_17 rfl (by decide) (by rw [hi1.1]; rfl) ?_
  refine (zNumC (d := d + 1) hi1 T1 z1 (a := Int32.ofInt 1) (b := (Int8.ofInt 9).toInt32) (L := 1) (H := 9) (by decide) (by decide)).mono ?_
  rintro rr h2 ⟨hi2, hm2, x2, rfl, hw⟩
  refine rSiv9_s17 (d := d + 5) hi2.1 ?_
  obtain ⟨hi3, hm3, nv, no⟩ := c8_i hi2 (c := 0) (by decide) x2
  have M3 := (M1.seq (hm2.sub (by decide +kernel))).seq (hm3.sub (by decide +kernel))
  rcases hw _ _ W with ⟨cc, p, hF, c1, c2, hf⟩ | ⟨v3, q3, W, ev, z3, T3⟩
  · exact zflC (t := (55, 21)) (by decide) (by decide) hT.1.2.2.1 hi3 M3 hF rfl c1 c2 (hf.md hm3 rfl rfl)
  have R3 := (R1.md hm2 rfl (by decide)).md hm3 rfl (by decide)
  replace z3 := (pI_md hm3 rfl).trans z3
  replace T3 := T3.md hm3 rfl rfl
  have nr3 := nv.trans ev
  generalize hg3 : (h2.1, zu2 h2.2.1 8 0 x2, h2.2.2) = h3 at *
  refine rSiv9_f (d := d + 5) hi3.1 (hi3.r1 (q := 9) (k := 4) (r := 18) (by decide +kernel)) ?_
  refine zcallR (mi := 55) (as := [.ref 18]) (rest := []) (q0 := 2) zv_c55_26 rfl (by decide) (by rw [hi3.1]; rfl) ?_
  refine (zFin18 (d := d) hi3 T3 z3 (r := S 4) (R3.s (j := 4) (by decide)) hlt).mono ?_
  rintro rr h' ⟨rfl, hi', hw⟩
  refine rSiv9_r (d := d + 5) ?_
  rcases hw _ _ W with ⟨hm', cc, p, hF, c1, c2, hf⟩ | ⟨hm', ⟨q', W', z', T'⟩, g3, gc⟩
  · exact ⟨rfl, hi', M3.seq (hm'.sub (by decide +kernel)), Or.inl ⟨cc, p, hF, c1, c2, hf⟩⟩
  · refine ⟨rfl, hi', M3.tr hm' (adS18 hlt), Or.inr ⟨_, _, _, W', z', T', ?_⟩⟩
    exact R3.add (k := 4) (r := S 4) (by decide) (by decide) rfl (adK18 hm') g3 (fun a i g => nUc_ne (fun e => g ⟨e.1, by rw [e.2]; decide, by rw [e.2]; decide⟩)) (fun c hc => (gc c hc).trans (nS_at (f := pI h3 8) nr3 c hc))
set_option maxRecDepth 100000 in
set_option maxHeartbeats 4000000 in
theorem rSiv26_b {l : Launch} {Γ : zG} {d : Nat} {Kp : Option Value → zH → Prop} {h : zH} (hs : h.1 = zshC) (hr0 : h.2.2.2 26 4 = some 35) (hX : zX l Γ false (d + 1) zh55 (zMQ' Γ false zh55 Kp) 0 0 5 [(0, .ref 2), (1, .ref 26)] [.ref 35, .ref 2] h) : zX l Γ false (d + 1) zh55 (zMQ' Γ false zh55 Kp) 0 0 0 [(0, .ref 2), (1, .ref 26)] [] h := by
  obtain ⟨s, I, Lg, P⟩ := h
  have hs : s = zshC := hs
  subst hs
  have hX : zX l Γ false (d + 1) zh55 (zMQ' Γ false zh55 Kp) 0 0 5 [(0, .ref 2), (1, .ref 26)] [.ref 35, .ref 2] (zshC, I, Lg, P) := hX
  have eP := zPn (P := P) hr0
  rw [eP] at hX ⊢
  refine zpcF (M := (zh55, zc55)) 55 5 rfl zckm55 (fun _ _ _ _ h => h) ?_
  exact hX
set_option maxRecDepth 100000 in
set_option maxHeartbeats 4000000 in
theorem rSiv26_a17 {l : Launch} {Γ : zG} {d : Nat} {Kp : Option Value → zH → Prop} {h : zH} (hs : h.1 = zshC) (hr0 : h.2.2.2 2 2 = some 8) (hX : zX l Γ false (d + 1) zh55 (zMQ' Γ false zh55 Kp) 0 0 17 [(0, .ref 2), (1, .ref 26)] [.int (Int8.ofInt 9).toInt32, .int (Int32.ofInt 1), .ref 2, .int (Int32.ofInt 0), .ref 8] h) : zX l Γ false (d + 1) zh55 (zMQ' Γ false zh55 Kp) 0 0 8 [(0, .ref 2), (1, .ref 26)] [] h := by
  obtain ⟨s, I, Lg, P⟩ := h
  have hs : s = zshC := hs
  subst hs
  have hX : zX l Γ false (d + 1) zh55 (zMQ' Γ false zh55 Kp) 0 0 17 [(0, .ref 2), (1, .ref 26)] [.int (Int8.ofInt 9).toInt32, .int (Int32.ofInt 1), .ref 2, .int (Int32.ofInt 0), .ref 8] (zshC, I, Lg, P) := hX
  have eP := zPn (P := P) hr0
  rw [eP] at hX ⊢
  refine zpcF (M := (zh55, zc55)) 55 17 rfl zckm55 (fun _ _ _ _ h => h) ?_
  exact hX
set_option maxRecDepth 100000 in
set_option maxHeartbeats 4000000 in
theorem rSiv26_s17 {l : Launch} {Γ : zG} {d : Nat} {Kp : Option Value → zH → Prop} {h : zH} {v : Int32} (hs : h.1 = zshC)  (hX : zX l Γ false (d + 1) zh55 (zMQ' Γ false zh55 Kp) 0 0 21 [(0, .ref 2), (1, .ref 26)] [] (h.1, zu2 h.2.1 8 0 v, h.2.2)) : zX l Γ false (d + 1) zh55 (zMQ' Γ false zh55 Kp) 0 0 20 [(0, .ref 2), (1, .ref 26)] [.int v, .int (Int32.ofInt 0), .ref 8] h := by
  obtain ⟨s, I, Lg, P⟩ := h
  have hs : s = zshC := hs
  subst hs
  have hX : zX l Γ false (d + 1) zh55 (zMQ' Γ false zh55 Kp) 0 0 21 [(0, .ref 2), (1, .ref 26)] [] (zshC, zu2 I 8 0 v, Lg, P) := hX
  refine zpcF (M := (zh55, zc55)) 55 21 rfl zckm55 (fun _ _ _ _ h => h) ?_
  exact hX
set_option maxRecDepth 100000 in
set_option maxHeartbeats 4000000 in
theorem rSiv26_f {l : Launch} {Γ : zG} {d : Nat} {Kp : Option Value → zH → Prop} {h : zH} (hs : h.1 = zshC) (hr0 : h.2.2.2 26 4 = some 35) (hX : zX l Γ false (d + 1) zh55 (zMQ' Γ false zh55 Kp) 0 0 26 [(0, .ref 2), (1, .ref 26)] [.ref 35, .ref 2] h) : zX l Γ false (d + 1) zh55 (zMQ' Γ false zh55 Kp) 0 0 21 [(0, .ref 2), (1, .ref 26)] [] h := by
  obtain ⟨s, I, Lg, P⟩ := h
  have hs : s = zshC := hs
  subst hs
  have hX : zX l Γ false (d + 1) zh55 (zMQ' Γ false zh55 Kp) 0 0 26 [(0, .ref 2), (1, .ref 26)] [.ref 35, .ref 2] (zshC, I, Lg, P) := hX
  have eP := zPn (P := P) hr0
  rw [eP] at hX ⊢
  refine zpcF (M := (zh55, zc55)) 55 26 rfl zckm55 (fun _ _ _ _ h => h) ?_
  exact hX
set_option maxRecDepth 100000 in
set_option maxHeartbeats 4000000 in
theorem rSiv26_r {l : Launch} {Γ : zG} {d : Nat} {Kp : Option Value → zH → Prop} {h : zH} (hK : Kp none h) : zX l Γ false (d + 1) zh55 (zMQ' Γ false zh55 Kp) 0 0 29 [(0, .ref 2), (1, .ref 26)] [] h := by
  refine zpcF (M := (zh55, zc55)) 55 1000 rfl zckm55 (fun _ _ _ _ h => h) ?_
  exact hK
theorem zSivC26 {l : Launch} {Γ : zG} {d : Nat} {D : zD} {N : zN} {S : zS} {q : Nat} {h : zH} (hi : sInv swC h) (hT : cTk D q h) (h0 : pI h 3 8 = 0) (hR : RC 26 N S h) {KF : zKF} {KO : zKO} (W : wSiv D N S q KF (fun N S q => wEnd D q KF (KO N S))) : zSem l Γ false (d + 6) (zhd 55) [.ref 2, .ref 26] h (zCP D 26 KF KO h) := by
  have M0 : sMd (cMdL 26) h h := sMd.rf
  unfold wSiv at W
  show zSem l Γ false (d + 5 + 1) zh55 _ _ _
  refine zbody (by decide +kernel) (by decide) ?_
  refine rSiv26_b (d := d + 5) hi.1 (hi.r1 (q := 26) (k := 4) (r := 35) (by decide +kernel)) ?_
  refine zcallR (mi := 55) (as := [.ref 35]) (rest := []) (q0 := 2) zv_c55_5 rfl (by decide) (by rw [hi.1]; rfl) ?_
  refine (zBgn35 (d := d + 1) hi hT h0 (r := S 4) (hR.s (j := 4) (by decide))).mono ?_
  rintro rr h1 ⟨rfl, hi1, hm1, ⟨hfull, hf⟩ | ⟨hlt, z1, T1⟩⟩
  · rw [if_pos hfull] at W
    exact zflC (t := (55, 8)) (by decide) (by decide) hT.1.2.2.1 hi1 (M0.seq (hm1.sub (by decide +kernel))) W rfl (by decide) (by decide) hf
  rw [if_neg (by omega)] at W
  have M1 := M0.seq (hm1.sub (md := cMdL 26) (by decide +kernel))
  have R1 := hR.md hm1 rfl (by decide)
  refine rSiv26_a17 (d := d + 5) hi1.1 (hi1.r1 (q := 2) (k := 2) (r := 8) (by decide +kernel)) ?_
  refine zcallR (mi := 55) (as := [.int (Int8.ofInt 9).toInt32, .int (Int32.ofInt 1)]) (rest := [.int (Int32.ofInt 0), .ref 8]) (q0 := 2) zv_c55_17 rfl (by decide) (by rw [hi1.1]; rfl) ?_
  refine (zNumC (d := d + 1) hi1 T1 z1 (a := Int32.ofInt 1) (b := (Int8.ofInt 9).toInt32) (L := 1) (H := 9) (by decide) (by decide)).mono ?_
  rintro rr h2 ⟨hi2, hm2, x2, rfl, hw⟩
  refine rSiv26_s17 (d := d + 5) hi2.1 ?_
  obtain ⟨hi3, hm3, nv, no⟩ := c8_i hi2 (c := 0) (by decide) x2
  have M3 := (M1.seq (hm2.sub (by decide +kernel))).seq (hm3.sub (by decide +kernel))
  rcases hw _ _ W with ⟨cc, p, hF, c1, c2, hf⟩ | ⟨v3, q3, W, ev, z3, T3⟩
  · exact zflC (t := (55, 21)) (by decide) (by decide) hT.1.2.2.1 hi3 M3 hF rfl c1 c2 (hf.md hm3 rfl rfl)
  have R3 := (R1.md hm2 rfl (by decide)).md hm3 rfl (by decide)
  replace z3 := (pI_md hm3 rfl).trans z3
  replace T3 := T3.md hm3 rfl rfl
  have nr3 := nv.trans ev
  generalize hg3 : (h2.1, zu2 h2.2.1 8 0 x2, h2.2.2) = h3 at *
  refine rSiv26_f (d := d + 5) hi3.1 (hi3.r1 (q := 26) (k := 4) (r := 35) (by decide +kernel)) ?_
  refine zcallR (mi := 55) (as := [.ref 35]) (rest := []) (q0 := 2) zv_c55_26 rfl (by decide) (by rw [hi3.1]; rfl) ?_
  refine (zFin35 (d := d) hi3 T3 z3 (r := S 4) (R3.s (j := 4) (by decide)) hlt).mono ?_
  rintro rr h' ⟨rfl, hi', hw⟩
  refine rSiv26_r (d := d + 5) ?_
  rcases hw _ _ W with ⟨hm', cc, p, hF, c1, c2, hf⟩ | ⟨hm', ⟨q', W', z', T'⟩, g3, gc⟩
  · exact ⟨rfl, hi', M3.seq (hm'.sub (by decide +kernel)), Or.inl ⟨cc, p, hF, c1, c2, hf⟩⟩
  · refine ⟨rfl, hi', M3.tr hm' (adS35 hlt), Or.inr ⟨_, _, _, W', z', T', ?_⟩⟩
    exact R3.add (k := 4) (r := S 4) (by decide) (by decide) rfl (adK35 hm') g3 (fun a i g => nUc_ne (fun e => g ⟨e.1, by rw [e.2]; decide, by rw [e.2]; decide⟩)) (fun c hc => (gc c hc).trans (nS_at (f := pI h3 8) nr3 c hc))
set_option maxRecDepth 100000 in
set_option maxHeartbeats 4000000 in
theorem rPay9_b {l : Launch} {Γ : zG} {d : Nat} {Kp : Option Value → zH → Prop} {h : zH} (hs : h.1 = zshC) (hr0 : h.2.2.2 9 3 = some 16) (hX : zX l Γ false (d + 1) zh54 (zMQ' Γ false zh54 Kp) 0 0 5 [(0, .ref 2), (1, .ref 9)] [.ref 16, .ref 2] h) : zX l Γ false (d + 1) zh54 (zMQ' Γ false zh54 Kp) 0 0 0 [(0, .ref 2), (1, .ref 9)] [] h := by
  obtain ⟨s, I, Lg, P⟩ := h
  have hs : s = zshC := hs
  subst hs
  have hX : zX l Γ false (d + 1) zh54 (zMQ' Γ false zh54 Kp) 0 0 5 [(0, .ref 2), (1, .ref 9)] [.ref 16, .ref 2] (zshC, I, Lg, P) := hX
  have eP := zPn (P := P) hr0
  rw [eP] at hX ⊢
  refine zpcF (M := (zh54, zc54)) 54 5 rfl zckm54 (fun _ _ _ _ h => h) ?_
  exact hX
set_option maxRecDepth 100000 in
set_option maxHeartbeats 4000000 in
theorem rPay9_a18 {l : Launch} {Γ : zG} {d : Nat} {Kp : Option Value → zH → Prop} {h : zH} (hs : h.1 = zshC) (hr0 : h.2.2.2 2 2 = some 8) (hr1 : h.2.2.2 9 1 = some 12) (hX : zX l Γ false (d + 1) zh54 (zMQ' Γ false zh54 Kp) 0 0 18 [(0, .ref 2), (1, .ref 9)] [.ref 12, .ref 2, .int (Int32.ofInt 0), .ref 8] h) : zX l Γ false (d + 1) zh54 (zMQ' Γ false zh54 Kp) 0 0 8 [(0, .ref 2), (1, .ref 9)] [] h := by
  obtain ⟨s, I, Lg, P⟩ := h
  have hs : s = zshC := hs
  subst hs
  have hX : zX l Γ false (d + 1) zh54 (zMQ' Γ false zh54 Kp) 0 0 18 [(0, .ref 2), (1, .ref 9)] [.ref 12, .ref 2, .int (Int32.ofInt 0), .ref 8] (zshC, I, Lg, P) := hX
  have eP := sP_cS (P := P) hr0 hr1
  rw [eP] at hX ⊢
  refine zpcF (M := (zh54, zc54)) 54 18 rfl zckm54 (fun _ _ _ _ h => h) ?_
  exact hX
set_option maxRecDepth 100000 in
set_option maxHeartbeats 4000000 in
theorem rPay9_s18 {l : Launch} {Γ : zG} {d : Nat} {Kp : Option Value → zH → Prop} {h : zH} {v : Int32} (hs : h.1 = zshC)  (hX : zX l Γ false (d + 1) zh54 (zMQ' Γ false zh54 Kp) 0 0 22 [(0, .ref 2), (1, .ref 9)] [] (h.1, zu2 h.2.1 8 0 v, h.2.2)) : zX l Γ false (d + 1) zh54 (zMQ' Γ false zh54 Kp) 0 0 21 [(0, .ref 2), (1, .ref 9)] [.int v, .int (Int32.ofInt 0), .ref 8] h := by
  obtain ⟨s, I, Lg, P⟩ := h
  have hs : s = zshC := hs
  subst hs
  have hX : zX l Γ false (d + 1) zh54 (zMQ' Γ false zh54 Kp) 0 0 22 [(0, .ref 2), (1, .ref 9)] [] (zshC, zu2 I 8 0 v, Lg, P) := hX
  refine zpcF (M := (zh54, zc54)) 54 22 rfl zckm54 (fun _ _ _ _ h => h) ?_
  exact hX
set_option maxRecDepth 100000 in
set_option maxHeartbeats 4000000 in
theorem rPay9_a84 {l : Launch} {Γ : zG} {d : Nat} {Kp : Option Value → zH → Prop} {h : zH} (hs : h.1 = zshC) (hr0 : h.2.2.2 2 2 = some 8) (hr1 : h.2.2.2 9 1 = some 12) (hX : zX l Γ false (d + 1) zh54 (zMQ' Γ false zh54 Kp) 0 0 84 [(0, .ref 2), (1, .ref 9)] [.ref 12, .ref 2, .int (Int32.ofInt 1), .ref 8] h) : zX l Γ false (d + 1) zh54 (zMQ' Γ false zh54 Kp) 0 0 74 [(0, .ref 2), (1, .ref 9)] [] h := by
  obtain ⟨s, I, Lg, P⟩ := h
  have hs : s = zshC := hs
  subst hs
  have hX : zX l Γ false (d + 1) zh54 (zMQ' Γ false zh54 Kp) 0 0 84 [(0, .ref 2), (1, .ref 9)] [.ref 12, .ref 2, .int (Int32.ofInt 1), .ref 8] (zshC, I, Lg, P) := hX
  have eP := sP_cS (P := P) hr0 hr1
  rw [eP] at hX ⊢
  refine zpcF (M := (zh54, zc54)) 54 84 rfl zckm54 (fun _ _ _ _ h => h) ?_
  exact hX
set_option maxRecDepth 100000 in
set_option maxHeartbeats 4000000 in
theorem rPay9_s84 {l : Launch} {Γ : zG} {d : Nat} {Kp : Option Value → zH → Prop} {h : zH} {v : Int32} (hs : h.1 = zshC)  (hX : zX l Γ false (d + 1) zh54 (zMQ' Γ false zh54 Kp) 0 0 88 [(0, .ref 2), (1, .ref 9)] [] (h.1, zu2 h.2.1 8 1 v, h.2.2)) : zX l Γ false (d + 1) zh54 (zMQ' Γ false zh54 Kp) 0 0 87 [(0, .ref 2), (1, .ref 9)] [.int v, .int (Int32.ofInt 1), .ref 8] h := by
  obtain ⟨s, I, Lg, P⟩ := h
  have hs : s = zshC := hs
  subst hs
  have hX : zX l Γ false (d + 1) zh54 (zMQ' Γ false zh54 Kp) 0 0 88 [(0, .ref 2), (1, .ref 9)] [] (zshC, zu2 I 8 1 v, Lg, P) := hX
  refine zpcF (M := (zh54, zc54)) 54 88 rfl zckm54 (fun _ _ _ _ h => h) ?_
  exact hX
set_option maxRecDepth 100000 in
set_option maxHeartbeats 4000000 in
theorem rPay9_a97 {l : Launch} {Γ : zG} {d : Nat} {Kp : Option Value → zH → Prop} {h : zH} (hs : h.1 = zshC) (hr0 : h.2.2.2 2 2 = some 8) (hX : zX l Γ false (d + 1) zh54 (zMQ' Γ false zh54 Kp) 0 0 97 [(0, .ref 2), (1, .ref 9)] [.int (Int8.ofInt 99).toInt32, .int (Int32.ofInt 0), .ref 2, .int (Int32.ofInt 2), .ref 8] h) : zX l Γ false (d + 1) zh54 (zMQ' Γ false zh54 Kp) 0 0 88 [(0, .ref 2), (1, .ref 9)] [] h := by
  obtain ⟨s, I, Lg, P⟩ := h
  have hs : s = zshC := hs
  subst hs
  have hX : zX l Γ false (d + 1) zh54 (zMQ' Γ false zh54 Kp) 0 0 97 [(0, .ref 2), (1, .ref 9)] [.int (Int8.ofInt 99).toInt32, .int (Int32.ofInt 0), .ref 2, .int (Int32.ofInt 2), .ref 8] (zshC, I, Lg, P) := hX
  have eP := zPn (P := P) hr0
  rw [eP] at hX ⊢
  refine zpcF (M := (zh54, zc54)) 54 97 rfl zckm54 (fun _ _ _ _ h => h) ?_
  exact hX
set_option maxRecDepth 100000 in
set_option maxHeartbeats 4000000 in
theorem rPay9_s97 {l : Launch} {Γ : zG} {d : Nat} {Kp : Option Value → zH → Prop} {h : zH} {v : Int32} (hs : h.1 = zshC)  (hX : zX l Γ false (d + 1) zh54 (zMQ' Γ false zh54 Kp) 0 0 101 [(0, .ref 2), (1, .ref 9)] [] (h.1, zu2 h.2.1 8 2 v, h.2.2)) : zX l Γ false (d + 1) zh54 (zMQ' Γ false zh54 Kp) 0 0 100 [(0, .ref 2), (1, .ref 9)] [.int v, .int (Int32.ofInt 2), .ref 8] h := by
  obtain ⟨s, I, Lg, P⟩ := h
  have hs : s = zshC := hs
  subst hs
  have hX : zX l Γ false (d + 1) zh54 (zMQ' Γ false zh54 Kp) 0 0 101 [(0, .ref 2), (1, .ref 9)] [] (zshC, zu2 I 8 2 v, Lg, P) := hX
  refine zpcF (M := (zh54, zc54)) 54 101 rfl zckm54 (fun _ _ _ _ h => h) ?_
  exact hX
set_option maxRecDepth 100000 in
set_option maxHeartbeats 4000000 in
theorem rPay9_a110 {l : Launch} {Γ : zG} {d : Nat} {Kp : Option Value → zH → Prop} {h : zH} (hs : h.1 = zshC) (hr0 : h.2.2.2 2 2 = some 8) (hX : zX l Γ false (d + 1) zh54 (zMQ' Γ false zh54 Kp) 0 0 110 [(0, .ref 2), (1, .ref 9)] [.int (Int8.ofInt 99).toInt32, .int (Int32.ofInt 1), .ref 2, .int (Int32.ofInt 3), .ref 8] h) : zX l Γ false (d + 1) zh54 (zMQ' Γ false zh54 Kp) 0 0 101 [(0, .ref 2), (1, .ref 9)] [] h := by
  obtain ⟨s, I, Lg, P⟩ := h
  have hs : s = zshC := hs
  subst hs
  have hX : zX l Γ false (d + 1) zh54 (zMQ' Γ false zh54 Kp) 0 0 110 [(0, .ref 2), (1, .ref 9)] [.int (Int8.ofInt 99).toInt32, .int (Int32.ofInt 1), .ref 2, .int (Int32.ofInt 3), .ref 8] (zshC, I, Lg, P) := hX
  have eP := zPn (P := P) hr0
  rw [eP] at hX ⊢
  refine zpcF (M := (zh54, zc54)) 54 110 rfl zckm54 (fun _ _ _ _ h => h) ?_
  exact hX
set_option maxRecDepth 100000 in
set_option maxHeartbeats 4000000 in
theorem rPay9_s110 {l : Launch} {Γ : zG} {d : Nat} {Kp : Option Value → zH → Prop} {h : zH} {v : Int32} (hs : h.1 = zshC)  (hX : zX l Γ false (d + 1) zh54 (zMQ' Γ false zh54 Kp) 0 0 114 [(0, .ref 2), (1, .ref 9)] [] (h.1, zu2 h.2.1 8 3 v, h.2.2)) : zX l Γ false (d + 1) zh54 (zMQ' Γ false zh54 Kp) 0 0 113 [(0, .ref 2), (1, .ref 9)] [.int v, .int (Int32.ofInt 3), .ref 8] h := by
  obtain ⟨s, I, Lg, P⟩ := h
  have hs : s = zshC := hs
  subst hs
  have hX : zX l Γ false (d + 1) zh54 (zMQ' Γ false zh54 Kp) 0 0 114 [(0, .ref 2), (1, .ref 9)] [] (zshC, zu2 I 8 3 v, Lg, P) := hX
  refine zpcF (M := (zh54, zc54)) 54 114 rfl zckm54 (fun _ _ _ _ h => h) ?_
  exact hX
set_option maxRecDepth 100000 in
set_option maxHeartbeats 4000000 in
theorem rPay9_f {l : Launch} {Γ : zG} {d : Nat} {Kp : Option Value → zH → Prop} {h : zH} (hs : h.1 = zshC) (hr0 : h.2.2.2 9 3 = some 16) (hX : zX l Γ false (d + 1) zh54 (zMQ' Γ false zh54 Kp) 0 0 119 [(0, .ref 2), (1, .ref 9)] [.ref 16, .ref 2] h) : zX l Γ false (d + 1) zh54 (zMQ' Γ false zh54 Kp) 0 0 114 [(0, .ref 2), (1, .ref 9)] [] h := by
  obtain ⟨s, I, Lg, P⟩ := h
  have hs : s = zshC := hs
  subst hs
  have hX : zX l Γ false (d + 1) zh54 (zMQ' Γ false zh54 Kp) 0 0 119 [(0, .ref 2), (1, .ref 9)] [.ref 16, .ref 2] (zshC, I, Lg, P) := hX
  have eP := zPn (P := P) hr0
  rw [eP] at hX ⊢
  refine zpcF (M := (zh54, zc54)) 54 119 rfl zckm54 (fun _ _ _ _ h => h) ?_
  exact hX
set_option maxRecDepth 100000 in
set_option maxHeartbeats 4000000 in
theorem rPay9_r {l : Launch} {Γ : zG} {d : Nat} {Kp : Option Value → zH → Prop} {h : zH} (hK : Kp none h) : zX l Γ false (d + 1) zh54 (zMQ' Γ false zh54 Kp) 0 0 122 [(0, .ref 2), (1, .ref 9)] [] h := by
  refine zpcF (M := (zh54, zc54)) 54 1000 rfl zckm54 (fun _ _ _ _ h => h) ?_
  exact hK
set_option maxRecDepth 100000 in
set_option maxHeartbeats 4000000 in
theorem rPay9_p1 {l : Launch} {Γ : zG} {d : Nat} {Kp : Option Value → zH → Prop} {h : zH} (c0 : h.2.1 3 8 = 0) (c1 : h.2.1 3 4 = Int32.ofInt 2) (hs : h.1 = zshC) (hr0 : h.2.2.2 2 0 = some 3) (hr1 : h.2.2.2 9 1 = some 12) (hX : zX l Γ false (d + 2) zh54 (zMQ' Γ false zh54 Kp) 0 0 54 [(0, .ref 2), (1, .ref 9)] [.int (h.2.1 3 6), .ref 12] h) : zX l Γ false (d + 2) zh54 (zMQ' Γ false zh54 Kp) 0 0 22 [(0, .ref 2), (1, .ref 9)] [] h := by
  obtain ⟨s, I, Lg, P⟩ := h
  have hs : s = zshC := hs
  subst hs
  have c0 : I 3 8 = 0 := c0
  have c1 : I 3 4 = Int32.ofInt 2 := c1
  have hX : zX l Γ false (d + 2) zh54 (zMQ' Γ false zh54 Kp) 0 0 54 [(0, .ref 2), (1, .ref 9)] [.int (I 3 6), .ref 12] (zshC, I, Lg, P) := hX
  have eP := sP_cS (P := P) hr0 hr1
  rw [eP] at hX ⊢
  refine zpcF (M := (zh54, zc54)) 54 54 rfl zckm54 (fun _ _ _ _ h => h) ?_
  refine zdecT c0 (fun _ => ?_)
  refine zdecT c1 (fun _ => ?_)
  exact hX
set_option maxRecDepth 100000 in
set_option maxHeartbeats 4000000 in
theorem rPay9_p2 {l : Launch} {Γ : zG} {d : Nat} {Kp : Option Value → zH → Prop} {h : zH} (c0 : h.2.1 3 8 = 0) (c1 : ¬ h.2.1 3 4 = Int32.ofInt 2) (hs : h.1 = zshC) (hr0 : h.2.2.2 2 0 = some 3) (hX : zX l Γ false (d + 2) zh54 (zMQ' Γ false zh54 Kp) 0 0 74 [(0, .ref 2), (1, .ref 9)] [] h) : zX l Γ false (d + 2) zh54 (zMQ' Γ false zh54 Kp) 0 0 22 [(0, .ref 2), (1, .ref 9)] [] h := by
  obtain ⟨s, I, Lg, P⟩ := h
  have hs : s = zshC := hs
  subst hs
  have c0 : I 3 8 = 0 := c0
  have c1 : ¬ I 3 4 = Int32.ofInt 2 := c1
  have hX : zX l Γ false (d + 2) zh54 (zMQ' Γ false zh54 Kp) 0 0 74 [(0, .ref 2), (1, .ref 9)] [] (zshC, I, Lg, P) := hX
  have eP := zPn (P := P) hr0
  rw [eP] at hX ⊢
  refine zpcF (M := (zh54, zc54)) 54 74 rfl zckm54 (fun _ _ _ _ h => h) ?_
  refine zdecT c0 (fun _ => ?_)
  refine zdecF c1 (fun _ => ?_)
  exact hX
set_option maxRecDepth 100000 in
set_option maxHeartbeats 4000000 in
theorem rPay9_p3 {l : Launch} {Γ : zG} {d : Nat} {Kp : Option Value → zH → Prop} {h : zH} {v : Int32} (c0 : ¬ v = h.2.1 8 0) (hs : h.1 = zshC) (hr0 : h.2.2.2 2 2 = some 8) (hX : zX l Γ false (d + 1) zh54 (zMQ' Γ false zh54 Kp) 0 0 74 [(0, .ref 2), (1, .ref 9)] [] h) : zX l Γ false (d + 1) zh54 (zMQ' Γ false zh54 Kp) 0 0 57 [(0, .ref 2), (1, .ref 9)] [.int v] h := by
  obtain ⟨s, I, Lg, P⟩ := h
  have hs : s = zshC := hs
  subst hs
  have c0 : ¬ v = I 8 0 := c0
  have hX : zX l Γ false (d + 1) zh54 (zMQ' Γ false zh54 Kp) 0 0 74 [(0, .ref 2), (1, .ref 9)] [] (zshC, I, Lg, P) := hX
  have eP := zPn (P := P) hr0
  rw [eP] at hX ⊢
  refine zpcF (M := (zh54, zc54)) 54 74 rfl zckm54 (fun _ _ _ _ h => h) ?_
  refine zdecF c0 (fun _ => ?_)
  exact hX
set_option maxRecDepth 100000 in
set_option maxHeartbeats 4000000 in
theorem rPay9_p4 {l : Launch} {Γ : zG} {d : Nat} {Kp : Option Value → zH → Prop} {h : zH} {v : Int32} (c0 : v = h.2.1 8 0) (c1 : h.2.1 3 8 = 0) (hs : h.1 = zshC) (hr0 : h.2.2.2 2 2 = some 8) (hr1 : h.2.2.2 2 0 = some 3) (hX : zX l Γ false (d + 2) zh54 (zMQ' Γ false zh54 Kp) 0 0 74 [(0, .ref 2), (1, .ref 9)] [] (h.1, flI (h.2.1) (Int32.ofInt 5), h.2.2)) : zX l Γ false (d + 2) zh54 (zMQ' Γ false zh54 Kp) 0 0 57 [(0, .ref 2), (1, .ref 9)] [.int v] h := by
  obtain ⟨s, I, Lg, P⟩ := h
  have hs : s = zshC := hs
  subst hs
  have c0 : v = I 8 0 := c0
  have c1 : I 3 8 = 0 := c1
  have hX : zX l Γ false (d + 2) zh54 (zMQ' Γ false zh54 Kp) 0 0 74 [(0, .ref 2), (1, .ref 9)] [] (zshC, flI (I) (Int32.ofInt 5), Lg, P) := hX
  have eP := sP_cS (P := P) hr0 hr1
  rw [eP] at hX ⊢
  refine zpcF (M := (zh54, zc54)) 54 74 rfl zckm54 (fun _ _ _ _ h => h) ?_
  refine zdecT c0 (fun _ => ?_)
  refine zdecT c1 (fun _ => ?_)
  exact hX
theorem zv_c54_5 : zcvB 54 5 1 1 41 = true := by decide +kernel
theorem zv_c54_18 : zcvB 54 18 1 1 51 = true := by decide +kernel
theorem zv_c54_54 : zcvB 54 54 5 1 45 = true := by decide +kernel
theorem zv_c54_84 : zcvB 54 84 1 1 51 = true := by decide +kernel
theorem zv_c54_97 : zcvB 54 97 1 2 52 = true := by decide +kernel
theorem zv_c54_110 : zcvB 54 110 1 2 52 = true := by decide +kernel
theorem zv_c54_119 : zcvB 54 119 1 1 47 = true := by decide +kernel
theorem zPayC9 {l : Launch} {Γ : zG} {d : Nat} {D : zD} {N : zN} {S : zS} {q : Nat} {h : zH} (hi : sInv swC h) (hT : cTk D q h) (h0 : pI h 3 8 = 0) (hR : RC 9 N S h) {KF : zKF} {KO : zKO} (W : wPay D N S q KF (fun N S q => wEnd D q KF (KO N S))) : zSem l Γ false (d + 6) (zhd 54) [.ref 2, .ref 9] h (zCP D 9 KF KO h) := by
  have M0 : sMd (cMdL 9) h h := sMd.rf
  unfold wPay at W
  show zSem l Γ false (d + 5 + 1) zh54 _ _ _
  refine zbody (by decide +kernel) (by decide) ?_
  refine rPay9_b (d := d + 5) hi.1 (hi.r1 (q := 9) (k := 3) (r := 16) (by decide +kernel)) ?_
  refine zcallR (mi := 54) (as := [.ref 16]) (rest := []) (q0 := 2) zv_c54_5 rfl (by decide) (by rw [hi.1]; rfl) ?_
  refine (zBgn16 (d := d + 1) hi hT h0 (r := S 3) (hR.s (j := 3) (by decide))).mono ?_
  rintro rr h1 ⟨rfl, hi1, hm1, ⟨hfull, hf⟩ | ⟨hlt, z1, T1⟩⟩
  · rw [if_pos hfull] at W
    exact zflC (t := (54, 8)) (by decide) (by decide) hT.1.2.2.1 hi1 (M0.seq (hm1.sub (by decide +kernel))) W rfl (by decide) (by decide) hf
  rw [if_neg (by omega)] at W
  have M1 := M0.seq (hm1.sub (md := cMdL 9) (by decide +kernel))
  have R1 := hR.md hm1 rfl (by decide)
  refine rPay9_a18 (d := d + 5) hi1.1 (hi1.r1 (q := 2) (k := 2) (r := 8) (by decide +kernel)) (hi1.r1 (q := 9) (k := 1) (r := 12) (by decide +kernel)) ?_
  refine zcallR (mi := 54) (as := [.ref 12]) (rest := [.int (Int32.ofInt 0), .ref 8]) (q0 := 2) zv_c54_18 rfl (by decide) (by rw [hi1.1]; rfl) ?_
  have eS1 : pI h1 12 3 = (S 1 : Int) := R1.s (j := 1) (by decide)
  have bS1 : pI h1 12 3 ≤ 8 := by
    have g := hi1.2.2.1 12 3
    rw [show sIv swC 12 3 = (0, 8) from by decide +kernel] at g
    exact g.2
  refine (zThrC (d := d + 1) (R := 12) (f := N 1) (r := S 1) hi1 T1 z1 (by rw [hi1.1]; rfl) (fun v => (zfindC12 (d := d + 2) hi1 (v := v) (r := S 1) eS1 (by omega)).mono (fun rr h' hh => ⟨hh.1, hh.2.choose, hh.2.choose_spec.1, hh.2.choose_spec.2.trans (fIx_eq (fun i hlt => R1.n1 hlt))⟩))).mono ?_
  rintro rr h2 ⟨hi2, hm2, x2, rfl, hw⟩
  refine rPay9_s18 (d := d + 5) hi2.1 ?_
  obtain ⟨hi3, hm3, nv, no⟩ := c8_i hi2 (c := 0) (by decide) x2
  have M3 := (M1.seq (hm2.sub (by decide +kernel))).seq (hm3.sub (by decide +kernel))
  rcases hw _ _ (wThr_s W) with ⟨cc, p, hF, c1, c2, hf⟩ | ⟨v3, q3, ⟨vs3, W⟩, ev, z3, T3⟩
  · exact zflC (t := (54, 22)) (by decide) (by decide) hT.1.2.2.1 hi3 M3 hF rfl c1 c2 (hf.md hm3 rfl rfl)
  have R3 := (R1.md hm2 rfl (by decide)).md hm3 rfl (by decide)
  replace z3 := (pI_md hm3 rfl).trans z3
  replace T3 := T3.md hm3 rfl rfl
  have nr3 := nv.trans ev
  generalize hg3 : (h2.1, zu2 h2.2.1 8 0 x2, h2.2.2) = h3 at *
  have PAY : ∀ h5, sInv swC h5 → sMd (cMdL 9) h h5 → cTk D q3 h5 → pI h5 3 8 = 0 → RC 9 N S h5 → pI h5 8 0 = v3 → ¬ (kF D q3 = 2 ∧ fIx (N 1) (S 1) (lF D q3) = v3) → zX l Γ false (d + 6) zh54 (zMQ' Γ false zh54 (zCP D 9 KF KO h)) 0 0 74 [(0, .ref 2), (1, .ref 9)] [] h5 := ?_
  · have nb := fIx_bd (N 1) (S 1) (lF D q3)
    have kq : (h3.2.1 3 4).toInt = kF D q3 := T3.2.2.1
    have zq : h3.2.1 3 8 = 0 := deq (by rw [show (0 : Int32).toInt = 0 from by decide]; exact z3)
    by_cases k2 : kF D q3 = 2
    · refine rPay9_p1 (d := d + 4) zq (deq (by rw [kq, k2]; decide)) hi3.1 (hi3.r1 (q := 2) (k := 0) (r := 3) (by decide +kernel)) (hi3.r1 (q := 9) (k := 1) (r := 12) (by decide +kernel)) ?_
      refine zcallR (mi := 54) (as := [.int (h3.2.1 3 6)]) (rest := []) (q0 := 12) zv_c54_54 rfl (by decide) (by rw [hi3.1]; rfl) ?_
      have eS : pI h3 12 3 = (S 1 : Int) := R3.s (j := 1) (by decide)
      have bS : pI h3 12 3 ≤ 8 := by
        have g := hi3.2.2.1 12 3
        rw [show sIv swC 12 3 = (0, 8) from by decide +kernel] at g
        exact g.2
      refine (zfindC12 (d := d + 3) hi3 (v := h3.2.1 3 6) (r := S 1) eS (by omega)).mono ?_
      rintro rr h' ⟨rfl, x, rfl, hx⟩
      have hx : x.toInt = fIx (N 1) (S 1) (lF D q3) := by
        rw [hx, show (h'.2.1 3 6).toInt = lF D q3 from T3.2.2.2.2.1 k2]
        exact fIx_eq (fun i hlt => R3.n1 hlt)
      have r0 : (h'.2.1 8 0).toInt = v3 := nr3
      by_cases ea : fIx (N 1) (S 1) (lF D q3) = v3
      · refine rPay9_p4 (d := d + 4) (deq (by rw [hx, r0, ea])) zq hi3.1 (hi3.r1 (q := 2) (k := 2) (r := 8) (by decide +kernel)) (hi3.r1 (q := 2) (k := 0) (r := 3) (by decide +kernel)) ?_
        obtain ⟨s5, I5, Lg5, P5⟩ := h'
        have es5 : s5 = zshC := hi3.1
        subst es5
        obtain ⟨f1, f2, f3, f4⟩ := cfl (c := Int32.ofInt 5) hi3 T3.1 (by decide)
        have W5 : KF 5 q3 := by
          have W := W
          unfold wThr at W
          rw [if_pos k2, if_neg (by omega), if_pos ea] at W
          exact W
        exact zflC (t := (54, 74)) (by decide) (by decide) hT.1.2.2.1 f1 (M3.seq (f3.sub (by decide +kernel))) W5 (show (I5 3 5).toInt = (q3 : Int) from T3.2.2.2.1) (by decide) (by decide) f4
      · refine rPay9_p3 (d := d + 5) (den (by rw [hx, r0]; exact ea)) hi3.1 (hi3.r1 (q := 2) (k := 2) (r := 8) (by decide +kernel)) ?_
        exact PAY h' hi3 M3 T3 z3 R3 nr3 (fun g => ea g.2)
    · refine rPay9_p2 (d := d + 4) zq (den (by rw [kq]; exact k2)) hi3.1 (hi3.r1 (q := 2) (k := 0) (r := 3) (by decide +kernel)) ?_
      exact PAY h3 hi3 M3 T3 z3 R3 nr3 (fun g => k2 g.1)
  clear hi3 M3 z3 R3 nr3
  intro h5 hi5 M5 T5 z5 R5 nr5 hne
  have q5 : q3 = q3 := rfl
  refine rPay9_a84 (d := d + 5) hi5.1 (hi5.r1 (q := 2) (k := 2) (r := 8) (by decide +kernel)) (hi5.r1 (q := 9) (k := 1) (r := 12) (by decide +kernel)) ?_
  refine zcallR (mi := 54) (as := [.ref 12]) (rest := [.int (Int32.ofInt 1), .ref 8]) (q0 := 2) zv_c54_84 rfl (by decide) (by rw [hi5.1]; rfl) ?_
  have eS5 : pI h5 12 3 = (S 1 : Int) := R5.s (j := 1) (by decide)
  have bS5 : pI h5 12 3 ≤ 8 := by
    have g := hi5.2.2.1 12 3
    rw [show sIv swC 12 3 = (0, 8) from by decide +kernel] at g
    exact g.2
  refine (zThrC (d := d + 1) (R := 12) (f := N 1) (r := S 1) hi5 T5 z5 (by rw [hi5.1]; rfl) (fun v => (zfindC12 (d := d + 2) hi5 (v := v) (r := S 1) eS5 (by omega)).mono (fun rr h' hh => ⟨hh.1, hh.2.choose, hh.2.choose_spec.1, hh.2.choose_spec.2.trans (fIx_eq (fun i hlt => R5.n1 hlt))⟩))).mono ?_
  rintro rr h6 ⟨hi6, hm6, x6, rfl, hw⟩
  refine rPay9_s84 (d := d + 5) hi6.1 ?_
  obtain ⟨hi7, hm7, nv, no⟩ := c8_i hi6 (c := 1) (by decide) x6
  have M7 := (M5.seq (hm6.sub (by decide +kernel))).seq (hm7.sub (by decide +kernel))
  rcases hw _ _ (wThr_s W) with ⟨cc, p, hF, c1, c2, hf⟩ | ⟨v7, q7, ⟨vs7, W⟩, ev, z7, T7⟩
  · exact zflC (t := (54, 88)) (by decide) (by decide) hT.1.2.2.1 hi7 M7 hF rfl c1 c2 (hf.md hm7 rfl rfl)
  have R7 := (R5.md hm6 rfl (by decide)).md hm7 rfl (by decide)
  replace z7 := (pI_md hm7 rfl).trans z7
  replace T7 := T7.md hm7 rfl rfl
  have nr7 := (no 0 (by decide)).trans ((pI_md hm6 rfl).trans nr5)
  have nr7_1 := nv.trans ev
  generalize hg7 : (h6.1, zu2 h6.2.1 8 1 x6, h6.2.2) = h7 at *
  have W : wNum D 0 99 q7 KF (fun m q => wNum D 1 99 q KF (fun g q => wEnd D q KF (KO (nPy N (S 3) v3 v7 m g) (sU S 3 (S 3 + 1))))) := by
    have W : (if v7 = v3 then KF 5 q3 else wNum D 0 99 q7 KF (fun m q => wNum D 1 99 q KF (fun g q => wEnd D q KF (KO (nPy N (S 3) v3 v7 m g) (sU S 3 (S 3 + 1)))))) := W
    rw [if_neg ?_] at W
    · exact W
    · exact fun g => hne ⟨vs7.1, by rw [← vs7.2.2]; exact g⟩
  refine rPay9_a97 (d := d + 5) hi7.1 (hi7.r1 (q := 2) (k := 2) (r := 8) (by decide +kernel)) ?_
  refine zcallR (mi := 54) (as := [.int (Int8.ofInt 99).toInt32, .int (Int32.ofInt 0)]) (rest := [.int (Int32.ofInt 2), .ref 8]) (q0 := 2) zv_c54_97 rfl (by decide) (by rw [hi7.1]; rfl) ?_
  refine (zNumC (d := d + 1) hi7 T7 z7 (a := Int32.ofInt 0) (b := (Int8.ofInt 99).toInt32) (L := 0) (H := 99) (by decide) (by decide)).mono ?_
  rintro rr h8 ⟨hi8, hm8, x8, rfl, hw⟩
  refine rPay9_s97 (d := d + 5) hi8.1 ?_
  obtain ⟨hi9, hm9, nv, no⟩ := c8_i hi8 (c := 2) (by decide) x8
  have M9 := (M7.seq (hm8.sub (by decide +kernel))).seq (hm9.sub (by decide +kernel))
  rcases hw _ _ W with ⟨cc, p, hF, c1, c2, hf⟩ | ⟨v9, q9, W, ev, z9, T9⟩
  · exact zflC (t := (54, 101)) (by decide) (by decide) hT.1.2.2.1 hi9 M9 hF rfl c1 c2 (hf.md hm9 rfl rfl)
  have R9 := (R7.md hm8 rfl (by decide)).md hm9 rfl (by decide)
  replace z9 := (pI_md hm9 rfl).trans z9
  replace T9 := T9.md hm9 rfl rfl
  have nr9 := (no 0 (by decide)).trans ((pI_md hm8 rfl).trans nr7)
  have nr9_1 := (no 1 (by decide)).trans ((pI_md hm8 rfl).trans nr7_1)
  have nr9_2 := nv.trans ev
  generalize hg9 : (h8.1, zu2 h8.2.1 8 2 x8, h8.2.2) = h9 at *
  refine rPay9_a110 (d := d + 5) hi9.1 (hi9.r1 (q := 2) (k := 2) (r := 8) (by decide +kernel)) ?_
  refine zcallR (mi := 54) (as := [.int (Int8.ofInt 99).toInt32, .int (Int32.ofInt 1)]) (rest := [.int (Int32.ofInt 3), .ref 8]) (q0 := 2) zv_c54_110 rfl (by decide) (by rw [hi9.1]; rfl) ?_
  refine (zNumC (d := d + 1) hi9 T9 z9 (a := Int32.ofInt 1) (b := (Int8.ofInt 99).toInt32) (L := 1) (H := 99) (by decide) (by decide)).mono ?_
  rintro rr h10 ⟨hi10, hm10, x10, rfl, hw⟩
  refine rPay9_s110 (d := d + 5) hi10.1 ?_
  obtain ⟨hi11, hm11, nv, no⟩ := c8_i hi10 (c := 3) (by decide) x10
  have M11 := (M9.seq (hm10.sub (by decide +kernel))).seq (hm11.sub (by decide +kernel))
  rcases hw _ _ W with ⟨cc, p, hF, c1, c2, hf⟩ | ⟨v11, q11, W, ev, z11, T11⟩
  · exact zflC (t := (54, 114)) (by decide) (by decide) hT.1.2.2.1 hi11 M11 hF rfl c1 c2 (hf.md hm11 rfl rfl)
  have R11 := (R9.md hm10 rfl (by decide)).md hm11 rfl (by decide)
  replace z11 := (pI_md hm11 rfl).trans z11
  replace T11 := T11.md hm11 rfl rfl
  have nr11 := (no 0 (by decide)).trans ((pI_md hm10 rfl).trans nr9)
  have nr11_1 := (no 1 (by decide)).trans ((pI_md hm10 rfl).trans nr9_1)
  have nr11_2 := (no 2 (by decide)).trans ((pI_md hm10 rfl).trans nr9_2)
  have nr11_3 := nv.trans ev
  generalize hg11 : (h10.1, zu2 h10.2.1 8 3 x10, h10.2.2) = h11 at *
  refine rPay9_f (d := d + 5) hi11.1 (hi11.r1 (q := 9) (k := 3) (r := 16) (by decide +kernel)) ?_
  refine zcallR (mi := 54) (as := [.ref 16]) (rest := []) (q0 := 2) zv_c54_119 rfl (by decide) (by rw [hi11.1]; rfl) ?_
  refine (zFin16 (d := d) hi11 T11 z11 (r := S 3) (R11.s (j := 3) (by decide)) hlt).mono ?_
  rintro rr h' ⟨rfl, hi', hw⟩
  refine rPay9_r (d := d + 5) ?_
  rcases hw _ _ W with ⟨hm', cc, p, hF, c1, c2, hf⟩ | ⟨hm', ⟨q', W', z', T'⟩, g3, gc⟩
  · exact ⟨rfl, hi', M11.seq (hm'.sub (by decide +kernel)), Or.inl ⟨cc, p, hF, c1, c2, hf⟩⟩
  · refine ⟨rfl, hi', M11.tr hm' (adS16 hlt), Or.inr ⟨_, _, _, W', z', T', ?_⟩⟩
    exact R11.add (k := 3) (r := S 3) (by decide) (by decide) rfl (adK16 hm') g3 (fun a i g => nP_ne g) (fun c hc => (gc c hc).trans (nP_at (f := pI h11 8) nr11 nr11_1 nr11_2 nr11_3 c hc))
set_option maxRecDepth 100000 in
set_option maxHeartbeats 4000000 in
theorem rPay26_b {l : Launch} {Γ : zG} {d : Nat} {Kp : Option Value → zH → Prop} {h : zH} (hs : h.1 = zshC) (hr0 : h.2.2.2 26 3 = some 33) (hX : zX l Γ false (d + 1) zh54 (zMQ' Γ false zh54 Kp) 0 0 5 [(0, .ref 2), (1, .ref 26)] [.ref 33, .ref 2] h) : zX l Γ false (d + 1) zh54 (zMQ' Γ false zh54 Kp) 0 0 0 [(0, .ref 2), (1, .ref 26)] [] h := by
  obtain ⟨s, I, Lg, P⟩ := h
  have hs : s = zshC := hs
  subst hs
  have hX : zX l Γ false (d + 1) zh54 (zMQ' Γ false zh54 Kp) 0 0 5 [(0, .ref 2), (1, .ref 26)] [.ref 33, .ref 2] (zshC, I, Lg, P) := hX
  have eP := zPn (P := P) hr0
  rw [eP] at hX ⊢
  refine zpcF (M := (zh54, zc54)) 54 5 rfl zckm54 (fun _ _ _ _ h => h) ?_
  exact hX
set_option maxRecDepth 100000 in
set_option maxHeartbeats 4000000 in
theorem rPay26_a18 {l : Launch} {Γ : zG} {d : Nat} {Kp : Option Value → zH → Prop} {h : zH} (hs : h.1 = zshC) (hr0 : h.2.2.2 2 2 = some 8) (hr1 : h.2.2.2 26 1 = some 29) (hX : zX l Γ false (d + 1) zh54 (zMQ' Γ false zh54 Kp) 0 0 18 [(0, .ref 2), (1, .ref 26)] [.ref 29, .ref 2, .int (Int32.ofInt 0), .ref 8] h) : zX l Γ false (d + 1) zh54 (zMQ' Γ false zh54 Kp) 0 0 8 [(0, .ref 2), (1, .ref 26)] [] h := by
  obtain ⟨s, I, Lg, P⟩ := h
  have hs : s = zshC := hs
  subst hs
  have hX : zX l Γ false (d + 1) zh54 (zMQ' Γ false zh54 Kp) 0 0 18 [(0, .ref 2), (1, .ref 26)] [.ref 29, .ref 2, .int (Int32.ofInt 0), .ref 8] (zshC, I, Lg, P) := hX
  have eP := sP_cS (P := P) hr0 hr1
  rw [eP] at hX ⊢
  refine zpcF (M := (zh54, zc54)) 54 18 rfl zckm54 (fun _ _ _ _ h => h) ?_
  exact hX
set_option maxRecDepth 100000 in
set_option maxHeartbeats 4000000 in
theorem rPay26_s18 {l : Launch} {Γ : zG} {d : Nat} {Kp : Option Value → zH → Prop} {h : zH} {v : Int32} (hs : h.1 = zshC)  (hX : zX l Γ false (d + 1) zh54 (zMQ' Γ false zh54 Kp) 0 0 22 [(0, .ref 2), (1, .ref 26)] [] (h.1, zu2 h.2.1 8 0 v, h.2.2)) : zX l Γ false (d + 1) zh54 (zMQ' Γ false zh54 Kp) 0 0 21 [(0, .ref 2), (1, .ref 26)] [.int v, .int (Int32.ofInt 0), .ref 8] h := by
  obtain ⟨s, I, Lg, P⟩ := h
  have hs : s = zshC := hs
  subst hs
  have hX : zX l Γ false (d + 1) zh54 (zMQ' Γ false zh54 Kp) 0 0 22 [(0, .ref 2), (1, .ref 26)] [] (zshC, zu2 I 8 0 v, Lg, P) := hX
  refine zpcF (M := (zh54, zc54)) 54 22 rfl zckm54 (fun _ _ _ _ h => h) ?_
  exact hX
set_option maxRecDepth 100000 in
set_option maxHeartbeats 4000000 in
theorem rPay26_a84 {l : Launch} {Γ : zG} {d : Nat} {Kp : Option Value → zH → Prop} {h : zH} (hs : h.1 = zshC) (hr0 : h.2.2.2 2 2 = some 8) (hr1 : h.2.2.2 26 1 = some 29) (hX : zX l Γ false (d + 1) zh54 (zMQ' Γ false zh54 Kp) 0 0 84 [(0, .ref 2), (1, .ref 26)] [.ref 29, .ref 2, .int (Int32.ofInt 1), .ref 8] h) : zX l Γ false (d + 1) zh54 (zMQ' Γ false zh54 Kp) 0 0 74 [(0, .ref 2), (1, .ref 26)] [] h := by
  obtain ⟨s, I, Lg, P⟩ := h
  have hs : s = zshC := hs
  subst hs
  have hX : zX l Γ false (d + 1) zh54 (zMQ' Γ false zh54 Kp) 0 0 84 [(0, .ref 2), (1, .ref 26)] [.ref 29, .ref 2, .int (Int32.ofInt 1), .ref 8] (zshC, I, Lg, P) := hX
  have eP := sP_cS (P := P) hr0 hr1
  rw [eP] at hX ⊢
  refine zpcF (M := (zh54, zc54)) 54 84 rfl zckm54 (fun _ _ _ _ h => h) ?_
  exact hX
set_option maxRecDepth 100000 in
set_option maxHeartbeats 4000000 in
theorem rPay26_s84 {l : Launch} {Γ : zG} {d : Nat} {Kp : Option Value → zH → Prop} {h : zH} {v : Int32} (hs : h.1 = zshC)  (hX : zX l Γ false (d + 1) zh54 (zMQ' Γ false zh54 Kp) 0 0 88 [(0, .ref 2), (1, .ref 26)] [] (h.1, zu2 h.2.1 8 1 v, h.2.2)) : zX l Γ false (d + 1) zh54 (zMQ' Γ false zh54 Kp) 0 0 87 [(0, .ref 2), (1, .ref 26)] [.int v, .int (Int32.ofInt 1), .ref 8] h := by
  obtain ⟨s, I, Lg, P⟩ := h
  have hs : s = zshC := hs
  subst hs
  have hX : zX l Γ false (d + 1) zh54 (zMQ' Γ false zh54 Kp) 0 0 88 [(0, .ref 2), (1, .ref 26)] [] (zshC, zu2 I 8 1 v, Lg, P) := hX
  refine zpcF (M := (zh54, zc54)) 54 88 rfl zckm54 (fun _ _ _ _ h => h) ?_
  exact hX
set_option maxRecDepth 100000 in
set_option maxHeartbeats 4000000 in
theorem rPay26_a97 {l : Launch} {Γ : zG} {d : Nat} {Kp : Option Value → zH → Prop} {h : zH} (hs : h.1 = zshC) (hr0 : h.2.2.2 2 2 = some 8) (hX : zX l Γ false (d + 1) zh54 (zMQ' Γ false zh54 Kp) 0 0 97 [(0, .ref 2), (1, .ref 26)] [.int (Int8.ofInt 99).toInt32, .int (Int32.ofInt 0), .ref 2, .int (Int32.ofInt 2), .ref 8] h) : zX l Γ false (d + 1) zh54 (zMQ' Γ false zh54 Kp) 0 0 88 [(0, .ref 2), (1, .ref 26)] [] h := by
  obtain ⟨s, I, Lg, P⟩ := h
  have hs : s = zshC := hs
  subst hs
  have hX : zX l Γ false (d + 1) zh54 (zMQ' Γ false zh54 Kp) 0 0 97 [(0, .ref 2), (1, .ref 26)] [.int (Int8.ofInt 99).toInt32, .int (Int32.ofInt 0), .ref 2, .int (Int32.ofInt 2), .ref 8] (zshC, I, Lg, P) := hX
  have eP := zPn (P := P) hr0
  rw [eP] at hX ⊢
  refine zpcF (M := (zh54, zc54)) 54 97 rfl zckm54 (fun _ _ _ _ h => h) ?_
  exact hX
set_option maxRecDepth 100000 in
set_option maxHeartbeats 4000000 in
theorem rPay26_s97 {l : Launch} {Γ : zG} {d : Nat} {Kp : Option Value → zH → Prop} {h : zH} {v : Int32} (hs : h.1 = zshC)  (hX : zX l Γ false (d + 1) zh54 (zMQ' Γ false zh54 Kp) 0 0 101 [(0, .ref 2), (1, .ref 26)] [] (h.1, zu2 h.2.1 8 2 v, h.2.2)) : zX l Γ false (d + 1) zh54 (zMQ' Γ false zh54 Kp) 0 0 100 [(0, .ref 2), (1, .ref 26)] [.int v, .int (Int32.ofInt 2), .ref 8] h := by
  obtain ⟨s, I, Lg, P⟩ := h
  have hs : s = zshC := hs
  subst hs
  have hX : zX l Γ false (d + 1) zh54 (zMQ' Γ false zh54 Kp) 0 0 101 [(0, .ref 2), (1, .ref 26)] [] (zshC, zu2 I 8 2 v, Lg, P) := hX
  refine zpcF (M := (zh54, zc54)) 54 101 rfl zckm54 (fun _ _ _ _ h => h) ?_
  exact hX
set_option maxRecDepth 100000 in
set_option maxHeartbeats 4000000 in
theorem rPay26_a110 {l : Launch} {Γ : zG} {d : Nat} {Kp : Option Value → zH → Prop} {h : zH} (hs : h.1 = zshC) (hr0 : h.2.2.2 2 2 = some 8) (hX : zX l Γ false (d + 1) zh54 (zMQ' Γ false zh54 Kp) 0 0 110 [(0, .ref 2), (1, .ref 26)] [.int (Int8.ofInt 99).toInt32, .int (Int32.ofInt 1), .ref 2, .int (Int32.ofInt 3), .ref 8] h) : zX l Γ false (d + 1) zh54 (zMQ' Γ false zh54 Kp) 0 0 101 [(0, .ref 2), (1, .ref 26)] [] h := by
  obtain ⟨s, I, Lg, P⟩ := h
  have hs : s = zshC := hs
  subst hs
  have hX : zX l Γ false (d + 1) zh54 (zMQ' Γ false zh54 Kp) 0 0 110 [(0, .ref 2), (1, .ref 26)] [.int (Int8.ofInt 99).toInt32, .int (Int32.ofInt 1), .ref 2, .int (Int32.ofInt 3), .ref 8] (zshC, I, Lg, P) := hX
  have eP := zPn (P := P) hr0
  rw [eP] at hX ⊢
  refine zpcF (M := (zh54, zc54)) 54 110 rfl zckm54 (fun _ _ _ _ h => h) ?_
  exact hX
set_option maxRecDepth 100000 in
set_option maxHeartbeats 4000000 in
theorem rPay26_s110 {l : Launch} {Γ : zG} {d : Nat} {Kp : Option Value → zH → Prop} {h : zH} {v : Int32} (hs : h.1 = zshC)  (hX : zX l Γ false (d + 1) zh54 (zMQ' Γ false zh54 Kp) 0 0 114 [(0, .ref 2), (1, .ref 26)] [] (h.1, zu2 h.2.1 8 3 v, h.2.2)) : zX l Γ false (d + 1) zh54 (zMQ' Γ false zh54 Kp) 0 0 113 [(0, .ref 2), (1, .ref 26)] [.int v, .int (Int32.ofInt 3), .ref 8] h := by
  obtain ⟨s, I, Lg, P⟩ := h
  have hs : s = zshC := hs
  subst hs
  have hX : zX l Γ false (d + 1) zh54 (zMQ' Γ false zh54 Kp) 0 0 114 [(0, .ref 2), (1, .ref 26)] [] (zshC, zu2 I 8 3 v, Lg, P) := hX
  refine zpcF (M := (zh54, zc54)) 54 114 rfl zckm54 (fun _ _ _ _ h => h) ?_
  exact hX
set_option maxRecDepth 100000 in
set_option maxHeartbeats 4000000 in
theorem rPay26_f {l : Launch} {Γ : zG} {d : Nat} {Kp : Option Value → zH → Prop} {h : zH} (hs : h.1 = zshC) (hr0 : h.2.2.2 26 3 = some 33) (hX : zX l Γ false (d + 1) zh54 (zMQ' Γ false zh54 Kp) 0 0 119 [(0, .ref 2), (1, .ref 26)] [.ref 33, .ref 2] h) : zX l Γ false (d + 1) zh54 (zMQ' Γ false zh54 Kp) 0 0 114 [(0, .ref 2), (1, .ref 26)] [] h := by
  obtain ⟨s, I, Lg, P⟩ := h
  have hs : s = zshC := hs
  subst hs
  have hX : zX l Γ false (d + 1) zh54 (zMQ' Γ false zh54 Kp) 0 0 119 [(0, .ref 2), (1, .ref 26)] [.ref 33, .ref 2] (zshC, I, Lg, P) := hX
  have eP := zPn (P := P) hr0
  rw [eP] at hX ⊢
  refine zpcF (M := (zh54, zc54)) 54 119 rfl zckm54 (fun _ _ _ _ h => h) ?_
  exact hX
set_option maxRecDepth 100000 in
set_option maxHeartbeats 4000000 in
theorem rPay26_r {l : Launch} {Γ : zG} {d : Nat} {Kp : Option Value → zH → Prop} {h : zH} (hK : Kp none h) : zX l Γ false (d + 1) zh54 (zMQ' Γ false zh54 Kp) 0 0 122 [(0, .ref 2), (1, .ref 26)] [] h := by
  refine zpcF (M := (zh54, zc54)) 54 1000 rfl zckm54 (fun _ _ _ _ h => h) ?_
  exact hK
set_option maxRecDepth 100000 in
set_option maxHeartbeats 4000000 in
theorem rPay26_p1 {l : Launch} {Γ : zG} {d : Nat} {Kp : Option Value → zH → Prop} {h : zH} (c0 : h.2.1 3 8 = 0) (c1 : h.2.1 3 4 = Int32.ofInt 2) (hs : h.1 = zshC) (hr0 : h.2.2.2 2 0 = some 3) (hr1 : h.2.2.2 26 1 = some 29) (hX : zX l Γ false (d + 2) zh54 (zMQ' Γ false zh54 Kp) 0 0 54 [(0, .ref 2), (1, .ref 26)] [.int (h.2.1 3 6), .ref 29] h) : zX l Γ false (d + 2) zh54 (zMQ' Γ false zh54 Kp) 0 0 22 [(0, .ref 2), (1, .ref 26)] [] h := by
  obtain ⟨s, I, Lg, P⟩ := h
  have hs : s = zshC := hs
  subst hs
  have c0 : I 3 8 = 0 := c0
  have c1 : I 3 4 = Int32.ofInt 2 := c1
  have hX : zX l Γ false (d + 2) zh54 (zMQ' Γ false zh54 Kp) 0 0 54 [(0, .ref 2), (1, .ref 26)] [.int (I 3 6), .ref 29] (zshC, I, Lg, P) := hX
  have eP := sP_cS (P := P) hr0 hr1
  rw [eP] at hX ⊢
  refine zpcF (M := (zh54, zc54)) 54 54 rfl zckm54 (fun _ _ _ _ h => h) ?_
  refine zdecT c0 (fun _ => ?_)
  refine zdecT c1 (fun _ => ?_)
  exact hX
set_option maxRecDepth 100000 in
set_option maxHeartbeats 4000000 in
theorem rPay26_p2 {l : Launch} {Γ : zG} {d : Nat} {Kp : Option Value → zH → Prop} {h : zH} (c0 : h.2.1 3 8 = 0) (c1 : ¬ h.2.1 3 4 = Int32.ofInt 2) (hs : h.1 = zshC) (hr0 : h.2.2.2 2 0 = some 3) (hX : zX l Γ false (d + 2) zh54 (zMQ' Γ false zh54 Kp) 0 0 74 [(0, .ref 2), (1, .ref 26)] [] h) : zX l Γ false (d + 2) zh54 (zMQ' Γ false zh54 Kp) 0 0 22 [(0, .ref 2), (1, .ref 26)] [] h := by
  obtain ⟨s, I, Lg, P⟩ := h
  have hs : s = zshC := hs
  subst hs
  have c0 : I 3 8 = 0 := c0
  have c1 : ¬ I 3 4 = Int32.ofInt 2 := c1
  have hX : zX l Γ false (d + 2) zh54 (zMQ' Γ false zh54 Kp) 0 0 74 [(0, .ref 2), (1, .ref 26)] [] (zshC, I, Lg, P) := hX
  have eP := zPn (P := P) hr0
  rw [eP] at hX ⊢
  refine zpcF (M := (zh54, zc54)) 54 74 rfl zckm54 (fun _ _ _ _ h => h) ?_
  refine zdecT c0 (fun _ => ?_)
  refine zdecF c1 (fun _ => ?_)
  exact hX
set_option maxRecDepth 100000 in
set_option maxHeartbeats 4000000 in
theorem rPay26_p3 {l : Launch} {Γ : zG} {d : Nat} {Kp : Option Value → zH → Prop} {h : zH} {v : Int32} (c0 : ¬ v = h.2.1 8 0) (hs : h.1 = zshC) (hr0 : h.2.2.2 2 2 = some 8) (hX : zX l Γ false (d + 1) zh54 (zMQ' Γ false zh54 Kp) 0 0 74 [(0, .ref 2), (1, .ref 26)] [] h) : zX l Γ false (d + 1) zh54 (zMQ' Γ false zh54 Kp) 0 0 57 [(0, .ref 2), (1, .ref 26)] [.int v] h := by
  obtain ⟨s, I, Lg, P⟩ := h
  have hs : s = zshC := hs
  subst hs
  have c0 : ¬ v = I 8 0 := c0
  have hX : zX l Γ false (d + 1) zh54 (zMQ' Γ false zh54 Kp) 0 0 74 [(0, .ref 2), (1, .ref 26)] [] (zshC, I, Lg, P) := hX
  have eP := zPn (P := P) hr0
  rw [eP] at hX ⊢
  refine zpcF (M := (zh54, zc54)) 54 74 rfl zckm54 (fun _ _ _ _ h => h) ?_
  refine zdecF c0 (fun _ => ?_)
  exact hX
set_option maxRecDepth 100000 in
set_option maxHeartbeats 4000000 in
theorem rPay26_p4 {l : Launch} {Γ : zG} {d : Nat} {Kp : Option Value → zH → Prop} {h : zH} {v : Int32} (c0 : v = h.2.1 8 0) (c1 : h.2.1 3 8 = 0) (hs : h.1 = zshC) (hr0 : h.2.2.2 2 2 = some 8) (hr1 : h.2.2.2 2 0 = some 3) (hX : zX l Γ false (d + 2) zh54 (zMQ' Γ false zh54 Kp) 0 0 74 [(0, .ref 2), (1, .ref 26)] [] (h.1, flI (h.2.1) (Int32.ofInt 5), h.2.2)) : zX l Γ false (d + 2) zh54 (zMQ' Γ false zh54 Kp) 0 0 57 [(0, .ref 2), (1, .ref 26)] [.int v] h := by
  obtain ⟨s, I, Lg, P⟩ := h
  have hs : s = zshC := hs
  subst hs
  have c0 : v = I 8 0 := c0
  have c1 : I 3 8 = 0 := c1
  have hX : zX l Γ false (d + 2) zh54 (zMQ' Γ false zh54 Kp) 0 0 74 [(0, .ref 2), (1, .ref 26)] [] (zshC, flI (I) (Int32.ofInt 5), Lg, P) := hX
  have eP := sP_cS (P := P) hr0 hr1
  rw [eP] at hX ⊢
  refine zpcF (M := (zh54, zc54)) 54 74 rfl zckm54 (fun _ _ _ _ h => h) ?_
  refine zdecT c0 (fun _ => ?_)
  refine zdecT c1 (fun _ => ?_)
  exact hX
theorem zPayC26 {l : Launch} {Γ : zG} {d : Nat} {D : zD} {N : zN} {S : zS} {q : Nat} {h : zH} (hi : sInv swC h) (hT : cTk D q h) (h0 : pI h 3 8 = 0) (hR : RC 26 N S h) {KF : zKF} {KO : zKO} (W : wPay D N S q KF (fun N S q => wEnd D q KF (KO N S))) : zSem l Γ false (d + 6) (zhd 54) [.ref 2, .ref 26] h (zCP D 26 KF KO h) := by
  have M0 : sMd (cMdL 26) h h := sMd.rf
  unfold wPay at W
  show zSem l Γ false (d + 5 + 1) zh54 _ _ _
  refine zbody (by decide +kernel) (by decide) ?_
  refine rPay26_b (d := d + 5) hi.1 (hi.r1 (q := 26) (k := 3) (r := 33) (by decide +kernel)) ?_
  refine zcallR (mi := 54) (as := [.ref 33]) (rest := []) (q0 := 2) zv_c54_5 rfl (by decide) (by rw [hi.1]; rfl) ?_
  refine (zBgn33 (d := d + 1) hi hT h0 (r := S 3) (hR.s (j := 3) (by decide))).mono ?_
  rintro rr h1 ⟨rfl, hi1, hm1, ⟨hfull, hf⟩ | ⟨hlt, z1, T1⟩⟩
  · rw [if_pos hfull] at W
    exact zflC (t := (54, 8)) (by decide) (by decide) hT.1.2.2.1 hi1 (M0.seq (hm1.sub (by decide +kernel))) W rfl (by decide) (by decide) hf
  rw [if_neg (by omega)] at W
  have M1 := M0.seq (hm1.sub (md := cMdL 26) (by decide +kernel))
  have R1 := hR.md hm1 rfl (by decide)
  refine rPay26_a18 (d := d + 5) hi1.1 (hi1.r1 (q := 2) (k := 2) (r := 8) (by decide +kernel)) (hi1.r1 (q := 26) (k := 1) (r := 29) (by decide +kernel)) ?_
  refine zcallR (mi := 54) (as := [.ref 29]) (rest := [.int (Int32.ofInt 0), .ref 8]) (q0 := 2) zv_c54_18 rfl (by decide) (by rw [hi1.1]; rfl) ?_
  have eS1 : pI h1 29 3 = (S 1 : Int) := R1.s (j := 1) (by decide)
  have bS1 : pI h1 29 3 ≤ 8 := by
    have g := hi1.2.2.1 29 3
    rw [show sIv swC 29 3 = (0, 8) from by decide +kernel] at g
    exact g.2
  refine (zThrC (d := d + 1) (R := 29) (f := N 1) (r := S 1) hi1 T1 z1 (by rw [hi1.1]; rfl) (fun v => (zfindC29 (d := d + 2) hi1 (v := v) (r := S 1) eS1 (by omega)).mono (fun rr h' hh => ⟨hh.1, hh.2.choose, hh.2.choose_spec.1, hh.2.choose_spec.2.trans (fIx_eq (fun i hlt => R1.n1 hlt))⟩))).mono ?_
  rintro rr h2 ⟨hi2, hm2, x2, rfl, hw⟩
  refine rPay26_s18 (d := d + 5) hi2.1 ?_
  obtain ⟨hi3, hm3, nv, no⟩ := c8_i hi2 (c := 0) (by decide) x2
  have M3 := (M1.seq (hm2.sub (by decide +kernel))).seq (hm3.sub (by decide +kernel))
  rcases hw _ _ (wThr_s W) with ⟨cc, p, hF, c1, c2, hf⟩ | ⟨v3, q3, ⟨vs3, W⟩, ev, z3, T3⟩
  · exact zflC (t := (54, 22)) (by decide) (by decide) hT.1.2.2.1 hi3 M3 hF rfl c1 c2 (hf.md hm3 rfl rfl)
  have R3 := (R1.md hm2 rfl (by decide)).md hm3 rfl (by decide)
  replace z3 := (pI_md hm3 rfl).trans z3
  replace T3 := T3.md hm3 rfl rfl
  have nr3 := nv.trans ev
  generalize hg3 : (h2.1, zu2 h2.2.1 8 0 x2, h2.2.2) = h3 at *
  have PAY : ∀ h5, sInv swC h5 → sMd (cMdL 26) h h5 → cTk D q3 h5 → pI h5 3 8 = 0 → RC 26 N S h5 → pI h5 8 0 = v3 → ¬ (kF D q3 = 2 ∧ fIx (N 1) (S 1) (lF D q3) = v3) → zX l Γ false (d + 6) zh54 (zMQ' Γ false zh54 (zCP D 26 KF KO h)) 0 0 74 [(0, .ref 2), (1, .ref 26)] [] h5 := ?_
  · have nb := fIx_bd (N 1) (S 1) (lF D q3)
    have kq : (h3.2.1 3 4).toInt = kF D q3 := T3.2.2.1
    have zq : h3.2.1 3 8 = 0 := deq (by rw [show (0 : Int32).toInt = 0 from by decide]; exact z3)
    by_cases k2 : kF D q3 = 2
    · refine rPay26_p1 (d := d + 4) zq (deq (by rw [kq, k2]; decide)) hi3.1 (hi3.r1 (q := 2) (k := 0) (r := 3) (by decide +kernel)) (hi3.r1 (q := 26) (k := 1) (r := 29) (by decide +kernel)) ?_
      refine zcallR (mi := 54) (as := [.int (h3.2.1 3 6)]) (rest := []) (q0 := 29) zv_c54_54 rfl (by decide) (by rw [hi3.1]; rfl) ?_
      have eS : pI h3 29 3 = (S 1 : Int) := R3.s (j := 1) (by decide)
      have bS : pI h3 29 3 ≤ 8 := by
        have g := hi3.2.2.1 29 3
        rw [show sIv swC 29 3 = (0, 8) from by decide +kernel] at g
        exact g.2
      refine (zfindC29 (d := d + 3) hi3 (v := h3.2.1 3 6) (r := S 1) eS (by omega)).mono ?_
      rintro rr h' ⟨rfl, x, rfl, hx⟩
      have hx : x.toInt = fIx (N 1) (S 1) (lF D q3) := by
        rw [hx, show (h'.2.1 3 6).toInt = lF D q3 from T3.2.2.2.2.1 k2]
        exact fIx_eq (fun i hlt => R3.n1 hlt)
      have r0 : (h'.2.1 8 0).toInt = v3 := nr3
      by_cases ea : fIx (N 1) (S 1) (lF D q3) = v3
      · refine rPay26_p4 (d := d + 4) (deq (by rw [hx, r0, ea])) zq hi3.1 (hi3.r1 (q := 2) (k := 2) (r := 8) (by decide +kernel)) (hi3.r1 (q := 2) (k := 0) (r := 3) (by decide +kernel)) ?_
        obtain ⟨s5, I5, Lg5, P5⟩ := h'
        have es5 : s5 = zshC := hi3.1
        subst es5
        obtain ⟨f1, f2, f3, f4⟩ := cfl (c := Int32.ofInt 5) hi3 T3.1 (by decide)
        have W5 : KF 5 q3 := by
          have W := W
          unfold wThr at W
          rw [if_pos k2, if_neg (by omega), if_pos ea] at W
          exact W
        exact zflC (t := (54, 74)) (by decide) (by decide) hT.1.2.2.1 f1 (M3.seq (f3.sub (by decide +kernel))) W5 (show (I5 3 5).toInt = (q3 : Int) from T3.2.2.2.1) (by decide) (by decide) f4
      · refine rPay26_p3 (d := d + 5) (den (by rw [hx, r0]; exact ea)) hi3.1 (hi3.r1 (q := 2) (k := 2) (r := 8) (by decide +kernel)) ?_
        exact PAY h' hi3 M3 T3 z3 R3 nr3 (fun g => ea g.2)
    · refine rPay26_p2 (d := d + 4) zq (den (by rw [kq]; exact k2)) hi3.1 (hi3.r1 (q := 2) (k := 0) (r := 3) (by decide +kernel)) ?_
      exact PAY h3 hi3 M3 T3 z3 R3 nr3 (fun g => k2 g.1)
  clear hi3 M3 z3 R3 nr3
  intro h5 hi5 M5 T5 z5 R5 nr5 hne
  have q5 : q3 = q3 := rfl
  refine rPay26_a84 (d := d + 5) hi5.1 (hi5.r1 (q := 2) (k := 2) (r := 8) (by decide +kernel)) (hi5.r1 (q := 26) (k := 1) (r := 29) (by decide +kernel)) ?_
  refine zcallR (mi := 54) (as := [.ref 29]) (rest := [.int (Int32.ofInt 1), .ref 8]) (q0 := 2) zv_c54_84 rfl (by decide) (by rw [hi5.1]; rfl) ?_
  have eS5 : pI h5 29 3 = (S 1 : Int) := R5.s (j := 1) (by decide)
  have bS5 : pI h5 29 3 ≤ 8 := by
    have g := hi5.2.2.1 29 3
    rw [show sIv swC 29 3 = (0, 8) from by decide +kernel] at g
    exact g.2
  refine (zThrC (d := d + 1) (R := 29) (f := N 1) (r := S 1) hi5 T5 z5 (by rw [hi5.1]; rfl) (fun v => (zfindC29 (d := d + 2) hi5 (v := v) (r := S 1) eS5 (by omega)).mono (fun rr h' hh => ⟨hh.1, hh.2.choose, hh.2.choose_spec.1, hh.2.choose_spec.2.trans (fIx_eq (fun i hlt => R5.n1 hlt))⟩))).mono ?_
  rintro rr h6 ⟨hi6, hm6, x6, rfl, hw⟩
  refine rPay26_s84 (d := d + 5) hi6.1 ?_
  obtain ⟨hi7, hm7, nv, no⟩ := c8_i hi6 (c := 1) (by decide) x6
  have M7 := (M5.seq (hm6.sub (by decide +kernel))).seq (hm7.sub (by decide +kernel))
  rcases hw _ _ (wThr_s W) with ⟨cc, p, hF, c1, c2, hf⟩ | ⟨v7, q7, ⟨vs7, W⟩, ev, z7, T7⟩
  · exact zflC (t := (54, 88)) (by decide) (by decide) hT.1.2.2.1 hi7 M7 hF rfl c1 c2 (hf.md hm7 rfl rfl)
  have R7 := (R5.md hm6 rfl (by decide)).md hm7 rfl (by decide)
  replace z7 := (pI_md hm7 rfl).trans z7
  replace T7 := T7.md hm7 rfl rfl
  have nr7 := (no 0 (by decide)).trans ((pI_md hm6 rfl).trans nr5)
  have nr7_1 := nv.trans ev
  generalize hg7 : (h6.1, zu2 h6.2.1 8 1 x6, h6.2.2) = h7 at *
  have W : wNum D 0 99 q7 KF (fun m q => wNum D 1 99 q KF (fun g q => wEnd D q KF (KO (nPy N (S 3) v3 v7 m g) (sU S 3 (S 3 + 1))))) := by
    have W : (if v7 = v3 then KF 5 q3 else wNum D 0 99 q7 KF (fun m q => wNum D 1 99 q KF (fun g q => wEnd D q KF (KO (nPy N (S 3) v3 v7 m g) (sU S 3 (S 3 + 1)))))) := W
    rw [if_neg ?_] at W
    · exact W
    · exact fun g => hne ⟨vs7.1, by rw [← vs7.2.2]; exact g⟩
  refine rPay26_a97 (d := d + 5) hi7.1 (hi7.r1 (q := 2) (k := 2) (r := 8) (by decide +kernel)) ?_
  refine zcallR (mi := 54) (as := [.int (Int8.ofInt 99).toInt32, .int (Int32.ofInt 0)]) (rest := [.int (Int32.ofInt 2), .ref 8]) (q0 := 2) zv_c54_97 rfl (by decide) (by rw [hi7.1]; rfl) ?_
  refine (zNumC (d := d + 1) hi7 T7 z7 (a := Int32.ofInt 0) (b := (Int8.ofInt 99).toInt32) (L := 0) (H := 99) (by decide) (by decide)).mono ?_
  rintro rr h8 ⟨hi8, hm8, x8, rfl, hw⟩
  refine rPay26_s97 (d := d + 5) hi8.1 ?_
  obtain ⟨hi9, hm9, nv, no⟩ := c8_i hi8 (c := 2) (by decide) x8
  have M9 := (M7.seq (hm8.sub (by decide +kernel))).seq (hm9.sub (by decide +kernel))
  rcases hw _ _ W with ⟨cc, p, hF, c1, c2, hf⟩ | ⟨v9, q9, W, ev, z9, T9⟩
  · exact zflC (t := (54, 101)) (by decide) (by decide) hT.1.2.2.1 hi9 M9 hF rfl c1 c2 (hf.md hm9 rfl rfl)
  have R9 := (R7.md hm8 rfl (by decide)).md hm9 rfl (by decide)
  replace z9 := (pI_md hm9 rfl).trans z9
  replace T9 := T9.md hm9 rfl rfl
  have nr9 := (no 0 (by decide)).trans ((pI_md hm8 rfl).trans nr7)
  have nr9_1 := (no 1 (by decide)).trans ((pI_md hm8 rfl).trans nr7_1)
  have nr9_2 := nv.trans ev
  generalize hg9 : (h8.1, zu2 h8.2.1 8 2 x8, h8.2.2) = h9 at *
  refine rPay26_a110 (d := d + 5) hi9.1 (hi9.r1 (q := 2) (k := 2) (r := 8) (by decide +kernel)) ?_
  refine zcallR (mi := 54) (as := [.int (Int8.ofInt 99).toInt32, .int (Int32.ofInt 1)]) (rest := [.int (Int32.ofInt 3), .ref 8]) (q0 := 2) zv_c54_110 rfl (by decide) (by rw [hi9.1]; rfl) ?_
  refine (zNumC (d := d + 1) hi9 T9 z9 (a := Int32.ofInt 1) (b := (Int8.ofInt 99).toInt32) (L := 1) (H := 99) (by decide) (by decide)).mono ?_
  rintro rr h10 ⟨hi10, hm10, x10, rfl, hw⟩
  refine rPay26_s110 (d := d + 5) hi10.1 ?_
  obtain ⟨hi11, hm11, nv, no⟩ := c8_i hi10 (c := 3) (by decide) x10
  have M11 := (M9.seq (hm10.sub (by decide +kernel))).seq (hm11.sub (by decide +kernel))
  rcases hw _ _ W with ⟨cc, p, hF, c1, c2, hf⟩ | ⟨v11, q11, W, ev, z11, T11⟩
  · exact zflC (t := (54, 114)) (by decide) (by decide) hT.1.2.2.1 hi11 M11 hF rfl c1 c2 (hf.md hm11 rfl rfl)
  have R11 := (R9.md hm10 rfl (by decide)).md hm11 rfl (by decide)
  replace z11 := (pI_md hm11 rfl).trans z11
  replace T11 := T11.md hm11 rfl rfl
  have nr11 := (no 0 (by decide)).trans ((pI_md hm10 rfl).trans nr9)
  have nr11_1 := (no 1 (by decide)).trans ((pI_md hm10 rfl).trans nr9_1)
  have nr11_2 := (no 2 (by decide)).trans ((pI_md hm10 rfl).trans nr9_2)
  have nr11_3 := nv.trans ev
  generalize hg11 : (h10.1, zu2 h10.2.1 8 3 x10, h10.2.2) = h11 at *
  refine rPay26_f (d := d + 5) hi11.1 (hi11.r1 (q := 26) (k := 3) (r := 33) (by decide +kernel)) ?_
  refine zcallR (mi := 54) (as := [.ref 33]) (rest := []) (q0 := 2) zv_c54_119 rfl (by decide) (by rw [hi11.1]; rfl) ?_
  refine (zFin33 (d := d) hi11 T11 z11 (r := S 3) (R11.s (j := 3) (by decide)) hlt).mono ?_
  rintro rr h' ⟨rfl, hi', hw⟩
  refine rPay26_r (d := d + 5) ?_
  rcases hw _ _ W with ⟨hm', cc, p, hF, c1, c2, hf⟩ | ⟨hm', ⟨q', W', z', T'⟩, g3, gc⟩
  · exact ⟨rfl, hi', M11.seq (hm'.sub (by decide +kernel)), Or.inl ⟨cc, p, hF, c1, c2, hf⟩⟩
  · refine ⟨rfl, hi', M11.tr hm' (adS33 hlt), Or.inr ⟨_, _, _, W', z', T', ?_⟩⟩
    exact R11.add (k := 3) (r := S 3) (by decide) (by decide) rfl (adK33 hm') g3 (fun a i g => nP_ne g) (fun c hc => (gc c hc).trans (nP_at (f := pI h11 8) nr11 nr11_1 nr11_2 nr11_3 c hc))
