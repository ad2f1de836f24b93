/-! the reference's lineRead -/
def lwMd (k : Nat) : sM := [(0, 4, 6), (0, 7, 11), (0, 23, 24), (0, 48, 54), (19, k, k + 1), (20, k, k + 1), (21, k, k + 1), (22, 64, 128), (23, 64, 128), (24, 64, 128), (25, 0, 96), (26, 0, 96)]
theorem lwM_ok : [3, 4, 5].all (fun k => (List.range 11).all (fun j => j == 10 || (j == 4 + k || !smem (lwMd k) (rmA j).1 (rmA j).2)) && (ssubB (lwMd k) lnMd && (decide (rmA (4 + k) = (19, k)) && ([3, 4, 5].all (fun j => j == k || (!smem (lwMd k) 19 j && !smem (lwMd k) 21 j)) && (ssubB uMd (lwMd k) && ssubB [(19, k, k + 1)] (lwMd k) && (ssubB [(20, k, k + 1)] (lwMd k) && ssubB [(21, k, k + 1)] (lwMd k))))))) = true := by decide +kernel
theorem lwMd56 (k : Nat) (hk : k ∈ [3, 4, 5]) : rmQ (lwMd k) = true := by
  simp only [List.mem_cons, List.not_mem_nil, or_false] at hk
  rcases hk with rfl | rfl | rfl <;> decide +kernel
theorem nLw_ne {N : zN} {j : Nat} {e : List Int} {a i : Nat} (h : a ≠ 20 + j) : nLw N j e a i = N a i := if_neg h
theorem nLw_at {N : zN} {j : Nat} {e : List Int} : nLw N j e (20 + j) = fun i => e.getD i 0 := by
  funext i
  exact if_pos rfl
theorem sLw_j {S : zS} {j c : Nat} {e : List Int} (hj : j < 3) : sLw S j c e (7 + j) = 1 ∧ sLw S j c e (14 + j) = S 10 ∧ sLw S j c e 10 = c ∧ sLw S j c e (11 + j) = e.length := by
  unfold sLw
  refine ⟨?_, ?_, ?_, sU_at⟩
  · rw [sU_ne (by omega), sU_ne (by omega), sU_ne (by omega), sU_at]
  · rw [sU_ne (by omega), sU_ne (by omega), sU_at]
  · rw [sU_ne (by omega), sU_at]
theorem sLw_ne {S : zS} {j c i : Nat} {e : List Int} (h : i ≠ 7 + j ∧ i ≠ 14 + j ∧ i ≠ 10 ∧ i ≠ 11 + j) : sLw S j c e i = S i := by
  unfold sLw
  rw [sU_ne h.2.2.2, sU_ne h.2.2.1, sU_ne h.2.1, sU_ne h.1]
theorem RM.law {N : zN} {S : zS} {h h' : zH} {k j0 c : Nat} {e : List Int} (hR : RM N S h) (hk : k ∈ [3, 4, 5]) (ej : k = 3 + j0) (hm : sMd (lwMd k) h h') (h19 : pI h' 19 k = 1) (h51 : pI h' 0 51 = (c : Int)) (h23 : pI h' 0 23 = pI h' 0 51) (h20 : pI h' 20 k = (S 10 : Int)) (h21 : pI h' 21 k = (c : Int)) (h21b : 1 ≤ pI h' 21 k ∧ pI h' 21 k ≤ 64) (hl : S 10 + e.length = c) (hX : kR (fun i => pI h' 22 (64 + i)) (fun i => pI h' 23 (64 + i)) (fun i => pI h' 24 (64 + i)) (S 10) e) (hX1 : (ixs (S 10) e).length = 1) (hP : ∀ i, i < S 10 → pI h' 22 (64 + i) = pI h 22 (64 + i) ∧ pI h' 23 (64 + i) = pI h 23 (64 + i) ∧ pI h' 24 (64 + i) = pI h 24 (64 + i)) : RM (nLw N j0 e) (sLw S j0 c e) h' := by
  have B := List.all_eq_true.mp lwM_ok k hk
  simp only [Bool.and_eq_true, decide_eq_true_eq] at B
  obtain ⟨b1, b2, b3, b4, b5⟩ := B
  obtain ⟨r1, r2, r3, r4, r5, r6⟩ := hR
  have mq := lwMd56 k hk
  have hk3 : 3 ≤ k ∧ k < 6 := by
    simp only [List.mem_cons, List.not_mem_nil, or_false] at hk
    omega
  have hj0 : j0 < 3 := by omega
  obtain ⟨l1, l2, l3, l4⟩ := sLw_j (S := S) (c := c) (e := e) hj0
  refine ⟨fun j hlt => ?_, fun t ht i hlt => ?_, ⟨?_, ?_⟩, h23, fun j h3 h6 => ?_, fun j hj h0 => ?_⟩
  · by_cases e10 : j = 10
    · subst e10
      rw [l3]
      exact h51
    by_cases e : j = 4 + k
    · subst e
      rw [b3, show 4 + k = 7 + j0 from by omega, l1]
      exact h19
    rw [sLw_ne (by omega)]
    have h1 := List.all_eq_true.mp b1 j (List.mem_range.mpr hlt)
    simp only [Bool.or_eq_true, beq_iff_eq, Bool.not_eq_true'] at h1
    rcases h1 with h1 | h1 | h1
    · exact absurd h1 e10
    · exact absurd h1 e
    · exact (pI_md hm h1).trans (r1 j hlt)
  · have h5 := (colsA_c ht).2.2.1
    have h13 := (colsA_c ht).2.2.2.1
    rw [sLw_ne (by omega)] at hlt
    rw [nLw_ne (by omega)]
    exact (pI_md hm (rmQ_c mq ht _)).trans (r2 t ht i hlt)
  · rw [nLw_ne (by omega)]
    exact (pI_md hm (rmQ_o mq).1).trans r3.1
  · rw [nLw_ne (by omega)]
    exact (pI_md hm (rmQ_o mq).2).trans r3.2
  · by_cases e : j = k
    · subst e
      exact fun _ => h21b
    · have hj : j ∈ [3, 4, 5] := by
        simp only [List.mem_cons, List.not_mem_nil, or_false]
        omega
      have h1 := List.all_eq_true.mp b4 j hj
      simp only [Bool.or_eq_true, beq_iff_eq, Bool.and_eq_true, Bool.not_eq_true'] at h1
      rcases h1 with h1 | h1
      · exact absurd h1 e
      · exact (r5 j h3 h6).congr (pI_md hm h1.1) (pI_md hm h1.2)
  · by_cases e0 : j = j0
    · subst e0
      rw [l2, l3, l4, nLw_at, lsF_get, ← ej]
      exact ⟨h20, by omega, by omega, hX, hX1⟩
    · rw [sLw_ne (by omega)] at h0
      obtain ⟨a1, a2, a3, a4⟩ := r6 j hj h0
      have off : ∀ q, q = 20 ∨ q = 21 → smem (lwMd k) q (3 + j) = false := fun q hq => by
        cases hc : smem (lwMd k) q (3 + j) with
        | false => rfl
        | true =>
          simp only [smem, lwMd, List.any_cons, List.any_nil, Bool.or_eq_true, Bool.and_eq_true, beq_iff_eq, decide_eq_true_eq, Bool.or_false] at hc
          omega
      rw [sLw_ne (i := 14 + j) (by omega), sLw_ne (i := 11 + j) (by omega), l3, pI_md hm (off 20 (by omega)), pI_md hm (off 21 (by omega))]
      refine ⟨a1, a2, by omega, ?_⟩
      rw [lsF_eq (S (11 + j)) (f := nLw N j0 e (20 + j)) (g := N (20 + j)) (fun k _ => nLw_ne (by omega))]
      refine ⟨kR_eq (fun i h1 h2 => hP i ?_) a4.1, a4.2⟩
      rw [lsF_len] at h2
      omega
/-! its ways -/
def lrL : List (Nat × Nat) := [(0, 69), (1, 77), (2, 85), (3, 93), (4, 101), (7, 131)]
theorem lr1 : lrL.all (fun t => spmB swM sT0 [] 200 2 201 [] [sr0] (a1 [(0, 8, (1, 1)), (0, 9, ((t.1 : Int), (t.1 : Int)))]) [] [(t.2, [sr0], lnL, sA0, [], [])] []) = true := by decide +kernel
theorem lr2 : spmB swM sT0 [] 200 2 201 [] [sr0] (a1 [(0, 8, (1, 1)), (0, 9, (5, 5))]) [] [(112, [sI1 100 100, sI1 0 0, sr0], lnL, sA0, [], [])] [] = true := by decide +kernel
theorem lr3 : spmB swM sT0 [] 200 2 201 [] [sr0] (a1 [(0, 8, (1, 1)), (0, 9, (6, 6))]) [] [(123, [sI1 99999 99999, sI1 1 1, sr0], lnL, sA0, [], [])] [] = true := by decide +kernel
theorem lr4 : [a1 [(0, 8, (0, 0))], a1 [(0, 8, (2, 6))], a1 [(0, 8, (1, 1)), (0, 9, (8, 20))]].all (fun A => spmB swM sT0 [(0, 4, 6)] 200 2 201 [] [sr0] A fP [] [fR 1]) = true := by decide +kernel
theorem lr5 : [a1 [(0, 8, (0, 0))], a1 [(0, 8, (2, 6))], a1 [(0, 8, (1, 1)), (0, 9, (0, 7))], a1 [(0, 8, (1, 1)), (0, 9, (11, 20))]].all (fun A => spqB swM sT0 [(0, 4, 6)] 200 2 201 lnL A fP [] 134 [] [fR 1]) = true := by decide +kernel
def lrK (k : Nat) : List (Nat × sT) := [(0, sr0), (2, sI1 k k)]
theorem lr6 : [3, 4, 5].all (fun (k : Nat) => spqB swM sT0 [(0, 4, 6)] 200 2 201 lnL (a1 [(0, 8, (1, 1)), (0, 9, ((k : Int) + 5, (k : Int) + 5)), (19, k, (1, 1))]) fP [] 134 [] [fR 3] && (spqB swM sT0 [(19, k, k + 1)] 200 2 201 lnL (a1 [(0, 8, (1, 1)), (0, 9, ((k : Int) + 5, (k : Int) + 5)), (19, k, (0, 0))]) [] [] 134 [(199, [sr0], lrK k, a1 [(19, k, (1, 1))], [], [])] [] && spqB swM sT0 [(20, k, k + 1)] 200 2 201 (lrK k) sA0 [(0, (none, 23), (0, 64))] [] 202 [(213, [sr0], lrK k, sA0, [(20, k, 0, 0)], [])] [])) = true := by decide +kernel
theorem lr7 : [3, 4, 5].all (fun k => spqB swM sT0 [(21, k, k + 1)] 200 2 201 (lrK k) sA0 [] [0] 216 [] [rI 0 sA0 []] && (lnF.all (fun A => spqB swM sT0 [(21, k, k + 1), (0, 4, 6)] 200 2 201 (lrK k) A fP [1] 216 [] [fR 1]) && spqB swM sT0 [(21, k, k + 1)] 200 2 201 (lrK k) (a1 [(0, 8, (4, 4)), (0, 9, (59, 59))]) [(0, (none, 23), (0, 64))] [1] 216 [(249, [sr0], lnL, sA0, [(21, k, 0, 0)], [])] [])) = true := by decide +kernel
theorem zv_lr69 : zcvB 201 69 12 0 203 = true := by decide +kernel
theorem zv_lr77 : zcvB 201 77 12 0 206 = true := by decide +kernel
theorem zv_lr85 : zcvB 201 85 12 0 210 = true := by decide +kernel
theorem zv_lr93 : zcvB 201 93 12 0 211 = true := by decide +kernel
theorem zv_lr101 : zcvB 201 101 12 0 212 = true := by decide +kernel
theorem zv_lr112 : zcvB 201 112 12 2 213 = true := by decide +kernel
theorem zv_lr123 : zcvB 201 123 12 2 213 = true := by decide +kernel
theorem zv_lr131 : zcvB 201 131 12 0 195 = true := by decide +kernel
theorem zv_lr199 : zcvB 201 199 12 0 195 = true := by decide +kernel
theorem zv_lr213 : zcvB 201 213 12 0 214 = true := by decide +kernel
theorem zLawR {l : Launch} {Γ : zG} {d : Nat} {D : zD} {N : zN} {S : zS} {q : Nat} {h0 h : zH} {lo : zL} (hL : ∀ t ∈ lnL, ∃ v, zget lo t.1 = some v ∧ sTok t.2 v) (hi : sInv swM h) (hM : sMd lnMd h0 h) (hT : tTk D (qF D q) h) (hR : RM N S h) {KF : zKF} {KO : zKO} (W : wLaw D N S q KF (fun N S q => wEnd D q KF (KO N S))) : zX l Γ false (d + 6) (zhd 201) (zMQ' Γ false (zhd 201) (zLP D KF KO h0)) 0 0 134 lo [] h := by
  have f := tkB_f hT.2.2.2
  unfold wLaw at W
  by_cases hk : 18 ≤ kF D (qF D q) ∧ kF D (qF D q) ≤ 20
  · rw [if_pos hk] at W
    obtain ⟨k, ek, hk3⟩ : ∃ k : Nat, (k : Int) = kF D (qF D q) - 15 ∧ k ∈ [3, 4, 5] := ⟨(kF D (qF D q) - 15).toNat, by omega, by
      simp only [List.mem_cons, List.not_mem_nil, or_false]
      omega⟩
    have hk6 : 3 ≤ k ∧ k < 6 := by omega
    obtain ⟨j0, ej0⟩ : ∃ j0, k = 3 + j0 := ⟨k - 3, by omega⟩
    have e7' : (kF D (qF D q) - 18).toNat = j0 := by omega
    have e7 : 7 + j0 = 4 + k := by omega
    rw [e7', e7] at W
    have B6 := List.all_eq_true.mp lr6 k hk3
    have B7 := List.all_eq_true.mp lr7 k hk3
    have BM := List.all_eq_true.mp lwM_ok k hk3
    simp only [Bool.and_eq_true, decide_eq_true_eq] at B6 B7 BM
    obtain ⟨bm1, bm2, bm3, bm4, ⟨bm5, bm6⟩, bm7, bm8⟩ := BM
    have s19 : pI h 19 k = (S (4 + k) : Int) := by
      have := hR.1 (4 + k) (by omega)
      rw [bm3] at this
      exact this
    have b19 : 0 ≤ pI h 19 k ∧ pI h 19 k ≤ 1 := by
      simp only [List.mem_cons, List.not_mem_nil, or_false] at hk3
      rcases hk3 with rfl | rfl | rfl <;> exact pbd (iv := (0, 1)) hi (by decide +kernel)
    by_cases hS : S (4 + k) = 0
    · rw [if_pos hS] at W
      refine spq_c (pc := 134) (fun _ => 0) B6.2.1 (by omega) hL (sAok.of (iB (by omega) (by omega) (iB (by omega) (by omega) (iB (by omega) (by omega) iE)))) trivial hi rfl ?_
      intro lo1 st1 h1 hp hi1 hm1
      obtain ⟨p1, L1, p3, p4, p5⟩ := hp
      obtain ⟨vr, _, rfl, hr, hn⟩ := p1
      have hr : vr = .ref 0 := hr
      subst hr
      have hn : _ = [] := hn
      subst hn
      have a19 : 1 ≤ pI h1 19 k ∧ pI h1 19 k ≤ 1 := p3.1 (19, k, (1, 1)) List.mem_cons_self
      refine zcallV (as := []) zv_lr199 rfl (by rw [hi1.1]; rfl) ?_
      refine (ztokR (d := d + 3) hi1 (hT.1.md hm1 (by rfl) (by rfl) (by rfl))).mono ?_
      rintro r2 h2 ⟨rfl, hi2, T2, hm2⟩
      have b23' : 0 ≤ pI h2 0 23 ∧ pI h2 0 23 ≤ 64 := pbd (iv := (0, 64)) hi2 (by decide +kernel)
      refine spq_c (pc := 202) (fun _ => pI h2 0 23) B6.2.2 (by omega) L1 (sA0_ok _) ⟨⟨rfl, b23'.1, b23'.2⟩, trivial⟩ hi2 rfl ?_
      intro lo3 st3 h3 hp hi3 hm3
      obtain ⟨p1, L3, p3, p4, p5⟩ := hp
      obtain ⟨vr, _, rfl, hr, hn⟩ := p1
      have hr : vr = .ref 0 := hr
      subst hr
      have hn : _ = [] := hn
      subst hn
      have g20 : pI h3 20 k = pI h2 0 23 + 0 := p4 (20, k, 0, 0) List.mem_cons_self
      have T3 : tTk D (qF D (qF D q)) h3 := T2.md hm3 (by rfl)
      have M3 : sMd (lwMd k) h h3 := ((hm1.sub bm6).seq (hm2.sub (by rfl))).seq (hm3.sub bm7)
      have k51 : pI h3 0 51 = pI h 0 51 := (pI_md hm3 (by rfl)).trans ((pI_md hm2 rfl).trans (pI_md hm1 (by rfl)))
      have k23 : pI h3 0 23 = pI h 0 23 := (pI_md hm3 (by rfl)).trans ((pI_md hm2 rfl).trans (pI_md hm1 (by rfl)))
      have s51 : pI h 0 51 = (S 10 : Int) := hR.1 10 (by decide)
      have s23 := hR.2.2.2.1
      refine zcallV (as := []) zv_lr213 rfl (by rw [hi3.1]; rfl) ?_
      refine (zSumR (d := d) hi3 T3 (cN := S 10) (by omega) (by omega) (G := fun q i => pI h3 q (64 + i)) (fun i _ => ⟨rfl, rfl, rfl⟩) W).mono ?_
      rintro r4 h4 ⟨hi4, hm4, x4, rfl, ⟨c, p, hF, hx, hf⟩ | ⟨c, e, q4, W4, hx, T4, g51, g23, g1, X4, ix4⟩⟩
      · refine spq_r (pc := 216) (fun _ => 0) B7.1 (by omega) L3 (sA0_ok _) trivial hi4 ⟨x4, [], rfl, hx, rfl⟩ ?_
        intro x h' hx hi' hm' _ _
        exact ⟨hi', hM.seq (((M3.seq (hm4.sub bm5)).seq (hm'.sub bm8)).sub bm2), x, rfl, Or.inl ⟨c, p, hF, hx, by unfold fM; rw [pI_md hm' (by rfl), pI_md hm' (by rfl)]; exact hf⟩⟩
      · have M4 : sMd (lwMd k) h h4 := M3.seq (hm4.sub bm5)
        have W4 : wEnd D q4 KF (KO (nLw N j0 e) (sLw S j0 c e)) := W4
        unfold wEnd at W4
        by_cases h4' : kF D q4 = 4
        · rw [if_pos h4'] at W4
          have f4 := tkB_f T4.2.2.2
          have b23 : 0 ≤ pI h4 0 23 ∧ pI h4 0 23 ≤ 64 := pbd (iv := (0, 64)) hi4 (by decide +kernel)
          refine spq_c (pc := 216) (fun _ => pI h4 0 23) B7.2.2 (by omega) L3 (sAok.of (iB (by omega) (by omega) (iB (by omega) (by omega) iE))) ⟨⟨rfl, b23.1, b23.2⟩, trivial⟩ hi4 ⟨x4, [], rfl, hx, rfl⟩ ?_
          intro lo5 st5 h5 hp hi5 hm5
          obtain ⟨p1, L5, p3, p4, p5⟩ := hp
          obtain ⟨vr, _, rfl, hr, hn⟩ := p1
          have hr : vr = .ref 0 := hr
          subst hr
          have hn : _ = [] := hn
          subst hn
          have g21 : pI h5 21 k = pI h4 0 23 + 0 := p4 (21, k, 0, 0) List.mem_cons_self
          refine zcallV (as := []) zv_ln rfl (by rw [hi5.1]; rfl) ?_
          refine (ztokR (d := d + 3) hi5 (T4.1.md hm5 (by rfl) (by rfl) (by rfl))).mono ?_
          rintro r6 h6 ⟨rfl, hi6, T6, hm6⟩
          refine spq_r (pc := 252) (fun _ => 0) lnB3 (by omega) L5 (sA0_ok _) trivial hi6 rfl ?_
          intro x h' hx hi' hm' _ _
          have M' : sMd (lwMd k) h h' := ((M4.seq (hm5.sub bm8)).seq (hm6.sub (by rfl))).seq (hm'.sub rfl)
          have w : ∀ {a b : Nat}, smem [(0, 7, 11)] a b = false → pI h' a b = pI h5 a b := fun z => (pI_md hm' rfl).trans (pI_md hm6 z)
          have q19 : pI h' 19 k = 1 := by
            rw [w (smem1n (by omega)), pI_md hm5 (smem1n (by omega)), pI_md hm4 (by rfl), pI_md hm3 (smem1n (by omega)), pI_md hm2 (smem1n (by omega))]
            omega
          have w22 : ∀ a b, a = 22 ∨ a = 23 ∨ a = 24 → pI h' a b = pI h4 a b := fun a b hab => (w (smem1n (by omega))).trans (pI_md hm5 (smem1n (by omega)))
          have w0 : ∀ a b, 22 ≤ a → pI h3 a b = pI h a b := fun a b hab => (pI_md hm3 (smem1n (by omega))).trans ((pI_md hm2 (smem1n (by omega))).trans (pI_md hm1 (smem1n (by omega))))
          have q20 : pI h' 20 k = (S 10 : Int) := by
            rw [w (smem1n (by omega)), pI_md hm5 (smem1n (by omega)), pI_md hm4 (by rfl), g20]
            have : pI h2 0 23 = pI h 0 23 := (pI_md hm2 rfl).trans (pI_md hm1 (by rfl))
            omega
          have q51 : pI h' 0 51 = pI h4 0 51 := (w rfl).trans (pI_md hm5 (by rfl))
          have q23 : pI h' 0 23 = pI h4 0 23 := (w rfl).trans (pI_md hm5 (by rfl))
          have q21 : pI h' 21 k = pI h5 21 k := w (smem1n (by omega))
          refine ⟨hi', hM.seq (M'.sub bm2), x, rfl, Or.inr ⟨_, _, _, W4, hx, T6.md hm' rfl, hR.law (e := e) hk3 ej0 M' q19 (by omega) (by omega) q20 (by omega) (by omega) (by have := X4.1; omega) (kR_eq (kd := fun i => pI h4 22 (64 + i)) (pt := fun i => pI h4 23 (64 + i)) (ot := fun i => pI h4 24 (64 + i)) (fun i _ _ => ⟨w22 22 (64 + i) (Or.inl rfl), w22 23 (64 + i) (Or.inr (Or.inl rfl)), w22 24 (64 + i) (Or.inr (Or.inr rfl))⟩) X4.2.1) ix4 (fun i hi => ?_)⟩⟩
          obtain ⟨y1, y2, y3⟩ := X4.2.2.2 i hi
          rw [w22 22 _ (Or.inl rfl), w22 23 _ (Or.inr (Or.inl rfl)), w22 24 _ (Or.inr (Or.inr rfl)), y1, y2, y3]
          exact ⟨w0 22 _ (by omega), w0 23 _ (by omega), w0 24 _ (by omega)⟩
        · rw [if_neg h4'] at W4
          obtain ⟨A, hA, ok⟩ := lnF_in T4 h4'
          refine spq_ok (pc := 216) (fun _ => pI h4 0 10) (List.all_eq_true.mp B7.2.1 A hA) (fun mi c h => nomatch h) (by omega) L3 ok (fP_ok hi4) hi4 ⟨x4, [], rfl, hx, rfl⟩ (fun e he => nomatch he) ?_
          intro e he r' h' hp hi' hm'
          have e := List.mem_singleton.mp he
          subst e
          obtain ⟨x, rfl, hx, hf⟩ := fR_ok hp
          refine ⟨hi', hM.seq ((M4.seq (sMd.sub hm' ?_)).sub bm2), x, rfl, Or.inl ⟨1, q4, W4, hx, by rw [← T4.2.2.1]; exact hf⟩⟩
          simp only [List.mem_cons, List.not_mem_nil, or_false] at hk3
          rcases hk3 with rfl | rfl | rfl <;> rfl
    · rw [if_neg hS] at W
      refine spq_f (pc := 134) B6.1 (by omega) hL (sAok.of (iB (by omega) (by omega) (iB (by omega) (by omega) (iB (by omega) (by omega) iE)))) hi rfl ?_
      intro x h' hx hi' hm' hf
      exact ⟨hi', hM.seq (hm'.sub rfl), x, rfl, Or.inl ⟨3, _, W, hx, by rw [← hT.2.2.1]; exact hf⟩⟩
  · rw [if_neg hk] at W
    have B := List.all_eq_true.mp lr5
    have fin : ∀ A ∈ [a1 [(0, 8, (0, 0))], a1 [(0, 8, (2, 6))], a1 [(0, 8, (1, 1)), (0, 9, (0, 7))], a1 [(0, 8, (1, 1)), (0, 9, (11, 20))]], sAok A h → zX l Γ false (d + 6) (zhd 201) (zMQ' Γ false (zhd 201) (zLP D KF KO h0)) 0 0 134 lo [] h := fun A hA ok => by
      refine spq_f (pc := 134) (B A hA) (by omega) hL ok hi rfl ?_
      intro x h' hx hi' hm' hf
      exact ⟨hi', hM.seq (hm'.sub rfl), x, rfl, Or.inl ⟨1, _, W, hx, by rw [← hT.2.2.1]; exact hf⟩⟩
    by_cases c0 : pI h 0 8 = 0
    · exact fin (a1 [(0, 8, (0, 0))]) (by decide) (sAok.of (iB (by omega) (by omega) iE))
    by_cases c1 : 2 ≤ pI h 0 8
    · exact fin (a1 [(0, 8, (2, 6))]) (by decide) (sAok.of (iB (by omega) (by omega) iE))
    by_cases c2 : pI h 0 9 ≤ 7
    · exact fin (a1 [(0, 8, (1, 1)), (0, 9, (0, 7))]) (by decide) (sAok.of (iB (by omega) (by omega) (iB (by omega) (by omega) iE)))
    · exact fin (a1 [(0, 8, (1, 1)), (0, 9, (11, 20))]) (by decide) (sAok.of (iB (by omega) (by omega) (iB (by omega) (by omega) iE)))
theorem zLP.of {D : zD} {KF : zKF} {KO : zKO} {h0 h1 h' : zH} {r : Option Value} {md : sM} (hm : sMd md h0 h1) (hb : ssubB md lnMd = true) (hz : zLP D KF KO h1 r h') : zLP D KF KO h0 r h' := by
  obtain ⟨a, b, c⟩ := hz
  exact ⟨a, (hm.sub hb).seq b, c⟩
theorem zLinR {l : Launch} {Γ : zG} {d : Nat} {D : zD} {N : zN} {S : zS} {q : Nat} {h : zH} (hi : sInv swM h) (hT : tTk D q h) (hR : RM N S h) {KF : zKF} {KO : zKO} (W : wLin D N S q KF KO) : zSem l Γ false (d + 6) (zhd 201) [.ref 0] h (zLP D KF KO h) := by
  have f := tkB_f hT.2.2.2
  unfold wLin at W
  have line : ∀ (j p : Nat) (hmem : (j, p) ∈ lrL), pI h 0 8 = 1 → pI h 0 9 = (j : Int) → (∀ lo1 h1, (∀ t ∈ lnL, ∃ v, zget lo1 t.1 = some v ∧ sTok t.2 v) → sInv swM h1 → sMd [] h h1 → tTk D q h1 → RM N S h1 → zX l Γ false (d + 6) (zhd 201) (zMQ' Γ false (zhd 201) (zLP D KF KO h)) 0 0 p lo1 [.ref 0] h1) → zSem l Γ false (d + 6) (zhd 201) [.ref 0] h (zLP D KF KO h) := fun j p hmem h8 h9 hX => by
    refine spm_c (fun _ => 0) (List.all_eq_true.mp lr1 (j, p) hmem) (by omega) ⟨_, _, rfl, rfl, rfl⟩ (sAok.of (iB (by omega) (by omega) (iB (by omega) (by omega) iE))) trivial hi ?_
    intro lo1 st1 h1 hp hi1 hm1
    obtain ⟨p1, L1, p3, p4, p5⟩ := hp
    obtain ⟨vr, _, rfl, hr, hn⟩ := p1
    have hr : vr = .ref 0 := hr
    subst hr
    have hn : _ = [] := hn
    subst hn
    exact hX lo1 h1 L1 hi1 hm1 (hT.md hm1 rfl) (hR.md hm1 rfl)
  by_cases k0 : kF D q = 10
  · rw [if_pos k0] at W
    refine line 0 69 (by decide) (by omega) (by omega) (fun lo1 h1 L1 hi1 hm1 T1 R1 => ?_)
    refine zcallV (as := []) zv_lr69 rfl (by rw [hi1.1]; rfl) ?_
    refine (zManR (d := d + 1) hi1 T1 R1 W).mono ?_
    intro r h2 hz
    exact zlnE (d := d + 2) (p := 72) (by decide) L1 (hz.of hm1 rfl)
  rw [if_neg k0] at W
  by_cases k1 : kF D q = 11
  · rw [if_pos k1] at W
    refine line 1 77 (by decide) (by omega) (by omega) (fun lo1 h1 L1 hi1 hm1 T1 R1 => ?_)
    refine zcallV (as := []) zv_lr77 rfl (by rw [hi1.1]; rfl) ?_
    refine (zGlsR (d := d + 1) hi1 T1 R1 W).mono ?_
    intro r h2 hz
    exact zlnE (d := d + 2) (p := 80) (by decide) L1 (hz.of hm1 rfl)
  rw [if_neg k1] at W
  by_cases k2 : kF D q = 12
  · rw [if_pos k2] at W
    refine line 2 85 (by decide) (by omega) (by omega) (fun lo1 h1 L1 hi1 hm1 T1 R1 => ?_)
    refine zcallV (as := []) zv_lr85 rfl (by rw [hi1.1]; rfl) ?_
    refine (zTrnR (d := d + 1) hi1 T1 R1 W).mono ?_
    intro r h2 hz
    exact zlnE (d := d + 2) (p := 88) (by decide) L1 (hz.of hm1 rfl)
  rw [if_neg k2] at W
  by_cases k3 : kF D q = 13
  · rw [if_pos k3] at W
    refine line 3 93 (by decide) (by omega) (by omega) (fun lo1 h1 L1 hi1 hm1 T1 R1 => ?_)
    refine zcallV (as := []) zv_lr93 rfl (by rw [hi1.1]; rfl) ?_
    refine (zPayR (d := d + 1) hi1 T1 R1 W).mono ?_
    intro r h2 hz
    exact zlnE (d := d + 2) (p := 96) (by decide) L1 (hz.of hm1 rfl)
  rw [if_neg k3] at W
  by_cases k4 : kF D q = 14
  · rw [if_pos k4] at W
    refine line 4 101 (by decide) (by omega) (by omega) (fun lo1 h1 L1 hi1 hm1 T1 R1 => ?_)
    refine zcallV (as := []) zv_lr101 rfl (by rw [hi1.1]; rfl) ?_
    refine (zSivR (d := d + 1) hi1 T1 R1 W).mono ?_
    intro r h2 hz
    exact zlnE (d := d + 2) (p := 104) (by decide) L1 (hz.of hm1 rfl)
  rw [if_neg k4] at W
  by_cases k5 : kF D q = 15
  · rw [if_pos k5] at W
    refine spm_c (fun _ => 0) lr2 (by omega) ⟨_, _, rfl, rfl, rfl⟩ (sAok.of (iB (by omega) (by omega) (iB (by omega) (by omega) iE))) trivial hi ?_
    intro lo1 st1 h1 hp hi1 hm1
    obtain ⟨p1, L1, p3, p4, p5⟩ := hp
    obtain ⟨_, _, rfl, ⟨u0, rfl, u0a, u0b⟩, _, _, rfl, ⟨u1, rfl, u1a, u1b⟩, u2, _, rfl, u2r, hn⟩ := p1
    have u0a : 100 ≤ u0.toInt := u0a
    have u0b : u0.toInt ≤ 100 := u0b
    have u1a : 0 ≤ u1.toInt := u1a
    have u1b : u1.toInt ≤ 0 := u1b
    have u2r : u2 = .ref 0 := u2r
    subst u2r
    have hn : _ = [] := hn
    subst hn
    refine zcallV (as := [.int u0, .int u1]) zv_lr112 rfl (by rw [hi1.1]; rfl) ?_
    refine (zDmpR (d := d + 1) hi1 (hT.md hm1 rfl) (hR.md hm1 rfl) (a1 := u1) (a2 := u0) (by omega) (by omega) W).mono ?_
    intro r h2 hz
    exact zlnE (d := d + 2) (p := 115) (by decide) L1 (hz.of hm1 rfl)
  rw [if_neg k5] at W
  by_cases k6 : kF D q = 16
  · rw [if_pos k6] at W
    refine spm_c (fun _ => 0) lr3 (by omega) ⟨_, _, rfl, rfl, rfl⟩ (sAok.of (iB (by omega) (by omega) (iB (by omega) (by omega) iE))) trivial hi ?_
    intro lo1 st1 h1 hp hi1 hm1
    obtain ⟨p1, L1, p3, p4, p5⟩ := hp
    obtain ⟨_, _, rfl, ⟨u0, rfl, u0a, u0b⟩, _, _, rfl, ⟨u1, rfl, u1a, u1b⟩, u2, _, rfl, u2r, hn⟩ := p1
    have u0a : 99999 ≤ u0.toInt := u0a
    have u0b : u0.toInt ≤ 99999 := u0b
    have u1a : 1 ≤ u1.toInt := u1a
    have u1b : u1.toInt ≤ 1 := u1b
    have u2r : u2 = .ref 0 := u2r
    subst u2r
    have hn : _ = [] := hn
    subst hn
    refine zcallV (as := [.int u0, .int u1]) zv_lr123 rfl (by rw [hi1.1]; rfl) ?_
    refine (zSedR (d := d + 1) hi1 (hT.md hm1 rfl) (hR.md hm1 rfl) (a1 := u1) (a2 := u0) (by omega) (by omega) W).mono ?_
    intro r h2 hz
    exact zlnE (d := d + 2) (p := 126) (by decide) L1 (hz.of hm1 rfl)
  rw [if_neg k6] at W
  by_cases k7 : kF D q = 17
  · rw [if_pos k7] at W
    refine line 7 131 (by decide) (by omega) (by omega) (fun lo1 h1 L1 hi1 hm1 T1 R1 => ?_)
    refine zcallV (as := []) zv_lr131 rfl (by rw [hi1.1]; rfl) ?_
    refine (ztokR (d := d + 3) hi1 T1.1).mono ?_
    rintro r2 h2 ⟨rfl, hi2, T2, hm2⟩
    exact zLawR (d := d) L1 hi2 ((hm1.sub rfl).seq (hm2.sub rfl)) T2 (R1.md hm2 rfl) W
  rw [if_neg k7] at W
  have B := List.all_eq_true.mp lr4
  have fin : ∀ A ∈ [a1 [(0, 8, (0, 0))], a1 [(0, 8, (2, 6))], a1 [(0, 8, (1, 1)), (0, 9, (8, 20))]], sAok A h → zSem l Γ false (d + 6) (zhd 201) [.ref 0] h (zLP D KF KO h) := fun A hA ok => by
    refine spm_f (B A hA) (by omega) ⟨_, _, rfl, rfl, rfl⟩ ok hi ?_
    intro x h' hx hi' hm' hf
    exact ⟨hi', hm'.sub rfl, x, rfl, Or.inl ⟨1, _, W, hx, by rw [← hT.2.2.1]; exact hf⟩⟩
  by_cases c0 : pI h 0 8 = 0
  · exact fin (a1 [(0, 8, (0, 0))]) (by decide) (sAok.of (iB (by omega) (by omega) iE))
  by_cases c1 : 2 ≤ pI h 0 8
  · exact fin (a1 [(0, 8, (2, 6))]) (by decide) (sAok.of (iB (by omega) (by omega) iE))
  · exact fin (a1 [(0, 8, (1, 1)), (0, 9, (8, 20))]) (by decide) (sAok.of (iB (by omega) (by omega) (iB (by omega) (by omega) iE)))
