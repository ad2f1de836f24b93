/-! the class: laws -/
theorem RC.law {d0 : Nat} {N : zN} {S : zS} {h h' : zH} (hR : RC d0 N S h) {j c : Nat} {e : List Int} (hj : j < 3) (hd : 9 ≤ d0) (kept : ∀ q i, ¬ (q < 9 ∨ (q = d0 + 11 ∧ 1 ≤ i ∧ i ≤ 2) ∨ q = d0 + 12 ∨ (q = d0 + 13 ∧ i = j) ∨ (q = d0 + 14 ∧ i = j)) → pI h' q i = pI h q i) (h1 : pI h' (d0 + 13) j = (S 10 : Int)) (h2 : pI h' (d0 + 11) 2 = (c : Int)) (h3 : pI h' (d0 + 14) j = (c : Int)) (hX : CX (d0 + 11) (S 10) (pI h (d0 + 12)) e h') (hl : S 10 + e.length = c) : RC d0 (nLw N j e) (sLw S j c e) h' := by
  obtain ⟨r1, r2, r3, r4, r5, r6⟩ := hR
  obtain ⟨l1, l2, l3, l4⟩ := sLw_j (S := S) (c := c) (e := e) hj
  obtain ⟨x1, x2, x3⟩ := hX
  refine ⟨fun i hi => ?_, ?_, fun i hi => ?_, fun k c i h1 h2 hlt => ?_, fun i hi => ?_, ?_, fun i hi h0 => ?_⟩
  · rw [sLw_ne (by omega), ← r1 i hi]
    refine kept _ _ ?_
    unfold rcA
    split <;> simp only <;> omega
  · rw [l3]
    exact h2
  · by_cases e : i = j
    · subst e
      rw [l1, h1]
      exact ⟨fun g => absurd g (by decide), fun g => by omega⟩
    · rw [sLw_ne (by omega), kept _ _ (by omega)]
      exact r3 i hi
  · have k5 := h1
    have c14 := clO_14 h1 h2
    rw [sLw_ne (by omega)] at hlt
    rw [nLw_ne (by omega), ← r4 k c i h1 h2 hlt]
    exact kept _ _ (by omega)
  · rw [nLw_ne (by omega), ← r5 i hi]
    exact kept _ _ (by omega)
  · rw [l3, ← hl]
    exact x1
  · by_cases e0 : i = j
    · subst e0
      rw [l2, l3, l4, nLw_at, lsF_get]
      exact ⟨h1, by omega, by omega, x2⟩
    · rw [sLw_ne (by omega)] at h0
      obtain ⟨a1, a2, a3, a4⟩ := r6.2 i hi h0
      rw [sLw_ne (i := 14 + i) (by omega), sLw_ne (i := 11 + i) (by omega), l3, kept _ _ (by omega), kept _ _ (by omega)]
      refine ⟨a1, a2, by omega, ?_⟩
      rw [lsF_eq (S (11 + i)) (f := nLw N j e (20 + i)) (g := N (20 + i)) (fun k _ => nLw_ne (by omega))]
      refine cdC_eq (fun k _ hk => x3 k ?_) a4
      rw [lsF_len] at hk
      omega
def dLs : List Nat := [9, 26]
def lwB (d0 : Nat) : List (Nat × sT) := [(0, .inr (.inl 2)), (1, .inr (.inl d0))]
def lwL (d0 j : Nat) : List (Nat × sT) := [(0, .inr (.inl 2)), (1, .inr (.inl d0)), (2, sI1 j j)]
theorem lw0 : dLs.all (fun d0 => spmB swC sT0 [] 100 1 58 [] [.inr (.inl 2), .inr (.inl d0)] sA0 [] [(4, [.inr (.inl 3)], lwB d0, sA0, [], [])] [] && (spqB swC sT0 [(3, 8, 10)] 200 2 58 (lwB d0) (a1 [(3, 8, (0, 0)), (3, 4, (0, 17))]) cfP [] 7 [] [cfR 1] && spqB swC sT0 [(3, 8, 10)] 200 2 58 (lwB d0) (a1 [(3, 8, (0, 0)), (3, 4, (21, 63))]) cfP [] 7 [] [cfR 1])) = true := by decide +kernel
theorem lw1 : dLs.all (fun d0 => (List.range 3).all (fun j => spqB swC sT0 [(3, 8, 10)] 200 2 58 (lwB d0) (a1 [(3, 8, (0, 0)), (3, 4, (18 + (j : Int), 18 + (j : Int))), (d0 + 13, j, (0, 64))]) cfP [] 7 [] [cfR 3] && (spqB swC sT0 [] 200 2 58 (lwB d0) (a1 [(3, 4, (18 + (j : Int), 18 + (j : Int))), (d0 + 13, j, (-1, -1))]) [] [] 7 [(60, [.inr (.inl 3)], lwL d0 j, sA0, [], [])] [] && (spqB swC sT0 [(d0 + 13, j, j + 1)] 200 2 58 (lwL d0 j) sA0 [(d0 + 11, (none, 1), (0, 64))] [] 63 [(83, [.inr (.inl (d0 + 11)), .inr (.inl 3), .inr (.inl 6)], lwL d0 j, a1 [(d0 + 13, j, (0, 64))], [(d0 + 13, j, 0, 0)], [])] [] && (spqB swC sT0 [(d0 + 14, j, j + 1)] 200 2 58 (lwL d0 j) sA0 [(d0 + 11, (none, 1), (0, 64))] [] 86 [(95, [.inr (.inl 2)], lwL d0 j, sA0, [(d0 + 14, j, 0, 0)], [])] [] && (spqB swC sT0 [] 200 2 58 (lwL d0 j) sA0 [] [] 98 [] [(none, sA0, [])] && spqB swC cT2 [(3, 3, 8), (d0 + 14, 0, 3)] 1000 5 58 (lwL d0 j) fpr [] [] 86 [] [(none, sA0, [])])))))) = true := by decide +kernel
theorem zv_lw4 : zcvB 58 4 2 0 34 = true := by decide +kernel
theorem zv_lw60 : zcvB 58 60 2 0 34 = true := by decide +kernel
theorem zv_lw83 : zcvB 58 83 3 2 61 = true := by decide +kernel
theorem zv_lw95 : zcvB 58 95 1 0 48 = true := by decide +kernel
theorem lw_s {d0 : Nat} (hd : d0 ∈ dLs) : ssubB [(3, 3, 8)] (cMdL d0) = true ∧ ssubB [(3, 8, 10)] (cMdL d0) = true ∧ ssubB (reM (d0 + 11)) (cMdL d0) = true ∧ (List.range 3).all (fun j => ssubB [(d0 + 14, j, j + 1)] (cMdL d0)) = true ∧ ssubB [(3, 3, 8), (d0 + 14, 0, 3)] (cMdL d0) = true ∧ ssubB [(3, 3, 10)] (cMdL d0) = true ∧ (List.range 3).all (fun j => ssubB [(d0 + 13, j, j + 1)] (cMdL d0)) = true ∧ smem (cMdL d0) 3 1 = false := by
  simp only [dLs, List.mem_cons, List.not_mem_nil, or_false] at hd
  rcases hd with rfl | rfl <;> decide +kernel
theorem zLawC {l : Launch} {Γ : zG} {d d0 : Nat} (hd0 : d0 ∈ dLs) {D : zD} {N : zN} {S : zS} {q : Nat} {h : zH} (hi : sInv swC h) (hT : cTk D q h) (h0 : pI h 3 8 = 0) (hR : RC d0 N S h) (hk0 : kF D q ≠ 0) {KF : zKF} {KO : zKO} (W : wLaw D N S q KF (fun N S q => wEnd D q KF (KO N S))) : zSem l Γ false (d + 6) (zhd 58) [.ref 2, .ref d0] h (zCP D d0 KF KO h) := by
  have B0 := List.all_eq_true.mp lw0 d0 hd0
  have B1 := List.all_eq_true.mp lw1 d0 hd0
  simp only [Bool.and_eq_true] at B0
  obtain ⟨s1, s2, s3, s4, s5, s6, s7, s8⟩ := lw_s hd0
  have hd9 : 9 ≤ d0 ∧ rL (d0 + 11) := by
    simp only [dLs, List.mem_cons, List.not_mem_nil, or_false] at hd0
    rcases hd0 with rfl | rfl
    · exact ⟨by decide, Or.inl rfl⟩
    · exact ⟨by decide, Or.inr rfl⟩
  obtain ⟨hd9, hrL⟩ := hd9
  have M0 : sMd (cMdL d0) h h := sMd.rf
  have hq := hT.2.1
  have kz := kF_0 hq
  have qb := qF_bd hq
  have qb2 := qF_bd qb.2.1
  refine spm_c (fun _ => 0) B0.1 (by omega) ⟨_, _, rfl, rfl, _, _, rfl, rfl, rfl⟩ (sA0_ok _) trivial hi ?_
  intro lo1 st1 h1 hp hi1 hm1
  obtain ⟨p1, L1, p3, p4, p5⟩ := hp
  obtain ⟨u0, _, rfl, u0r, hn⟩ := p1
  have u0r : u0 = .ref 3 := u0r
  subst u0r
  have hn : _ = [] := hn
  subst hn
  have M1 := M0.seq (hm1.sub rfl)
  refine znx (mi := 58) (d := d + 2) zv_lw4 (by decide) hi1 (hT.mdo hm1 rfl (fun j _ => rfl)).1 (fun h2 hi2 T2 hm2 => ?_)
  have T2 : cTk D (qF D q) h2 := T2
  have z2 : pI h2 3 8 = 0 := (pI_md hm2 rfl).trans ((pI_md hm1 rfl).trans h0)
  have M2 := M1.seq (hm2.sub s1)
  have R2 := (hR.md hm1 rfl hd9).md hm2 rfl hd9
  have tk := T2.2.2.1
  have t5 := T2.2.2.2.1
  have kb := kF_bd T2.2.1
  unfold wLaw at W
  have flt : ∀ (c0 : Int) (A : sAs), 1 ≤ c0 → c0 ≤ 5 → spqB swC sT0 [(3, 8, 10)] 200 2 58 (lwB d0) A cfP [] 7 [] [cfR c0] = true → sAok A h2 → KF c0 (qF D q) → zX l Γ false (d + 6) (zhd 58) (zMQ' Γ false (zhd 58) (zCP D d0 KF KO h)) 0 0 7 lo1 [] h2 := fun c0 A b1 b2 hb ok hF => by
    refine spq_ok (pc := 7) (fun _ => pI h2 3 5) hb (fun mi c h => nomatch h) (by omega) L1 ok (cfP_ok hi2) hi2 rfl (fun e he => nomatch he) ?_
    intro e he r' h' hp' hi' hm'
    have e := List.mem_singleton.mp he
    subst e
    obtain ⟨hr, hf⟩ := cfR_ok hp'
    exact ⟨hr, hi', M2.seq (hm'.sub s2), Or.inl ⟨c0, _, hF, b1, b2, by rw [← t5]; exact hf⟩⟩
  by_cases hk : 18 ≤ kF D (qF D q) ∧ kF D (qF D q) ≤ 20
  · rw [if_pos hk] at W
    obtain ⟨j, ej⟩ : ∃ j : Nat, (j : Int) = kF D (qF D q) - 18 := ⟨(kF D (qF D q) - 18).toNat, by omega⟩
    have hj3 : j < 3 := by omega
    have ej2 : (kF D (qF D q) - 18).toNat = j := by omega
    rw [ej2] at W
    have B := List.all_eq_true.mp B1 j (List.mem_range.mpr hj3)
    simp only [Bool.and_eq_true] at B
    obtain ⟨b1, b2, b3, b4, b5, b6⟩ := B
    have s7j := List.all_eq_true.mp s7 j (List.mem_range.mpr hj3)
    have frm := R2.2.2.1 j hj3
    have fb : -1 ≤ pI h2 (d0 + 13) j ∧ pI h2 (d0 + 13) j ≤ 64 := by
      have g := hi2.2.2.1 (d0 + 13) j
      have e : sIv swC (d0 + 13) j = (-1, 64) := by
        have hj : j = 0 ∨ j = 1 ∨ j = 2 := by omega
        simp only [dLs, List.mem_cons, List.not_mem_nil, or_false] at hd0
        rcases hd0 with rfl | rfl <;> rcases hj with rfl | rfl | rfl <;> decide +kernel
      rw [e] at g
      exact g
    by_cases hS : S (7 + j) = 0
    · rw [if_pos hS] at W
      have f1 := frm.mp hS
      refine spq_c (pc := 7) (fun _ => 0) b2 (by omega) L1 (sAok.of (iB (by omega) (by omega) (iB (by omega) (by omega) iE))) trivial hi2 rfl ?_
      intro lo3 st3 h3 hp hi3 hm3
      obtain ⟨p1, L3, p3, p4, p5⟩ := hp
      obtain ⟨u0, _, rfl, u0r, hn⟩ := p1
      have u0r : u0 = .ref 3 := u0r
      subst u0r
      have hn : _ = [] := hn
      subst hn
      have M3 := M2.seq (hm3.sub rfl)
      refine znx (mi := 58) (d := d + 2) zv_lw60 (by decide) hi3 (T2.mdo hm3 rfl (fun j _ => rfl)).1 (fun h4 hi4 T4 hm4 => ?_)
      have T4 : cTk D (qF D (qF D q)) h4 := T4
      have z4 : pI h4 3 8 = 0 := (pI_md hm4 rfl).trans ((pI_md hm3 rfl).trans z2)
      have M4 := M3.seq (hm4.sub s1)
      have R4 := (R2.md hm3 rfl hd9).md hm4 rfl hd9
      have len4 : pI h4 (d0 + 11) 1 = (S 10 : Int) := R4.2.2.2.2.2.1
      have s10 : S 10 ≤ 64 := by
        have g := hi4.2.2.1 (d0 + 11) 2
        have e : sIv swC (d0 + 11) 2 = (0, 64) := by
          simp only [dLs, List.mem_cons, List.not_mem_nil, or_false] at hd0
          rcases hd0 with rfl | rfl <;> decide +kernel
        rw [e] at g
        have g2 : pI h4 (d0 + 11) 2 = (S 10 : Int) := R4.2.1
        have g : 0 ≤ pI h4 (d0 + 11) 2 ∧ pI h4 (d0 + 11) 2 ≤ 64 := g
        omega
      refine spq_c (pc := 63) (fun _ => pI h4 (d0 + 11) 1) b3 (by omega) L3 (sA0_ok _) ⟨⟨rfl, by show 0 ≤ pI h4 (d0 + 11) 1; omega, by show pI h4 (d0 + 11) 1 ≤ 64; omega⟩, trivial⟩ hi4 rfl ?_
      intro lo5 st5 h5 hp hi5 hm5
      obtain ⟨p1, L5, p3, p4, p5⟩ := hp
      obtain ⟨u0, _, rfl, u0r, u1, _, rfl, u1r, u2, _, rfl, u2r, hn⟩ := p1
      have u0r : u0 = .ref (d0 + 11) := u0r
      subst u0r
      have u1r : u1 = .ref 3 := u1r
      subst u1r
      have u2r : u2 = .ref 6 := u2r
      subst u2r
      have hn : _ = [] := hn
      subst hn
      have g13 : 0 ≤ pI h5 (d0 + 13) j ∧ pI h5 (d0 + 13) j ≤ 64 := p3.1 (d0 + 13, j, (0, 64)) List.mem_cons_self
      have f13 : pI h5 (d0 + 13) j = pI h4 (d0 + 11) 1 + 0 := p4 (d0 + 13, j, 0, 0) List.mem_cons_self
      have M5 := M4.seq (hm5.sub s7j)
      have z5 : pI h5 3 8 = 0 := (pI_md hm5 (smem1n (by omega))).trans z4
      have T5 : cTk D (qF D (qF D q)) h5 := T4.mdo hm5 (by simp only [List.all_cons, List.all_nil, Bool.and_true, Bool.not_eq_true', beq_eq_false_iff_ne]; omega) (fun i _ => smem1n (by omega))
      have c5' : pI h5 (d0 + 11) 2 = (S 10 : Int) := (pI_md hm5 (smem1n (by omega))).trans R4.2.1
      have b10 : pI h5 (d0 + 11) 2 ≤ 64 := by
        have g := hi5.2.2.1 (d0 + 11) 2
        have e : sIv swC (d0 + 11) 2 = (0, 64) := by
          simp only [dLs, List.mem_cons, List.not_mem_nil, or_false] at hd0
          rcases hd0 with rfl | rfl <;> decide +kernel
        rw [e] at g
        exact g.2
      refine zcallR (as := [.ref (d0 + 11), .ref 3]) (rest := []) (q0 := 6) zv_lw83 rfl (by decide) (by rw [hi5.1]; rfl) ?_
      refine (zRdE (d := d) hrL hi5 T5 z5 c5' (by omega) (by omega) ⟨by rw [pI_md hm5 (smem1n (by omega)), len4]; rfl, trivial, fun _ _ => rfl⟩ W).mono ?_
      rintro rr h6 ⟨rfl, hi6, hm6, ⟨c, p, hF, c1, c2, hf⟩ | ⟨c, e, q6, W6, z6, T6, g6, X6, l6⟩⟩
      · have f8 := hf.1
        have M6 := M5.seq (hm6.sub s3)
        refine spq_ok (pc := 86) (fun _ => 0) b6 (cT2d l Γ 5) (by omega) L5 ⟨iB (by omega) (by omega) iE, fun t ht => by
          have ht := List.mem_singleton.mp ht
          subst ht
          exact Eq.trans (M6 3 1 s8).2.1 hT.1.2.2.1, (fun _ h => nomatch h), Or.inl rfl⟩ trivial hi6 rfl (fun e he => nomatch he) ?_
        intro e he r' h' hp' hi' hm'
        have e := List.mem_singleton.mp he
        subst e
        have m8 : ∀ i, 8 ≤ i → smem [(3, 3, 8), (d0 + 14, 0, 3)] 3 i = false := fun i hi => by
          cases hb : smem [(3, 3, 8), (d0 + 14, 0, 3)] 3 i with
          | false => rfl
          | true =>
            simp only [smem, List.any_cons, List.any_nil, Bool.or_eq_true, Bool.and_eq_true, beq_iff_eq, decide_eq_true_eq, Bool.or_false] at hb
            omega
        exact ⟨hp'.1, hi', M6.seq (hm'.sub s5), Or.inl ⟨c, p, hF, c1, c2, hf.md hm' (m8 8 (by decide)) (m8 9 (by decide))⟩⟩
      · have M6 := M5.seq (hm6.sub s3)
        have c64 : c ≤ 64 := by
          have g := hi6.2.2.1 (d0 + 11) 2
          have e : sIv swC (d0 + 11) 2 = (0, 64) := by
            simp only [dLs, List.mem_cons, List.not_mem_nil, or_false] at hd0
            rcases hd0 with rfl | rfl <;> decide +kernel
          rw [e] at g
          have g : 0 ≤ pI h6 (d0 + 11) 2 ∧ pI h6 (d0 + 11) 2 ≤ 64 := g
          omega
        have len6 : pI h6 (d0 + 11) 1 = (c : Int) := by
          rw [← l6]
          exact X6.1
        refine spq_c (pc := 86) (fun _ => pI h6 (d0 + 11) 1) b4 (by omega) L5 (sA0_ok _) ⟨⟨rfl, by show 0 ≤ pI h6 (d0 + 11) 1; omega, by show pI h6 (d0 + 11) 1 ≤ 64; omega⟩, trivial⟩ hi6 rfl ?_
        intro lo7 st7 h7 hp hi7 hm7
        obtain ⟨p1, L7, p3, p4, p5⟩ := hp
        obtain ⟨u0, _, rfl, u0r, hn⟩ := p1
        have u0r : u0 = .ref 2 := u0r
        subst u0r
        have hn : _ = [] := hn
        subst hn
        have f14 : pI h7 (d0 + 14) j = pI h6 (d0 + 11) 1 + 0 := p4 (d0 + 14, j, 0, 0) List.mem_cons_self
        have M7 := M6.seq (hm7.sub (List.all_eq_true.mp s4 j (List.mem_range.mpr hj3)))
        have z7 : pI h7 3 8 = 0 := (pI_md hm7 (smem1n (by omega))).trans z6
        have T7 : cTk D q6 h7 := T6.mdo hm7 (by simp only [List.all_cons, List.all_nil, Bool.and_true, Bool.not_eq_true', beq_eq_false_iff_ne]; omega) (fun i _ => smem1n (by omega))
        refine zcallR (as := []) (rest := []) (q0 := 2) zv_lw95 rfl (by decide) (by rw [hi7.1]; rfl) ?_
        refine (zClsC (d := d + 1) hi7 T7 z7).mono ?_
        rintro rr h8 ⟨rfl, hi8, hm8, hw⟩
        refine spq_ok (pc := 98) (fun _ => 0) b5 (fun mi c h => nomatch h) (by omega) L7 (sA0_ok _) trivial hi8 rfl (fun e he => nomatch he) ?_
        intro e he r' h' hp' hi' hm'
        have e := List.mem_singleton.mp he
        subst e
        have M' := (M7.seq (hm8.sub s6)).seq (hm'.sub rfl)
        have W7 : wEnd D q6 KF (KO (nLw N j e) (sLw S j c e)) := by
          rcases W6 with g | ⟨g4, g⟩
          · exact g
          · unfold wEnd
            rw [if_neg g4]
            exact g
        rcases hw KF _ W7 with ⟨cc, p, hF, c1, c2, hf⟩ | ⟨q', W', z', T'⟩
        · exact ⟨hp'.1, hi', M', Or.inl ⟨cc, p, hF, c1, c2, hf.md hm' rfl rfl⟩⟩
        · refine ⟨hp'.1, hi', M', Or.inr ⟨_, _, q', W', (pI_md hm' rfl).trans z', T'.mdo hm' rfl (fun j _ => rfl), ?_⟩⟩
          have rM : ∀ a i, ¬ (a < 9 ∨ (a = d0 + 11 ∧ 1 ≤ i ∧ i ≤ 2) ∨ a = d0 + 12) → smem (reM (d0 + 11)) a i = false := fun a i hne => by
            cases hb : smem (reM (d0 + 11)) a i with
            | false => rfl
            | true =>
              simp only [smem, reM, List.any_cons, List.any_nil, Bool.or_eq_true, Bool.and_eq_true, beq_iff_eq, decide_eq_true_eq, Bool.or_false] at hb
              omega
          refine R4.law (c := c) (e := e) hj3 hd9 (fun a i hne => ?_) ?_ ?_ ?_ ?_ l6
          · rw [pI_md hm' rfl, pI_md hm8 (smem1n (by omega)), pI_md hm7 (smem1n (by omega)), pI_md hm6 (rM a i (by omega)), pI_md hm5 (smem1n (by omega))]
          · rw [pI_md hm' rfl, pI_md hm8 (smem1n (by omega)), pI_md hm7 (smem1n (by omega)), pI_md hm6 (rM _ _ (by omega))]
            omega
          · rw [pI_md hm' rfl, pI_md hm8 (smem1n (by omega)), pI_md hm7 (smem1n (by omega))]
            exact g6
          · rw [pI_md hm' rfl, pI_md hm8 (smem1n (by omega))]
            omega
          · have X7 := ((X6.md hm7 (smem1n (by omega)) (fun i => smem1n (by omega))).md hm8 (smem1n (by omega)) (fun i => smem1n (by omega))).md hm' rfl (fun _ => rfl)
            exact ⟨X7.1, X7.2.1, fun i hi => (X7.2.2 i hi).trans (pI_md hm5 (smem1n (by omega)))⟩
    · rw [if_neg hS] at W
      have f1 : pI h2 (d0 + 13) j ≠ -1 := fun e => hS (frm.mpr e)
      exact flt 3 _ (by decide) (by decide) b1 (sAok.of (iB (by omega) (by omega) (iB (by omega) (by omega) (iB (by omega) (by omega) iE)))) W
  · rw [if_neg hk] at W
    by_cases c1 : kF D (qF D q) ≤ 17
    · exact flt 1 _ (by decide) (by decide) B0.2.1 (sAok.of (iB (by omega) (by omega) (iB (by omega) (by omega) iE))) W
    · exact flt 1 _ (by decide) (by decide) B0.2.2 (sAok.of (iB (by omega) (by omega) (iB (by omega) (by omega) iE))) W
