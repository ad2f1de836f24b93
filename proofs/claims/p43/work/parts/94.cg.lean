/-! the class: damp and seed -/
theorem RC.once {d0 : Nat} {v : Int} {N : zN} {S : zS} {h h' : zH} (hR : RC d0 N S h) {j : Nat} (hj : j = 5 ∨ j = 6) (hd : 9 ≤ d0) (kept : ∀ q i, ¬ (q = 3 ∨ (q = d0 ∧ 6 ≤ i ∧ i ≤ 9)) → pI h' q i = pI h q i) (h1 : pI h' d0 (j + 3) = 1) (h2 : ∀ i, i = 5 ∨ i = 6 → i ≠ j → pI h' d0 (i + 3) = pI h d0 (i + 3)) (h4 : pI h' d0 (j + 1) = v) (h5 : ∀ i, i = 5 ∨ i = 6 → i ≠ j → pI h' d0 (i + 1) = pI h d0 (i + 1)) : RC d0 (nU N 14 (j - 5) v) (sU S j 1) h' := by
  obtain ⟨r1, r2, r3, r4, r5, r6⟩ := hR
  refine ⟨fun i hi => ?_, ?_, fun i hi => ?_, fun k c i h1 h2 hlt => ?_, fun i hi => ?_, r6.kept (fun q j hq => kept q j (by omega)) (fun a i ha => nUc_ne (by omega)) (fun i hi => sU_ne (by omega))⟩
  · by_cases e : i = j
    · subst e
      rw [sU_at]
      unfold rcA
      rw [if_neg (by omega)]
      exact h1
    · rw [sU_ne e, ← r1 i hi]
      unfold rcA
      split
      · exact kept _ _ (by simp only; omega)
      · exact h2 i (by omega) e
  · rw [sU_ne (by omega), ← r2]
    exact kept _ _ (by omega)
  · rw [sU_ne (by omega), kept _ _ (by omega)]
    exact r3 i hi
  · rw [sU_ne (by omega)] at hlt
    rw [nUc_ne (fun g => by have := clO_14 h1 h2; omega), ← r4 k c i h1 h2 hlt]
    exact kept _ _ (by omega)
  · by_cases e : i = j - 5
    · subst e
      rw [nU_at, ← h4, show 6 + (j - 5) = j + 1 from by omega]
    · rw [nUc_ne (fun g => e g.1), ← r5 i hi, show 6 + i = (i + 5) + 1 from by omega]
      exact h5 (i + 5) (by omega) (by omega)
theorem cO_i {d0 : Nat} (hd : d0 ∈ [9, 26]) {h : zH} (hi : sInv swC h) {a b : Nat} (ha : (a = 6 ∧ b = 8) ∨ (a = 7 ∧ b = 9)) (v : Int32) : sInv swC (h.1, zu2 (zu2 h.2.1 d0 a v) d0 b (Int32.ofInt 1), h.2.2) ∧ sMd [(d0, 6, 10)] h (h.1, zu2 (zu2 h.2.1 d0 a v) d0 b (Int32.ofInt 1), h.2.2) ∧ pI (h.1, zu2 (zu2 h.2.1 d0 a v) d0 b (Int32.ofInt 1), h.2.2) d0 b = 1 ∧ (∀ j, j ≠ a → j ≠ b → pI (h.1, zu2 (zu2 h.2.1 d0 a v) d0 b (Int32.ofInt 1), h.2.2) d0 j = pI h d0 j) ∧ pI (h.1, zu2 (zu2 h.2.1 d0 a v) d0 b (Int32.ofInt 1), h.2.2) d0 a = v.toInt := by
  have g : ∀ q k, smem [(d0, 6, 10)] q k = false → zu2 (zu2 h.2.1 d0 a v) d0 b (Int32.ofInt 1) q k = h.2.1 q k := fun q k hm => by
    have hn := smem1f hm
    rw [zu2_off (by omega), zu2_off (by omega)]
  have eb : zu2 (zu2 h.2.1 d0 a v) d0 b (Int32.ofInt 1) d0 b = Int32.ofInt 1 := zu2_at
  refine ⟨sInv_set hi rfl rfl (md := [(d0, 6, 10)]) g (fun q k hm => ?_) (fun m hmem k => nomatch hmem), fun q k hm => ⟨g q k hm, rfl, rfl⟩, ?_, fun j h1 h2 => ?_, ?_⟩
  · obtain ⟨rfl, g1, g2⟩ := smem1 hm
    by_cases e : k = b
    · subst e
      show (sIv swC q k).1 ≤ (zu2 (zu2 h.2.1 q a v) q k (Int32.ofInt 1) q k).toInt ∧ (zu2 (zu2 h.2.1 q a v) q k (Int32.ofInt 1) q k).toInt ≤ (sIv swC q k).2
      rw [eb]
      simp only [List.mem_cons, List.not_mem_nil, or_false] at hd
      rcases ha with ⟨-, rfl⟩ | ⟨-, rfl⟩ <;> rcases hd with rfl | rfl <;> decide +kernel
    · by_cases e2 : k = a
      · subst e2
        have e3 : sIv swC q k = (-2147483648, 2147483647) := by
          simp only [List.mem_cons, List.not_mem_nil, or_false] at hd
          rcases ha with ⟨rfl, -⟩ | ⟨rfl, -⟩ <;> rcases hd with rfl | rfl <;> decide +kernel
        rw [e3]
        exact i32bd _
      · show (sIv swC q k).1 ≤ (zu2 (zu2 h.2.1 q a v) q b (Int32.ofInt 1) q k).toInt ∧ (zu2 (zu2 h.2.1 q a v) q b (Int32.ofInt 1) q k).toInt ≤ (sIv swC q k).2
        rw [zu2_off (by omega), zu2_off (by omega)]
        exact hi.2.2.1 q k
  · show (zu2 (zu2 h.2.1 d0 a v) d0 b (Int32.ofInt 1) d0 b).toInt = 1
    rw [eb]
    decide
  · show (zu2 (zu2 h.2.1 d0 a v) d0 b (Int32.ofInt 1) d0 j).toInt = _
    rw [zu2_off (by omega), zu2_off (by omega)]
    rfl
  · show (zu2 (zu2 h.2.1 d0 a v) d0 b (Int32.ofInt 1) d0 a).toInt = _
    rw [zu2_off (by omega), zu2_at]
theorem zv_c56_19 : zcvB 56 19 2 0 34 = true := by decide +kernel
theorem zv_c56_27 : zcvB 56 27 1 2 52 = true := by decide +kernel
theorem zv_c56_39 : zcvB 56 39 1 0 48 = true := by decide +kernel
set_option maxRecDepth 100000 in
set_option maxHeartbeats 4000000 in
theorem rDmp9_a {l : Launch} {Γ : zG} {d : Nat} {Kp : Option Value → zH → Prop} {h : zH} (c0 : h.2.1 9 8 = 0) (hs : h.1 = zshC) (hr0 : h.2.2.2 2 0 = some 3) (hX : zX l Γ false (d + 1) zh56 (zMQ' Γ false zh56 Kp) 0 0 19 [(0, .ref 2), (1, .ref 9)] [.ref 3] h) : zX l Γ false (d + 1) zh56 (zMQ' Γ false zh56 Kp) 0 0 0 [(0, .ref 2), (1, .ref 9)] [] h := by
  obtain ⟨s, I, Lg, P⟩ := h
  have hs : s = zshC := hs
  subst hs
  have c0 : I 9 8 = 0 := c0
  have hX : zX l Γ false (d + 1) zh56 (zMQ' Γ false zh56 Kp) 0 0 19 [(0, .ref 2), (1, .ref 9)] [.ref 3] (zshC, I, Lg, P) := hX
  have eP := zPn (P := P) hr0
  rw [eP] at hX ⊢
  refine zpcF (M := (zh56, zc56)) 56 19 rfl zckm56 (fun _ _ _ _ h => h) ?_
  refine zdecT c0 (fun _ => ?_)
  exact hX
set_option maxRecDepth 100000 in
set_option maxHeartbeats 4000000 in
theorem rDmp9_b {l : Launch} {Γ : zG} {d : Nat} {Kp : Option Value → zH → Prop} {h : zH} (c0 : ¬ h.2.1 9 8 = 0) (c1 : h.2.1 3 8 = 0) (hs : h.1 = zshC) (hr0 : h.2.2.2 2 0 = some 3) (hX : zX l Γ false (d + 2) zh56 (zMQ' Γ false zh56 Kp) 0 0 15 [(0, .ref 2), (1, .ref 9)] [] (h.1, flI (h.2.1) (Int32.ofInt 3), h.2.2)) : zX l Γ false (d + 2) zh56 (zMQ' Γ false zh56 Kp) 0 0 0 [(0, .ref 2), (1, .ref 9)] [] h := by
  obtain ⟨s, I, Lg, P⟩ := h
  have hs : s = zshC := hs
  subst hs
  have c0 : ¬ I 9 8 = 0 := c0
  have c1 : I 3 8 = 0 := c1
  have hX : zX l Γ false (d + 2) zh56 (zMQ' Γ false zh56 Kp) 0 0 15 [(0, .ref 2), (1, .ref 9)] [] (zshC, flI (I) (Int32.ofInt 3), Lg, P) := hX
  have eP := zPn (P := P) hr0
  rw [eP] at hX ⊢
  refine zpcF (M := (zh56, zc56)) 56 15 rfl zckm56 (fun _ _ _ _ h => h) ?_
  refine zdecF c0 (fun _ => ?_)
  refine zdecT c1 (fun _ => ?_)
  exact hX
set_option maxRecDepth 100000 in
set_option maxHeartbeats 4000000 in
theorem rDmp9_c {l : Launch} {Γ : zG} {d : Nat} {Kp : Option Value → zH → Prop} {h : zH} (hs : h.1 = zshC)  (hX : zX l Γ false (d + 1) zh56 (zMQ' Γ false zh56 Kp) 0 0 27 [(0, .ref 2), (1, .ref 9)] [.int (Int8.ofInt 100).toInt32, .int (Int32.ofInt 0), .ref 2, .ref 9] h) : zX l Γ false (d + 1) zh56 (zMQ' Γ false zh56 Kp) 0 0 22 [(0, .ref 2), (1, .ref 9)] [] h := by
  obtain ⟨s, I, Lg, P⟩ := h
  have hs : s = zshC := hs
  subst hs
  have hX : zX l Γ false (d + 1) zh56 (zMQ' Γ false zh56 Kp) 0 0 27 [(0, .ref 2), (1, .ref 9)] [.int (Int8.ofInt 100).toInt32, .int (Int32.ofInt 0), .ref 2, .ref 9] (zshC, I, Lg, P) := hX
  refine zpcF (M := (zh56, zc56)) 56 27 rfl zckm56 (fun _ _ _ _ h => h) ?_
  exact hX
set_option maxRecDepth 100000 in
set_option maxHeartbeats 4000000 in
theorem rDmp9_d {l : Launch} {Γ : zG} {d : Nat} {Kp : Option Value → zH → Prop} {h : zH} {v : Int32} (hs : h.1 = zshC)  (hX : zX l Γ false (d + 1) zh56 (zMQ' Γ false zh56 Kp) 0 0 38 [(0, .ref 2), (1, .ref 9)] [] (h.1, zu2 (zu2 h.2.1 9 6 v) 9 8 (Int32.ofInt 1), h.2.2)) : zX l Γ false (d + 1) zh56 (zMQ' Γ false zh56 Kp) 0 0 30 [(0, .ref 2), (1, .ref 9)] [.int v, .ref 9] h := by
  obtain ⟨s, I, Lg, P⟩ := h
  have hs : s = zshC := hs
  subst hs
  have hX : zX l Γ false (d + 1) zh56 (zMQ' Γ false zh56 Kp) 0 0 38 [(0, .ref 2), (1, .ref 9)] [] (zshC, zu2 (zu2 I 9 6 v) 9 8 (Int32.ofInt 1), Lg, P) := hX
  refine zpcF (M := (zh56, zc56)) 56 38 rfl zckm56 (fun _ _ _ _ h => h) ?_
  exact hX
set_option maxRecDepth 100000 in
set_option maxHeartbeats 4000000 in
theorem rDmp9_e {l : Launch} {Γ : zG} {d : Nat} {Kp : Option Value → zH → Prop} {h : zH} (hs : h.1 = zshC)  (hX : zX l Γ false (d + 1) zh56 (zMQ' Γ false zh56 Kp) 0 0 39 [(0, .ref 2), (1, .ref 9)] [.ref 2] h) : zX l Γ false (d + 1) zh56 (zMQ' Γ false zh56 Kp) 0 0 38 [(0, .ref 2), (1, .ref 9)] [] h := by
  obtain ⟨s, I, Lg, P⟩ := h
  have hs : s = zshC := hs
  subst hs
  have hX : zX l Γ false (d + 1) zh56 (zMQ' Γ false zh56 Kp) 0 0 39 [(0, .ref 2), (1, .ref 9)] [.ref 2] (zshC, I, Lg, P) := hX
  refine zpcF (M := (zh56, zc56)) 56 39 rfl zckm56 (fun _ _ _ _ h => h) ?_
  exact hX
set_option maxRecDepth 100000 in
set_option maxHeartbeats 4000000 in
theorem rDmp9_r {l : Launch} {Γ : zG} {d : Nat} {Kp : Option Value → zH → Prop} {h : zH} (hK : Kp none h) : zX l Γ false (d + 1) zh56 (zMQ' Γ false zh56 Kp) 0 0 42 [(0, .ref 2), (1, .ref 9)] [] h := by
  refine zpcF (M := (zh56, zc56)) 56 1000 rfl zckm56 (fun _ _ _ _ h => h) ?_
  exact hK
theorem zDmpC9 {l : Launch} {Γ : zG} {d : Nat} {D : zD} {N : zN} {S : zS} {q : Nat} {h : zH} (hi : sInv swC h) (hT : cTk D q h) (h0 : pI h 3 8 = 0) (hR : RC 9 N S h) {KF : zKF} {KO : zKO} (W : wOnc D 5 100 N S q KF (fun N S q => wEnd D q KF (KO N S))) : zSem l Γ false (d + 6) (zhd 56) [.ref 2, .ref 9] h (zCP D 9 KF KO h) := by
  have M0 : sMd (cMdL 9) h h := sMd.rf
  unfold wOnc at W
  have s0 : pI h 9 8 = (S 5 : Int) := hR.1 5 (by decide)
  have z0 : h.2.1 3 8 = 0 := deq (by rw [show (0 : Int32).toInt = 0 from by decide]; exact h0)
  have P20 : h.2.2.2 2 0 = some 3 := hi.r1 (q := 2) (k := 0) (r := 3) (by decide +kernel)
  show zSem l Γ false (d + 5 + 1) zh56 _ _ _
  refine zbody (by decide +kernel) (by decide) ?_
  by_cases hS : S 5 = 0
  · rw [if_pos hS] at W
    refine rDmp9_a (d := d + 5) (deq (by rw [show (0 : Int32).toInt = 0 from by decide]; show pI h 9 8 = 0; omega)) hi.1 P20 ?_
    refine znx (mi := 56) (d := d + 2) zv_c56_19 (by decide) hi hT.1 (fun h1 hi1 T1 hm1 => ?_)
    have z1 : pI h1 3 8 = 0 := (pI_md hm1 rfl).trans h0
    have M1 := M0.seq (hm1.sub (md := cMdL 9) (by decide +kernel))
    have R1 := hR.md hm1 rfl (by decide)
    refine rDmp9_c (d := d + 5) hi1.1 ?_
    refine zcallR (mi := 56) (as := [.int (Int8.ofInt 100).toInt32, .int (Int32.ofInt 0)]) (rest := [.ref 9]) (q0 := 2) zv_c56_27 rfl (by decide) (by rw [hi1.1]; rfl) ?_
    refine (zNumC (d := d + 1) hi1 T1 z1 (a := Int32.ofInt 0) (b := (Int8.ofInt 100).toInt32) (L := 0) (H := 100) (by decide) (by decide)).mono ?_
    rintro rr h2 ⟨hi2, hm2, x2, rfl, hw⟩
    refine rDmp9_d (d := d + 5) hi2.1 ?_
    obtain ⟨hi3, hm3, nv, no, na⟩ := cO_i (d0 := 9) (by decide) hi2 (a := 6) (b := 8) (by decide) x2
    have M3 := (M1.seq (hm2.sub (by decide +kernel))).seq (hm3.sub (by decide +kernel))
    rcases hw _ _ W with ⟨cc, p, hF, c1, c2, hf⟩ | ⟨v3, q3, W, ev, z3, T3⟩
    · exact zflC (t := (56, 38)) (by decide) (by decide) hT.1.2.2.1 hi3 M3 hF rfl c1 c2 (hf.md hm3 rfl rfl)
    replace z3 := (pI_md hm3 rfl).trans z3
    replace T3 := T3.md hm3 rfl rfl
    have R3 := (R1.md hm2 rfl (by decide)).once (h' := (h2.1, zu2 (zu2 h2.2.1 9 6 x2) 9 8 (Int32.ofInt 1), h2.2.2)) (j := 5) (by decide) (by decide) (fun q i hn => pI_md hm3 (smem1n (by omega))) nv (fun i hi hne => no (i + 3) (by omega) (by omega)) (na.trans ev) (fun i hi hne => no (i + 1) (by omega) (by omega))
    generalize hg3 : (h2.1, zu2 (zu2 h2.2.1 9 6 x2) 9 8 (Int32.ofInt 1), h2.2.2) = h3 at *
    refine rDmp9_e (d := d + 5) hi3.1 ?_
    refine zcallR (mi := 56) (as := []) (rest := []) (q0 := 2) zv_c56_39 rfl (by decide) (by rw [hi3.1]; rfl) ?_
    refine (zClsC (d := d + 1) hi3 T3 z3).mono ?_
    rintro rr h' ⟨rfl, hi', hm', hw⟩
    refine rDmp9_r (d := d + 5) ?_
    rcases hw _ _ W with ⟨cc, p, hF, c1, c2, hf⟩ | ⟨q', W', z', T'⟩
    · exact ⟨rfl, hi', M3.seq (hm'.sub (by decide +kernel)), Or.inl ⟨cc, p, hF, c1, c2, hf⟩⟩
    · exact ⟨rfl, hi', M3.seq (hm'.sub (by decide +kernel)), Or.inr ⟨_, _, _, W', z', T', R3.md hm' rfl (by decide)⟩⟩
  · rw [if_neg hS] at W
    refine rDmp9_b (d := d + 4) (den (by rw [show (0 : Int32).toInt = 0 from by decide]; show pI h 9 8 ≠ 0; omega)) z0 hi.1 P20 ?_
    obtain ⟨s5, I5, Lg5, P5⟩ := h
    have es5 : s5 = zshC := hi.1
    subst es5
    obtain ⟨f1, f2, f3, f4⟩ := cfl (c := Int32.ofInt 3) hi hT.1 (by decide)
    exact zflC (t := (56, 15)) (by decide) (by decide) hT.1.2.2.1 f1 (M0.seq (f3.sub (by decide +kernel))) W (show (I5 3 5).toInt = (q : Int) from hT.2.2.2.1) (by decide) (by decide) f4
set_option maxRecDepth 100000 in
set_option maxHeartbeats 4000000 in
theorem rDmp26_a {l : Launch} {Γ : zG} {d : Nat} {Kp : Option Value → zH → Prop} {h : zH} (c0 : h.2.1 26 8 = 0) (hs : h.1 = zshC) (hr0 : h.2.2.2 2 0 = some 3) (hX : zX l Γ false (d + 1) zh56 (zMQ' Γ false zh56 Kp) 0 0 19 [(0, .ref 2), (1, .ref 26)] [.ref 3] h) : zX l Γ false (d + 1) zh56 (zMQ' Γ false zh56 Kp) 0 0 0 [(0, .ref 2), (1, .ref 26)] [] h := by
  obtain ⟨s, I, Lg, P⟩ := h
  have hs : s = zshC := hs
  subst hs
  have c0 : I 26 8 = 0 := c0
  have hX : zX l Γ false (d + 1) zh56 (zMQ' Γ false zh56 Kp) 0 0 19 [(0, .ref 2), (1, .ref 26)] [.ref 3] (zshC, I, Lg, P) := hX
  have eP := zPn (P := P) hr0
  rw [eP] at hX ⊢
  refine zpcF (M := (zh56, zc56)) 56 19 rfl zckm56 (fun _ _ _ _ h => h) ?_
  refine zdecT c0 (fun _ => ?_)
  exact hX
set_option maxRecDepth 100000 in
set_option maxHeartbeats 4000000 in
theorem rDmp26_b {l : Launch} {Γ : zG} {d : Nat} {Kp : Option Value → zH → Prop} {h : zH} (c0 : ¬ h.2.1 26 8 = 0) (c1 : h.2.1 3 8 = 0) (hs : h.1 = zshC) (hr0 : h.2.2.2 2 0 = some 3) (hX : zX l Γ false (d + 2) zh56 (zMQ' Γ false zh56 Kp) 0 0 15 [(0, .ref 2), (1, .ref 26)] [] (h.1, flI (h.2.1) (Int32.ofInt 3), h.2.2)) : zX l Γ false (d + 2) zh56 (zMQ' Γ false zh56 Kp) 0 0 0 [(0, .ref 2), (1, .ref 26)] [] h := by
  obtain ⟨s, I, Lg, P⟩ := h
  have hs : s = zshC := hs
  subst hs
  have c0 : ¬ I 26 8 = 0 := c0
  have c1 : I 3 8 = 0 := c1
  have hX : zX l Γ false (d + 2) zh56 (zMQ' Γ false zh56 Kp) 0 0 15 [(0, .ref 2), (1, .ref 26)] [] (zshC, flI (I) (Int32.ofInt 3), Lg, P) := hX
  have eP := zPn (P := P) hr0
  rw [eP] at hX ⊢
  refine zpcF (M := (zh56, zc56)) 56 15 rfl zckm56 (fun _ _ _ _ h => h) ?_
  refine zdecF c0 (fun _ => ?_)
  refine zdecT c1 (fun _ => ?_)
  exact hX
set_option maxRecDepth 100000 in
set_option maxHeartbeats 4000000 in
theorem rDmp26_c {l : Launch} {Γ : zG} {d : Nat} {Kp : Option Value → zH → Prop} {h : zH} (hs : h.1 = zshC)  (hX : zX l Γ false (d + 1) zh56 (zMQ' Γ false zh56 Kp) 0 0 27 [(0, .ref 2), (1, .ref 26)] [.int (Int8.ofInt 100).toInt32, .int (Int32.ofInt 0), .ref 2, .ref 26] h) : zX l Γ false (d + 1) zh56 (zMQ' Γ false zh56 Kp) 0 0 22 [(0, .ref 2), (1, .ref 26)] [] h := by
  obtain ⟨s, I, Lg, P⟩ := h
  have hs : s = zshC := hs
  subst hs
  have hX : zX l Γ false (d + 1) zh56 (zMQ' Γ false zh56 Kp) 0 0 27 [(0, .ref 2), (1, .ref 26)] [.int (Int8.ofInt 100).toInt32, .int (Int32.ofInt 0), .ref 2, .ref 26] (zshC, I, Lg, P) := hX
  refine zpcF (M := (zh56, zc56)) 56 27 rfl zckm56 (fun _ _ _ _ h => h) ?_
  exact hX
set_option maxRecDepth 100000 in
set_option maxHeartbeats 4000000 in
theorem rDmp26_d {l : Launch} {Γ : zG} {d : Nat} {Kp : Option Value → zH → Prop} {h : zH} {v : Int32} (hs : h.1 = zshC)  (hX : zX l Γ false (d + 1) zh56 (zMQ' Γ false zh56 Kp) 0 0 38 [(0, .ref 2), (1, .ref 26)] [] (h.1, zu2 (zu2 h.2.1 26 6 v) 26 8 (Int32.ofInt 1), h.2.2)) : zX l Γ false (d + 1) zh56 (zMQ' Γ false zh56 Kp) 0 0 30 [(0, .ref 2), (1, .ref 26)] [.int v, .ref 26] h := by
  obtain ⟨s, I, Lg, P⟩ := h
  have hs : s = zshC := hs
  subst hs
  have hX : zX l Γ false (d + 1) zh56 (zMQ' Γ false zh56 Kp) 0 0 38 [(0, .ref 2), (1, .ref 26)] [] (zshC, zu2 (zu2 I 26 6 v) 26 8 (Int32.ofInt 1), Lg, P) := hX
  refine zpcF (M := (zh56, zc56)) 56 38 rfl zckm56 (fun _ _ _ _ h => h) ?_
  exact hX
set_option maxRecDepth 100000 in
set_option maxHeartbeats 4000000 in
theorem rDmp26_e {l : Launch} {Γ : zG} {d : Nat} {Kp : Option Value → zH → Prop} {h : zH} (hs : h.1 = zshC)  (hX : zX l Γ false (d + 1) zh56 (zMQ' Γ false zh56 Kp) 0 0 39 [(0, .ref 2), (1, .ref 26)] [.ref 2] h) : zX l Γ false (d + 1) zh56 (zMQ' Γ false zh56 Kp) 0 0 38 [(0, .ref 2), (1, .ref 26)] [] h := by
  obtain ⟨s, I, Lg, P⟩ := h
  have hs : s = zshC := hs
  subst hs
  have hX : zX l Γ false (d + 1) zh56 (zMQ' Γ false zh56 Kp) 0 0 39 [(0, .ref 2), (1, .ref 26)] [.ref 2] (zshC, I, Lg, P) := hX
  refine zpcF (M := (zh56, zc56)) 56 39 rfl zckm56 (fun _ _ _ _ h => h) ?_
  exact hX
set_option maxRecDepth 100000 in
set_option maxHeartbeats 4000000 in
theorem rDmp26_r {l : Launch} {Γ : zG} {d : Nat} {Kp : Option Value → zH → Prop} {h : zH} (hK : Kp none h) : zX l Γ false (d + 1) zh56 (zMQ' Γ false zh56 Kp) 0 0 42 [(0, .ref 2), (1, .ref 26)] [] h := by
  refine zpcF (M := (zh56, zc56)) 56 1000 rfl zckm56 (fun _ _ _ _ h => h) ?_
  exact hK
theorem zDmpC26 {l : Launch} {Γ : zG} {d : Nat} {D : zD} {N : zN} {S : zS} {q : Nat} {h : zH} (hi : sInv swC h) (hT : cTk D q h) (h0 : pI h 3 8 = 0) (hR : RC 26 N S h) {KF : zKF} {KO : zKO} (W : wOnc D 5 100 N S q KF (fun N S q => wEnd D q KF (KO N S))) : zSem l Γ false (d + 6) (zhd 56) [.ref 2, .ref 26] h (zCP D 26 KF KO h) := by
  have M0 : sMd (cMdL 26) h h := sMd.rf
  unfold wOnc at W
  have s0 : pI h 26 8 = (S 5 : Int) := hR.1 5 (by decide)
  have z0 : h.2.1 3 8 = 0 := deq (by rw [show (0 : Int32).toInt = 0 from by decide]; exact h0)
  have P20 : h.2.2.2 2 0 = some 3 := hi.r1 (q := 2) (k := 0) (r := 3) (by decide +kernel)
  show zSem l Γ false (d + 5 + 1) zh56 _ _ _
  refine zbody (by decide +kernel) (by decide) ?_
  by_cases hS : S 5 = 0
  · rw [if_pos hS] at W
    refine rDmp26_a (d := d + 5) (deq (by rw [show (0 : Int32).toInt = 0 from by decide]; show pI h 26 8 = 0; omega)) hi.1 P20 ?_
    refine znx (mi := 56) (d := d + 2) zv_c56_19 (by decide) hi hT.1 (fun h1 hi1 T1 hm1 => ?_)
    have z1 : pI h1 3 8 = 0 := (pI_md hm1 rfl).trans h0
    have M1 := M0.seq (hm1.sub (md := cMdL 26) (by decide +kernel))
    have R1 := hR.md hm1 rfl (by decide)
    refine rDmp26_c (d := d + 5) hi1.1 ?_
    refine zcallR (mi := 56) (as := [.int (Int8.ofInt 100).toInt32, .int (Int32.ofInt 0)]) (rest := [.ref 26]) (q0 := 2) zv_c56_27 rfl (by decide) (by rw [hi1.1]; rfl) ?_
    refine (zNumC (d := d + 1) hi1 T1 z1 (a := Int32.ofInt 0) (b := (Int8.ofInt 100).toInt32) (L := 0) (H := 100) (by decide) (by decide)).mono ?_
    rintro rr h2 ⟨hi2, hm2, x2, rfl, hw⟩
    refine rDmp26_d (d := d + 5) hi2.1 ?_
    obtain ⟨hi3, hm3, nv, no, na⟩ := cO_i (d0 := 26) (by decide) hi2 (a := 6) (b := 8) (by decide) x2
    have M3 := (M1.seq (hm2.sub (by decide +kernel))).seq (hm3.sub (by decide +kernel))
    rcases hw _ _ W with ⟨cc, p, hF, c1, c2, hf⟩ | ⟨v3, q3, W, ev, z3, T3⟩
    · exact zflC (t := (56, 38)) (by decide) (by decide) hT.1.2.2.1 hi3 M3 hF rfl c1 c2 (hf.md hm3 rfl rfl)
    replace z3 := (pI_md hm3 rfl).trans z3
    replace T3 := T3.md hm3 rfl rfl
    have R3 := (R1.md hm2 rfl (by decide)).once (h' := (h2.1, zu2 (zu2 h2.2.1 26 6 x2) 26 8 (Int32.ofInt 1), h2.2.2)) (j := 5) (by decide) (by decide) (fun q i hn => pI_md hm3 (smem1n (by omega))) nv (fun i hi hne => no (i + 3) (by omega) (by omega)) (na.trans ev) (fun i hi hne => no (i + 1) (by omega) (by omega))
    generalize hg3 : (h2.1, zu2 (zu2 h2.2.1 26 6 x2) 26 8 (Int32.ofInt 1), h2.2.2) = h3 at *
    refine rDmp26_e (d := d + 5) hi3.1 ?_
    refine zcallR (mi := 56) (as := []) (rest := []) (q0 := 2) zv_c56_39 rfl (by decide) (by rw [hi3.1]; rfl) ?_
    refine (zClsC (d := d + 1) hi3 T3 z3).mono ?_
    rintro rr h' ⟨rfl, hi', hm', hw⟩
    refine rDmp26_r (d := d + 5) ?_
    rcases hw _ _ W with ⟨cc, p, hF, c1, c2, hf⟩ | ⟨q', W', z', T'⟩
    · exact ⟨rfl, hi', M3.seq (hm'.sub (by decide +kernel)), Or.inl ⟨cc, p, hF, c1, c2, hf⟩⟩
    · exact ⟨rfl, hi', M3.seq (hm'.sub (by decide +kernel)), Or.inr ⟨_, _, _, W', z', T', R3.md hm' rfl (by decide)⟩⟩
  · rw [if_neg hS] at W
    refine rDmp26_b (d := d + 4) (den (by rw [show (0 : Int32).toInt = 0 from by decide]; show pI h 26 8 ≠ 0; omega)) z0 hi.1 P20 ?_
    obtain ⟨s5, I5, Lg5, P5⟩ := h
    have es5 : s5 = zshC := hi.1
    subst es5
    obtain ⟨f1, f2, f3, f4⟩ := cfl (c := Int32.ofInt 3) hi hT.1 (by decide)
    exact zflC (t := (56, 15)) (by decide) (by decide) hT.1.2.2.1 f1 (M0.seq (f3.sub (by decide +kernel))) W (show (I5 3 5).toInt = (q : Int) from hT.2.2.2.1) (by decide) (by decide) f4
theorem zv_c57_19 : zcvB 57 19 2 0 34 = true := by decide +kernel
theorem zv_c57_27 : zcvB 57 27 1 2 52 = true := by decide +kernel
theorem zv_c57_39 : zcvB 57 39 1 0 48 = true := by decide +kernel
set_option maxRecDepth 100000 in
set_option maxHeartbeats 4000000 in
theorem rSed9_a {l : Launch} {Γ : zG} {d : Nat} {Kp : Option Value → zH → Prop} {h : zH} (c0 : h.2.1 9 9 = 0) (hs : h.1 = zshC) (hr0 : h.2.2.2 2 0 = some 3) (hX : zX l Γ false (d + 1) zh57 (zMQ' Γ false zh57 Kp) 0 0 19 [(0, .ref 2), (1, .ref 9)] [.ref 3] h) : zX l Γ false (d + 1) zh57 (zMQ' Γ false zh57 Kp) 0 0 0 [(0, .ref 2), (1, .ref 9)] [] h := by
  obtain ⟨s, I, Lg, P⟩ := h
  have hs : s = zshC := hs
  subst hs
  have c0 : I 9 9 = 0 := c0
  have hX : zX l Γ false (d + 1) zh57 (zMQ' Γ false zh57 Kp) 0 0 19 [(0, .ref 2), (1, .ref 9)] [.ref 3] (zshC, I, Lg, P) := hX
  have eP := zPn (P := P) hr0
  rw [eP] at hX ⊢
  refine zpcF (M := (zh57, zc57)) 57 19 rfl zckm57 (fun _ _ _ _ h => h) ?_
  refine zdecT c0 (fun _ => ?_)
  exact hX
set_option maxRecDepth 100000 in
set_option maxHeartbeats 4000000 in
theorem rSed9_b {l : Launch} {Γ : zG} {d : Nat} {Kp : Option Value → zH → Prop} {h : zH} (c0 : ¬ h.2.1 9 9 = 0) (c1 : h.2.1 3 8 = 0) (hs : h.1 = zshC) (hr0 : h.2.2.2 2 0 = some 3) (hX : zX l Γ false (d + 2) zh57 (zMQ' Γ false zh57 Kp) 0 0 15 [(0, .ref 2), (1, .ref 9)] [] (h.1, flI (h.2.1) (Int32.ofInt 3), h.2.2)) : zX l Γ false (d + 2) zh57 (zMQ' Γ false zh57 Kp) 0 0 0 [(0, .ref 2), (1, .ref 9)] [] h := by
  obtain ⟨s, I, Lg, P⟩ := h
  have hs : s = zshC := hs
  subst hs
  have c0 : ¬ I 9 9 = 0 := c0
  have c1 : I 3 8 = 0 := c1
  have hX : zX l Γ false (d + 2) zh57 (zMQ' Γ false zh57 Kp) 0 0 15 [(0, .ref 2), (1, .ref 9)] [] (zshC, flI (I) (Int32.ofInt 3), Lg, P) := hX
  have eP := zPn (P := P) hr0
  rw [eP] at hX ⊢
  refine zpcF (M := (zh57, zc57)) 57 15 rfl zckm57 (fun _ _ _ _ h => h) ?_
  refine zdecF c0 (fun _ => ?_)
  refine zdecT c1 (fun _ => ?_)
  exact hX
set_option maxRecDepth 100000 in
set_option maxHeartbeats 4000000 in
theorem rSed9_c {l : Launch} {Γ : zG} {d : Nat} {Kp : Option Value → zH → Prop} {h : zH} (hs : h.1 = zshC)  (hX : zX l Γ false (d + 1) zh57 (zMQ' Γ false zh57 Kp) 0 0 27 [(0, .ref 2), (1, .ref 9)] [.int (Int32.ofNat 99999), .int (Int32.ofInt 0), .ref 2, .ref 9] h) : zX l Γ false (d + 1) zh57 (zMQ' Γ false zh57 Kp) 0 0 22 [(0, .ref 2), (1, .ref 9)] [] h := by
  obtain ⟨s, I, Lg, P⟩ := h
  have hs : s = zshC := hs
  subst hs
  have hX : zX l Γ false (d + 1) zh57 (zMQ' Γ false zh57 Kp) 0 0 27 [(0, .ref 2), (1, .ref 9)] [.int (Int32.ofNat 99999), .int (Int32.ofInt 0), .ref 2, .ref 9] (zshC, I, Lg, P) := hX
  refine zpcF (M := (zh57, zc57)) 57 27 rfl zckm57 (fun _ _ _ _ h => h) ?_
  exact hX
set_option maxRecDepth 100000 in
set_option maxHeartbeats 4000000 in
theorem rSed9_d {l : Launch} {Γ : zG} {d : Nat} {Kp : Option Value → zH → Prop} {h : zH} {v : Int32} (hs : h.1 = zshC)  (hX : zX l Γ false (d + 1) zh57 (zMQ' Γ false zh57 Kp) 0 0 38 [(0, .ref 2), (1, .ref 9)] [] (h.1, zu2 (zu2 h.2.1 9 7 v) 9 9 (Int32.ofInt 1), h.2.2)) : zX l Γ false (d + 1) zh57 (zMQ' Γ false zh57 Kp) 0 0 30 [(0, .ref 2), (1, .ref 9)] [.int v, .ref 9] h := by
  obtain ⟨s, I, Lg, P⟩ := h
  have hs : s = zshC := hs
  subst hs
  have hX : zX l Γ false (d + 1) zh57 (zMQ' Γ false zh57 Kp) 0 0 38 [(0, .ref 2), (1, .ref 9)] [] (zshC, zu2 (zu2 I 9 7 v) 9 9 (Int32.ofInt 1), Lg, P) := hX
  refine zpcF (M := (zh57, zc57)) 57 38 rfl zckm57 (fun _ _ _ _ h => h) ?_
  exact hX
set_option maxRecDepth 100000 in
set_option maxHeartbeats 4000000 in
theorem rSed9_e {l : Launch} {Γ : zG} {d : Nat} {Kp : Option Value → zH → Prop} {h : zH} (hs : h.1 = zshC)  (hX : zX l Γ false (d + 1) zh57 (zMQ' Γ false zh57 Kp) 0 0 39 [(0, .ref 2), (1, .ref 9)] [.ref 2] h) : zX l Γ false (d + 1) zh57 (zMQ' Γ false zh57 Kp) 0 0 38 [(0, .ref 2), (1, .ref 9)] [] h := by
  obtain ⟨s, I, Lg, P⟩ := h
  have hs : s = zshC := hs
  subst hs
  have hX : zX l Γ false (d + 1) zh57 (zMQ' Γ false zh57 Kp) 0 0 39 [(0, .ref 2), (1, .ref 9)] [.ref 2] (zshC, I, Lg, P) := hX
  refine zpcF (M := (zh57, zc57)) 57 39 rfl zckm57 (fun _ _ _ _ h => h) ?_
  exact hX
set_option maxRecDepth 100000 in
set_option maxHeartbeats 4000000 in
theorem rSed9_r {l : Launch} {Γ : zG} {d : Nat} {Kp : Option Value → zH → Prop} {h : zH} (hK : Kp none h) : zX l Γ false (d + 1) zh57 (zMQ' Γ false zh57 Kp) 0 0 42 [(0, .ref 2), (1, .ref 9)] [] h := by
  refine zpcF (M := (zh57, zc57)) 57 1000 rfl zckm57 (fun _ _ _ _ h => h) ?_
  exact hK
theorem zSedC9 {l : Launch} {Γ : zG} {d : Nat} {D : zD} {N : zN} {S : zS} {q : Nat} {h : zH} (hi : sInv swC h) (hT : cTk D q h) (h0 : pI h 3 8 = 0) (hR : RC 9 N S h) {KF : zKF} {KO : zKO} (W : wOnc D 6 99999 N S q KF (fun N S q => wEnd D q KF (KO N S))) : zSem l Γ false (d + 6) (zhd 57) [.ref 2, .ref 9] h (zCP D 9 KF KO h) := by
  have M0 : sMd (cMdL 9) h h := sMd.rf
  unfold wOnc at W
  have s0 : pI h 9 9 = (S 6 : Int) := hR.1 6 (by decide)
  have z0 : h.2.1 3 8 = 0 := deq (by rw [show (0 : Int32).toInt = 0 from by decide]; exact h0)
  have P20 : h.2.2.2 2 0 = some 3 := hi.r1 (q := 2) (k := 0) (r := 3) (by decide +kernel)
  show zSem l Γ false (d + 5 + 1) zh57 _ _ _
  refine zbody (by decide +kernel) (by decide) ?_
  by_cases hS : S 6 = 0
  · rw [if_pos hS] at W
    refine rSed9_a (d := d + 5) (deq (by rw [show (0 : Int32).toInt = 0 from by decide]; show pI h 9 9 = 0; omega)) hi.1 P20 ?_
    refine znx (mi := 57) (d := d + 2) zv_c57_19 (by decide) hi hT.1 (fun h1 hi1 T1 hm1 => ?_)
    have z1 : pI h1 3 8 = 0 := (pI_md hm1 rfl).trans h0
    have M1 := M0.seq (hm1.sub (md := cMdL 9) (by decide +kernel))
    have R1 := hR.md hm1 rfl (by decide)
    refine rSed9_c (d := d + 5) hi1.1 ?_
    refine zcallR (mi := 57) (as := [.int (Int32.ofNat 99999), .int (Int32.ofInt 0)]) (rest := [.ref 9]) (q0 := 2) zv_c57_27 rfl (by decide) (by rw [hi1.1]; rfl) ?_
    refine (zNumC (d := d + 1) hi1 T1 z1 (a := Int32.ofInt 0) (b := Int32.ofNat 99999) (L := 0) (H := 99999) (by decide) (by decide)).mono ?_
    rintro rr h2 ⟨hi2, hm2, x2, rfl, hw⟩
    refine rSed9_d (d := d + 5) hi2.1 ?_
    obtain ⟨hi3, hm3, nv, no, na⟩ := cO_i (d0 := 9) (by decide) hi2 (a := 7) (b := 9) (by decide) x2
    have M3 := (M1.seq (hm2.sub (by decide +kernel))).seq (hm3.sub (by decide +kernel))
    rcases hw _ _ W with ⟨cc, p, hF, c1, c2, hf⟩ | ⟨v3, q3, W, ev, z3, T3⟩
    · exact zflC (t := (57, 38)) (by decide) (by decide) hT.1.2.2.1 hi3 M3 hF rfl c1 c2 (hf.md hm3 rfl rfl)
    replace z3 := (pI_md hm3 rfl).trans z3
    replace T3 := T3.md hm3 rfl rfl
    have R3 := (R1.md hm2 rfl (by decide)).once (h' := (h2.1, zu2 (zu2 h2.2.1 9 7 x2) 9 9 (Int32.ofInt 1), h2.2.2)) (j := 6) (by decide) (by decide) (fun q i hn => pI_md hm3 (smem1n (by omega))) nv (fun i hi hne => no (i + 3) (by omega) (by omega)) (na.trans ev) (fun i hi hne => no (i + 1) (by omega) (by omega))
    generalize hg3 : (h2.1, zu2 (zu2 h2.2.1 9 7 x2) 9 9 (Int32.ofInt 1), h2.2.2) = h3 at *
    refine rSed9_e (d := d + 5) hi3.1 ?_
    refine zcallR (mi := 57) (as := []) (rest := []) (q0 := 2) zv_c57_39 rfl (by decide) (by rw [hi3.1]; rfl) ?_
    refine (zClsC (d := d + 1) hi3 T3 z3).mono ?_
    rintro rr h' ⟨rfl, hi', hm', hw⟩
    refine rSed9_r (d := d + 5) ?_
    rcases hw _ _ W with ⟨cc, p, hF, c1, c2, hf⟩ | ⟨q', W', z', T'⟩
    · exact ⟨rfl, hi', M3.seq (hm'.sub (by decide +kernel)), Or.inl ⟨cc, p, hF, c1, c2, hf⟩⟩
    · exact ⟨rfl, hi', M3.seq (hm'.sub (by decide +kernel)), Or.inr ⟨_, _, _, W', z', T', R3.md hm' rfl (by decide)⟩⟩
  · rw [if_neg hS] at W
    refine rSed9_b (d := d + 4) (den (by rw [show (0 : Int32).toInt = 0 from by decide]; show pI h 9 9 ≠ 0; omega)) z0 hi.1 P20 ?_
    obtain ⟨s5, I5, Lg5, P5⟩ := h
    have es5 : s5 = zshC := hi.1
    subst es5
    obtain ⟨f1, f2, f3, f4⟩ := cfl (c := Int32.ofInt 3) hi hT.1 (by decide)
    exact zflC (t := (57, 15)) (by decide) (by decide) hT.1.2.2.1 f1 (M0.seq (f3.sub (by decide +kernel))) W (show (I5 3 5).toInt = (q : Int) from hT.2.2.2.1) (by decide) (by decide) f4
set_option maxRecDepth 100000 in
set_option maxHeartbeats 4000000 in
theorem rSed26_a {l : Launch} {Γ : zG} {d : Nat} {Kp : Option Value → zH → Prop} {h : zH} (c0 : h.2.1 26 9 = 0) (hs : h.1 = zshC) (hr0 : h.2.2.2 2 0 = some 3) (hX : zX l Γ false (d + 1) zh57 (zMQ' Γ false zh57 Kp) 0 0 19 [(0, .ref 2), (1, .ref 26)] [.ref 3] h) : zX l Γ false (d + 1) zh57 (zMQ' Γ false zh57 Kp) 0 0 0 [(0, .ref 2), (1, .ref 26)] [] h := by
  obtain ⟨s, I, Lg, P⟩ := h
  have hs : s = zshC := hs
  subst hs
  have c0 : I 26 9 = 0 := c0
  have hX : zX l Γ false (d + 1) zh57 (zMQ' Γ false zh57 Kp) 0 0 19 [(0, .ref 2), (1, .ref 26)] [.ref 3] (zshC, I, Lg, P) := hX
  have eP := zPn (P := P) hr0
  rw [eP] at hX ⊢
  refine zpcF (M := (zh57, zc57)) 57 19 rfl zckm57 (fun _ _ _ _ h => h) ?_
  refine zdecT c0 (fun _ => ?_)
  exact hX
set_option maxRecDepth 100000 in
set_option maxHeartbeats 4000000 in
theorem rSed26_b {l : Launch} {Γ : zG} {d : Nat} {Kp : Option Value → zH → Prop} {h : zH} (c0 : ¬ h.2.1 26 9 = 0) (c1 : h.2.1 3 8 = 0) (hs : h.1 = zshC) (hr0 : h.2.2.2 2 0 = some 3) (hX : zX l Γ false (d + 2) zh57 (zMQ' Γ false zh57 Kp) 0 0 15 [(0, .ref 2), (1, .ref 26)] [] (h.1, flI (h.2.1) (Int32.ofInt 3), h.2.2)) : zX l Γ false (d + 2) zh57 (zMQ' Γ false zh57 Kp) 0 0 0 [(0, .ref 2), (1, .ref 26)] [] h := by
  obtain ⟨s, I, Lg, P⟩ := h
  have hs : s = zshC := hs
  subst hs
  have c0 : ¬ I 26 9 = 0 := c0
  have c1 : I 3 8 = 0 := c1
  have hX : zX l Γ false (d + 2) zh57 (zMQ' Γ false zh57 Kp) 0 0 15 [(0, .ref 2), (1, .ref 26)] [] (zshC, flI (I) (Int32.ofInt 3), Lg, P) := hX
  have eP := zPn (P := P) hr0
  rw [eP] at hX ⊢
  refine zpcF (M := (zh57, zc57)) 57 15 rfl zckm57 (fun _ _ _ _ h => h) ?_
  refine zdecF c0 (fun _ => ?_)
  refine zdecT c1 (fun _ => ?_)
  exact hX
set_option maxRecDepth 100000 in
set_option maxHeartbeats 4000000 in
theorem rSed26_c {l : Launch} {Γ : zG} {d : Nat} {Kp : Option Value → zH → Prop} {h : zH} (hs : h.1 = zshC)  (hX : zX l Γ false (d + 1) zh57 (zMQ' Γ false zh57 Kp) 0 0 27 [(0, .ref 2), (1, .ref 26)] [.int (Int32.ofNat 99999), .int (Int32.ofInt 0), .ref 2, .ref 26] h) : zX l Γ false (d + 1) zh57 (zMQ' Γ false zh57 Kp) 0 0 22 [(0, .ref 2), (1, .ref 26)] [] h := by
  obtain ⟨s, I, Lg, P⟩ := h
  have hs : s = zshC := hs
  subst hs
  have hX : zX l Γ false (d + 1) zh57 (zMQ' Γ false zh57 Kp) 0 0 27 [(0, .ref 2), (1, .ref 26)] [.int (Int32.ofNat 99999), .int (Int32.ofInt 0), .ref 2, .ref 26] (zshC, I, Lg, P) := hX
  refine zpcF (M := (zh57, zc57)) 57 27 rfl zckm57 (fun _ _ _ _ h => h) ?_
  exact hX
set_option maxRecDepth 100000 in
set_option maxHeartbeats 4000000 in
theorem rSed26_d {l : Launch} {Γ : zG} {d : Nat} {Kp : Option Value → zH → Prop} {h : zH} {v : Int32} (hs : h.1 = zshC)  (hX : zX l Γ false (d + 1) zh57 (zMQ' Γ false zh57 Kp) 0 0 38 [(0, .ref 2), (1, .ref 26)] [] (h.1, zu2 (zu2 h.2.1 26 7 v) 26 9 (Int32.ofInt 1), h.2.2)) : zX l Γ false (d + 1) zh57 (zMQ' Γ false zh57 Kp) 0 0 30 [(0, .ref 2), (1, .ref 26)] [.int v, .ref 26] h := by
  obtain ⟨s, I, Lg, P⟩ := h
  have hs : s = zshC := hs
  subst hs
  have hX : zX l Γ false (d + 1) zh57 (zMQ' Γ false zh57 Kp) 0 0 38 [(0, .ref 2), (1, .ref 26)] [] (zshC, zu2 (zu2 I 26 7 v) 26 9 (Int32.ofInt 1), Lg, P) := hX
  refine zpcF (M := (zh57, zc57)) 57 38 rfl zckm57 (fun _ _ _ _ h => h) ?_
  exact hX
set_option maxRecDepth 100000 in
set_option maxHeartbeats 4000000 in
theorem rSed26_e {l : Launch} {Γ : zG} {d : Nat} {Kp : Option Value → zH → Prop} {h : zH} (hs : h.1 = zshC)  (hX : zX l Γ false (d + 1) zh57 (zMQ' Γ false zh57 Kp) 0 0 39 [(0, .ref 2), (1, .ref 26)] [.ref 2] h) : zX l Γ false (d + 1) zh57 (zMQ' Γ false zh57 Kp) 0 0 38 [(0, .ref 2), (1, .ref 26)] [] h := by
  obtain ⟨s, I, Lg, P⟩ := h
  have hs : s = zshC := hs
  subst hs
  have hX : zX l Γ false (d + 1) zh57 (zMQ' Γ false zh57 Kp) 0 0 39 [(0, .ref 2), (1, .ref 26)] [.ref 2] (zshC, I, Lg, P) := hX
  refine zpcF (M := (zh57, zc57)) 57 39 rfl zckm57 (fun _ _ _ _ h => h) ?_
  exact hX
set_option maxRecDepth 100000 in
set_option maxHeartbeats 4000000 in
theorem rSed26_r {l : Launch} {Γ : zG} {d : Nat} {Kp : Option Value → zH → Prop} {h : zH} (hK : Kp none h) : zX l Γ false (d + 1) zh57 (zMQ' Γ false zh57 Kp) 0 0 42 [(0, .ref 2), (1, .ref 26)] [] h := by
  refine zpcF (M := (zh57, zc57)) 57 1000 rfl zckm57 (fun _ _ _ _ h => h) ?_
  exact hK
theorem zSedC26 {l : Launch} {Γ : zG} {d : Nat} {D : zD} {N : zN} {S : zS} {q : Nat} {h : zH} (hi : sInv swC h) (hT : cTk D q h) (h0 : pI h 3 8 = 0) (hR : RC 26 N S h) {KF : zKF} {KO : zKO} (W : wOnc D 6 99999 N S q KF (fun N S q => wEnd D q KF (KO N S))) : zSem l Γ false (d + 6) (zhd 57) [.ref 2, .ref 26] h (zCP D 26 KF KO h) := by
  have M0 : sMd (cMdL 26) h h := sMd.rf
  unfold wOnc at W
  have s0 : pI h 26 9 = (S 6 : Int) := hR.1 6 (by decide)
  have z0 : h.2.1 3 8 = 0 := deq (by rw [show (0 : Int32).toInt = 0 from by decide]; exact h0)
  have P20 : h.2.2.2 2 0 = some 3 := hi.r1 (q := 2) (k := 0) (r := 3) (by decide +kernel)
  show zSem l Γ false (d + 5 + 1) zh57 _ _ _
  refine zbody (by decide +kernel) (by decide) ?_
  by_cases hS : S 6 = 0
  · rw [if_pos hS] at W
    refine rSed26_a (d := d + 5) (deq (by rw [show (0 : Int32).toInt = 0 from by decide]; show pI h 26 9 = 0; omega)) hi.1 P20 ?_
    refine znx (mi := 57) (d := d + 2) zv_c57_19 (by decide) hi hT.1 (fun h1 hi1 T1 hm1 => ?_)
    have z1 : pI h1 3 8 = 0 := (pI_md hm1 rfl).trans h0
    have M1 := M0.seq (hm1.sub (md := cMdL 26) (by decide +kernel))
    have R1 := hR.md hm1 rfl (by decide)
    refine rSed26_c (d := d + 5) hi1.1 ?_
    refine zcallR (mi := 57) (as := [.int (Int32.ofNat 99999), .int (Int32.ofInt 0)]) (rest := [.ref 26]) (q0 := 2) zv_c57_27 rfl (by decide) (by rw [hi1.1]; rfl) ?_
    refine (zNumC (d := d + 1) hi1 T1 z1 (a := Int32.ofInt 0) (b := Int32.ofNat 99999) (L := 0) (H := 99999) (by decide) (by decide)).mono ?_
    rintro rr h2 ⟨hi2, hm2, x2, rfl, hw⟩
    refine rSed26_d (d := d + 5) hi2.1 ?_
    obtain ⟨hi3, hm3, nv, no, na⟩ := cO_i (d0 := 26) (by decide) hi2 (a := 7) (b := 9) (by decide) x2
    have M3 := (M1.seq (hm2.sub (by decide +kernel))).seq (hm3.sub (by decide +kernel))
    rcases hw _ _ W with ⟨cc, p, hF, c1, c2, hf⟩ | ⟨v3, q3, W, ev, z3, T3⟩
    · exact zflC (t := (57, 38)) (by decide) (by decide) hT.1.2.2.1 hi3 M3 hF rfl c1 c2 (hf.md hm3 rfl rfl)
    replace z3 := (pI_md hm3 rfl).trans z3
    replace T3 := T3.md hm3 rfl rfl
    have R3 := (R1.md hm2 rfl (by decide)).once (h' := (h2.1, zu2 (zu2 h2.2.1 26 7 x2) 26 9 (Int32.ofInt 1), h2.2.2)) (j := 6) (by decide) (by decide) (fun q i hn => pI_md hm3 (smem1n (by omega))) nv (fun i hi hne => no (i + 3) (by omega) (by omega)) (na.trans ev) (fun i hi hne => no (i + 1) (by omega) (by omega))
    generalize hg3 : (h2.1, zu2 (zu2 h2.2.1 26 7 x2) 26 9 (Int32.ofInt 1), h2.2.2) = h3 at *
    refine rSed26_e (d := d + 5) hi3.1 ?_
    refine zcallR (mi := 57) (as := []) (rest := []) (q0 := 2) zv_c57_39 rfl (by decide) (by rw [hi3.1]; rfl) ?_
    refine (zClsC (d := d + 1) hi3 T3 z3).mono ?_
    rintro rr h' ⟨rfl, hi', hm', hw⟩
    refine rSed26_r (d := d + 5) ?_
    rcases hw _ _ W with ⟨cc, p, hF, c1, c2, hf⟩ | ⟨q', W', z', T'⟩
    · exact ⟨rfl, hi', M3.seq (hm'.sub (by decide +kernel)), Or.inl ⟨cc, p, hF, c1, c2, hf⟩⟩
    · exact ⟨rfl, hi', M3.seq (hm'.sub (by decide +kernel)), Or.inr ⟨_, _, _, W', z', T', R3.md hm' rfl (by decide)⟩⟩
  · rw [if_neg hS] at W
    refine rSed26_b (d := d + 4) (den (by rw [show (0 : Int32).toInt = 0 from by decide]; show pI h 26 9 ≠ 0; omega)) z0 hi.1 P20 ?_
    obtain ⟨s5, I5, Lg5, P5⟩ := h
    have es5 : s5 = zshC := hi.1
    subst es5
    obtain ⟨f1, f2, f3, f4⟩ := cfl (c := Int32.ofInt 3) hi hT.1 (by decide)
    exact zflC (t := (57, 15)) (by decide) (by decide) hT.1.2.2.1 f1 (M0.seq (f3.sub (by decide +kernel))) W (show (I5 3 5).toInt = (q : Int) from hT.2.2.2.1) (by decide) (by decide) f4
