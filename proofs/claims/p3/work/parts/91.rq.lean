/-! the reference's text -/
def aMd2 : sM := (0, 12, 100) :: (List.range 41).map (fun q => (q + 3, 0, 2000))
theorem kB3b : spqB swM sTM aMd2 4000 8 188 lL sA0 [] [] 251 [] [(none, sA0, [])] = true := by decide +kernel
theorem zkeep2 {l : Launch} {Γ : zG} {d : Nat} (hd : 8 ≤ d) {h : zH} (hi : sInv swM h) (hl : ∀ j, 3 ≤ j → j < 6 → pLaw h j) : zSem l Γ false (d + 1) (zhd 188) [.ref 0] h (fun r h' => r = none ∧ sInv swM h' ∧ sMd aMd2 h h') := by
  obtain ⟨d1, rfl⟩ : ∃ d1, d = d1 + 1 := ⟨d - 1, by omega⟩
  obtain ⟨hit, hrow, hlaw⟩ := sto hi
  have b19 : ∀ j, j < 6 → pI h 19 j = 0 ∨ pI h 19 j = 1 := fun j hj => by
    have e : sIv swM 19 j = (0, 1) := by
      show sgAt [(6, 0, 1)] j = (0, 1)
      simp only [sgAt]
      rw [if_pos hj]
    have := pbd hi e
    simp only at this
    omega
  have b21 : ∀ j, j < 6 → 0 ≤ pI h 21 j ∧ pI h 21 j ≤ 64 := fun j hj => by
    have e : sIv swM 21 j = (0, 64) := by
      show sgAt [(6, 0, 64)] j = (0, 64)
      simp only [sgAt]
      rw [if_pos hj]
    exact pbd hi e
  have kiv : ∀ j, 3 ≤ j → j < 6 → (kIv (pI h 19 j)).1 ≤ pI h 21 j ∧ pI h 21 j ≤ (kIv (pI h 19 j)).2 := fun j j3 j6 => by
    unfold kIv
    split
    · rename_i e
      exact hl j j3 j6 e
    · exact b21 j j6
  have hkB : kB (pI h 19 3) (pI h 19 4) (pI h 19 5) = true := by
    have m : ∀ j, j < 6 → pI h 19 j ∈ ([0, 1] : List Int) := fun j hj => by
      rcases b19 j hj with e | e <;> rw [e] <;> decide
    exact List.all_eq_true.mp (List.all_eq_true.mp (List.all_eq_true.mp kB_ok _ (m 3 (by decide))) _ (m 4 (by decide))) _ (m 5 (by decide))
  refine spm_ok (fun _ => 0) kB_0 (kTd l Γ 1) (by omega) ⟨_, _, rfl, rfl, rfl⟩ (sA0_ok _) trivial hit ?_ (fun e he => nomatch he)
  intro e he lo0 st0 h9 hp hi9 hm9
  have e := List.mem_singleton.mp he
  subst e
  obtain ⟨p1, p2, p3, p4, p5⟩ := hp
  have hs : st0 = [] := p1
  subst hs
  have n19 : ∀ j, pI h9 19 j = pI h 19 j := fun j => pI_md hm9 (smem_q rfl j)
  have n21 : ∀ j, pI h9 21 j = pI h 21 j := fun j => pI_md hm9 (smem_q rfl j)
  have c19 : ∀ j, sPlP h9 (19, j, (pI h 19 j, pI h 19 j)) := fun j => ⟨by show pI h 19 j ≤ pI h9 19 j; rw [n19]; exact Int.le_refl _, by show pI h9 19 j ≤ pI h 19 j; rw [n19]; exact Int.le_refl _⟩
  have c21 : ∀ j, 3 ≤ j → j < 6 → sPlP h9 (21, j, kIv (pI h 19 j)) := fun j a b => ⟨by show _ ≤ pI h9 21 j; rw [n21]; exact (kiv j a b).1, by show pI h9 21 j ≤ _; rw [n21]; exact (kiv j a b).2⟩
  refine spq_ok (fun _ => 0) hkB (kTd l Γ 1) (by omega) p2 (sAok.of (sfm (c19 3) (sfm (c19 4) (sfm (c19 5) (sfm (c21 3 (by decide) (by decide)) (sfm (c21 4 (by decide) (by decide)) (sfm (c21 5 (by decide) (by decide)) (fun _ h => nomatch h)))))))) trivial hi9 rfl ?_ (fun e he => nomatch he)
  intro e he lo' st' h1 hp hi1 hm1
  have e := List.mem_singleton.mp he
  subst e
  obtain ⟨p1, p2, p3, p4, p5⟩ := hp
  obtain ⟨_, _, rfl, ⟨x, rfl, hx1, hx2⟩, vr, _, rfl, hr, hn⟩ := p1
  have hx1 : 64 ≤ x.toInt := hx1
  have hx2 : x.toInt ≤ 64 := hx2
  have hr : vr = .ref 22 := hr
  subst hr
  have hn : _ = [] := hn
  subst hn
  -- what laws are told
  have t0 : pI h 19 3 ≤ pI h1 19 0 ∧ pI h1 19 0 ≤ pI h 19 3 := p3.1 (19, 0, (pI h 19 3, pI h 19 3)) List.mem_cons_self
  have t1 : pI h 19 4 ≤ pI h1 19 1 ∧ pI h1 19 1 ≤ pI h 19 4 := p3.1 (19, 1, (pI h 19 4, pI h 19 4)) (List.mem_cons_of_mem _ List.mem_cons_self)
  have t2 : pI h 19 5 ≤ pI h1 19 2 ∧ pI h1 19 2 ≤ pI h 19 5 := p3.1 (19, 2, (pI h 19 5, pI h 19 5)) (List.mem_cons_of_mem _ (List.mem_cons_of_mem _ List.mem_cons_self))
  have s0 : (kIv (pI h 19 3)).1 ≤ pI h1 21 0 ∧ pI h1 21 0 ≤ (kIv (pI h 19 3)).2 := p3.1 (21, 0, kIv (pI h 19 3)) (List.mem_cons_of_mem _ (List.mem_cons_of_mem _ (List.mem_cons_of_mem _ List.mem_cons_self)))
  have s1 : (kIv (pI h 19 4)).1 ≤ pI h1 21 1 ∧ pI h1 21 1 ≤ (kIv (pI h 19 4)).2 := p3.1 (21, 1, kIv (pI h 19 4)) (List.mem_cons_of_mem _ (List.mem_cons_of_mem _ (List.mem_cons_of_mem _ (List.mem_cons_of_mem _ List.mem_cons_self))))
  have s2 : (kIv (pI h 19 5)).1 ≤ pI h1 21 2 ∧ pI h1 21 2 ≤ (kIv (pI h 19 5)).2 := p3.1 (21, 2, kIv (pI h 19 5)) (List.mem_cons_of_mem _ (List.mem_cons_of_mem _ (List.mem_cons_of_mem _ (List.mem_cons_of_mem _ (List.mem_cons_of_mem _ List.mem_cons_self)))))
  have L1 : ∀ j, j < 3 → pLaw h1 j := by
    have key : ∀ (t : Int) (j : Nat), (t ≤ pI h1 19 j ∧ pI h1 19 j ≤ t) → ((kIv t).1 ≤ pI h1 21 j ∧ pI h1 21 j ≤ (kIv t).2) → pLaw h1 j := fun t j ht hk e => by
      have et : t = 1 := by omega
      rw [et] at hk
      exact hk
    intro j hj
    have j3 : j = 0 ∨ j = 1 ∨ j = 2 := by omega
    rcases j3 with rfl | rfl | rfl
    · exact key _ 0 t0 s0
    · exact key _ 1 t1 s1
    · exact key _ 2 t2 s2
  have q1 : ∀ q i, q = 22 ∨ q = 23 ∨ q = 24 → pI h1 q i = pI h q i := fun q i hq => by
    rcases hq with rfl | rfl | rfl <;> exact (pI_md hm1 (smem_q rfl i)).trans (pI_md hm9 (smem_q rfl i))
  refine zcallS (as := [.int x, .ref 22]) zv_k0 rfl ?_
  refine (zcopies (by decide) (by omega) hi1).mono ?_
  rintro rr h2 ⟨rfl, hi2, hm2, c2⟩
  refine spq_ok (pc := 233) (fun _ => 0) kB1 (fun mi c h => nomatch h) (Nat.zero_le _) p2 (sA0_ok _) trivial hi2 rfl ?_ (fun e he => nomatch he)
  intro e he lo3 st3 h3 hp hi3 hm3
  have e := List.mem_singleton.mp he
  subst e
  obtain ⟨p1, p2, p3, p4, p5⟩ := hp
  obtain ⟨_, _, rfl, ⟨x3, rfl, hx1, hx2⟩, vr, _, rfl, hr, hn⟩ := p1
  have hx1 : 64 ≤ x3.toInt := hx1
  have hx2 : x3.toInt ≤ 64 := hx2
  have hr : vr = .ref 23 := hr
  subst hr
  have hn : _ = [] := hn
  subst hn
  refine zcallS (as := [.int x3, .ref 23]) zv_k1 rfl ?_
  refine (zcopies (by decide) (by omega) hi3).mono ?_
  rintro rr h4 ⟨rfl, hi4, hm4, c4⟩
  refine spq_ok (pc := 242) (fun _ => 0) kB2 (fun mi c h => nomatch h) (Nat.zero_le _) p2 (sA0_ok _) trivial hi4 rfl ?_ (fun e he => nomatch he)
  intro e he lo5 st5 h5 hp hi5 hm5
  have e := List.mem_singleton.mp he
  subst e
  obtain ⟨p1, p2, p3, p4, p5⟩ := hp
  obtain ⟨_, _, rfl, ⟨x5, rfl, hx1, hx2⟩, vr, _, rfl, hr, hn⟩ := p1
  have hx1 : 64 ≤ x5.toInt := hx1
  have hx2 : x5.toInt ≤ 64 := hx2
  have hr : vr = .ref 24 := hr
  subst hr
  have hn : _ = [] := hn
  subst hn
  refine zcallS (as := [.int x5, .ref 24]) zv_k2 rfl ?_
  refine (zcopies (by decide) (by omega) hi5).mono ?_
  rintro rr h6 ⟨rfl, hi6, hm6, c6⟩
  have w3 : ∀ q j, pI h3 q j = pI h2 q j := fun q j => pI_md hm3 rfl
  have w5 : ∀ q j, pI h5 q j = pI h4 q j := fun q j => pI_md hm5 rfl
  have up : ∀ q j, 64 ≤ j → smem [(q, 0, 64)] q j = false := fun q j hj => by
    cases hc : smem [(q, 0, 64)] q j with
    | false => rfl
    | true =>
      simp only [smem, List.any_cons, List.any_nil, Bool.and_eq_true, beq_iff_eq, decide_eq_true_eq, Bool.or_false] at hc
      omega
  have r22 : ∀ i, pI h6 22 i = pI h2 22 i := fun i => (pI_md hm6 (smem_q rfl i)).trans ((w5 22 i).trans ((pI_md hm4 (smem_q rfl i)).trans (w3 22 i)))
  have r23 : ∀ i, pI h6 23 i = pI h4 23 i := fun i => (pI_md hm6 (smem_q rfl i)).trans (w5 23 i)
  have o23 : ∀ i, pI h3 23 i = pI h 23 i := fun i => (w3 23 i).trans ((pI_md hm2 (smem_q rfl i)).trans (q1 23 i (by omega)))
  have o24 : ∀ i, pI h5 24 i = pI h 24 i := fun i => (w5 24 i).trans ((pI_md hm4 (smem_q rfl i)).trans ((w3 24 i).trans ((pI_md hm2 (smem_q rfl i)).trans (q1 24 i (by omega)))))
  have hi6' : sInv swM h6 := by
    refine sof hi6 (fun i hlt => ?_) (fun j hlt => ?_)
    · by_cases h64 : i < 64
      · refine (hrow (64 + i) (by omega)).congr ?_ ?_ ?_
        · rw [r22, c2 i h64, q1 22 _ (by omega)]
        · rw [r23, c4 i h64, o23]
        · rw [c6 i h64, o24]
      · refine (hrow i hlt).congr ?_ ?_ ?_
        · rw [r22, pI_md hm2 (up 22 i (by omega)), q1 22 _ (by omega)]
        · rw [r23, pI_md hm4 (up 23 i (by omega)), o23]
        · rw [pI_md hm6 (up 24 i (by omega)), o24]
    · have a : ∀ q j, q = 19 ∨ q = 21 → pI h6 q j = pI h1 q j := fun q j hq => by
        rcases hq with rfl | rfl
        · exact (pI_md hm6 (smem_q rfl j)).trans ((w5 19 j).trans ((pI_md hm4 (smem_q rfl j)).trans ((w3 19 j).trans (pI_md hm2 (smem_q rfl j)))))
        · exact (pI_md hm6 (smem_q rfl j)).trans ((w5 21 j).trans ((pI_md hm4 (smem_q rfl j)).trans ((w3 21 j).trans (pI_md hm2 (smem_q rfl j)))))
      exact (L1 j hlt).congr (a 19 j (Or.inl rfl)) (a 21 j (Or.inr rfl))
  refine spq_ok (pc := 251) (fun _ => 0) kB3b (sTMd l Γ 8) (by omega) p2 (sA0_ok _) trivial hi6' rfl (fun e he => nomatch he) ?_
  intro e he r' h7 hp hi7 hm7
  have e := List.mem_singleton.mp he
  subst e
  exact ⟨hp.1, hi7, ((((((hm9.sub (by decide +kernel)).seq (hm1.sub (by decide +kernel))).seq (hm2.sub (by decide +kernel))).seq (hm3.sub (by decide +kernel))).seq (hm4.sub (by decide +kernel))).seq (hm5.sub (by decide +kernel))).seq ((hm6.sub (by decide +kernel)).seq hm7)⟩
set_option maxRecDepth 100000 in
set_option maxHeartbeats 4000000 in
theorem txA {l : Launch} {Γ : zG} {d : Nat} {Kp : Option Value → zH → Prop} {I : zHI} {Lg : zHL} {P : zHP} {x : Int32} (c1 : ¬ x < 0) (c2 : x ≤ zu2 I 0 2 (Int32.ofInt 0) 0 1) (hX : zX l Γ false (d + 1) zh194 (zMQ' Γ false zh194 Kp) 0 0 25 [(0, .ref 0), (1, .int x)] [] (zshM, zu2 (zu2 I 0 2 (Int32.ofInt 0)) 0 6 x, Lg, P)) : zX l Γ false (d + 1) zh194 (zMQ' Γ false zh194 Kp) 0 0 0 [(0, .ref 0), (1, .int x)] [] (zshM, I, Lg, P) := by
  refine zpcF (M := (zh194, zc194)) 194 25 rfl zckm194 (fun _ _ _ _ h => h) ?_
  refine zdecF c1 (fun _ => ?_)
  refine zdecT c2 (fun _ => ?_)
  exact hX
set_option maxRecDepth 100000 in
set_option maxHeartbeats 4000000 in
theorem txC {l : Launch} {Γ : zG} {d : Nat} {Kp : Option Value → zH → Prop} {I : zHI} {Lg : zHL} {P : zHP}  (hX : zX l Γ false (d + 1) zh194 (zMQ' Γ false zh194 Kp) 0 0 55 [(2, .int (Int32.ofInt 0)), (0, .ref 0)] [] (zshM, I, Lg, P)) : zX l Γ false (d + 1) zh194 (zMQ' Γ false zh194 Kp) 0 0 53 [(0, .ref 0)] [] (zshM, I, Lg, P) := by
  refine zpcF (M := (zh194, zc194)) 194 55 rfl zckm194 (fun _ _ _ _ h => h) ?_
  exact hX
set_option maxRecDepth 100000 in
set_option maxHeartbeats 4000000 in
theorem txD {l : Launch} {Γ : zG} {d : Nat} {Kp : Option Value → zH → Prop} {I : zHI} {Lg : zHL} {P : zHP} {K : Int32} (c : ¬ I 0 8 = 0) (hX : zX l Γ false (d + 1) zh194 (zMQ' Γ false zh194 Kp) 0 0 63 [(2, .int K), (0, .ref 0)] [.ref 0] (zshM, I, Lg, P)) : zX l Γ false (d + 1) zh194 (zMQ' Γ false zh194 Kp) 0 0 55 [(2, .int K), (0, .ref 0)] [] (zshM, I, Lg, P) := by
  refine zpcF (M := (zh194, zc194)) 194 63 rfl zckm194 (fun _ _ _ _ h => h) ?_
  refine zdecF c (fun _ => ?_)
  exact hX
set_option maxRecDepth 100000 in
set_option maxHeartbeats 4000000 in
theorem txE {l : Launch} {Γ : zG} {d : Nat} {Kp : Option Value → zH → Prop} {I : zHI} {Lg : zHL} {P : zHP} {K : Int32} (c : I 0 8 = 0) (hX : zX l Γ false (d + 1) zh194 (zMQ' Γ false zh194 Kp) 0 0 78 [(2, .int K), (0, .ref 0)] [.ref 0] (zshM, I, Lg, P)) : zX l Γ false (d + 1) zh194 (zMQ' Γ false zh194 Kp) 0 0 55 [(2, .int K), (0, .ref 0)] [] (zshM, I, Lg, P) := by
  refine zpcF (M := (zh194, zc194)) 194 78 rfl zckm194 (fun _ _ _ _ h => h) ?_
  refine zdecT c (fun _ => ?_)
  exact hX
set_option maxRecDepth 100000 in
set_option maxHeartbeats 4000000 in
theorem txF {l : Launch} {Γ : zG} {d : Nat} {Kp : Option Value → zH → Prop} {I : zHI} {Lg : zHL} {P : zHP} {K x : Int32} (c : ¬ x = 0) (hX : zX l Γ false (d + 1) zh194 (zMQ' Γ false zh194 Kp) 0 0 55 [(2, .int (K + Int32.ofInt 1)), (0, .ref 0)] [] (zshM, I, Lg, P)) : zX l Γ false (d + 1) zh194 (zMQ' Γ false zh194 Kp) 0 0 66 [(2, .int K), (0, .ref 0)] [.int x] (zshM, I, Lg, P) := by
  refine zpcF (M := (zh194, zc194)) 194 55 rfl zckm194 (fun _ _ _ _ h => h) ?_
  refine zdecF c (fun _ => ?_)
  exact hX
set_option maxRecDepth 100000 in
set_option maxHeartbeats 4000000 in
theorem txG {l : Launch} {Γ : zG} {d : Nat} {Kp : Option Value → zH → Prop} {I : zHI} {Lg : zHL} {P : zHP} {K x : Int32} (c : x = 0) (hX : Kp (some (.int (Int32.ofInt (-1)))) (zshM, I, Lg, P)) : zX l Γ false (d + 1) zh194 (zMQ' Γ false zh194 Kp) 0 0 66 [(2, .int K), (0, .ref 0)] [.int x] (zshM, I, Lg, P) := by
  refine zpcF (M := (zh194, zc194)) 194 1000 rfl zckm194 (fun _ _ _ _ h => h) ?_
  refine zdecT c (fun _ => ?_)
  exact hX
set_option maxRecDepth 100000 in
set_option maxHeartbeats 4000000 in
theorem txH {l : Launch} {Γ : zG} {d : Nat} {Kp : Option Value → zH → Prop} {I : zHI} {Lg : zHL} {P : zHP} {K : Int32} (hX : Kp (some (.int K)) (zshM, I, Lg, P)) : zX l Γ false (d + 1) zh194 (zMQ' Γ false zh194 Kp) 0 0 81 [(2, .int K), (0, .ref 0)] [] (zshM, I, Lg, P) := by
  refine zpcF (M := (zh194, zc194)) 194 1000 rfl zckm194 (fun _ _ _ _ h => h) ?_
  exact hX
def tMd : sM := (0, 2, 100) :: (List.range 41).map (fun q => (q + 3, 0, 2000))
theorem tMd_l : ssubB lnMd tMd = true := by decide +kernel
theorem tMd_a : ssubB aMd2 tMd = true := by decide +kernel
def zTP (KF : zKF) (KO : Nat → zN → zS → Prop) (h0 : zH) (r : Option Value) (h' : zH) : Prop := sInv swM h' ∧ sMd tMd h0 h' ∧ ∃ y : Int32, r = some (.int y) ∧ ((∃ c p, KF c p ∧ y.toInt = -1) ∨ (∃ m N S, KO m N S ∧ y.toInt = ((m : Nat) : Int)))
theorem zTxtL {l : Launch} {Γ : zG} {d : Nat} {D : zD} {KF : zKF} {KO : Nat → zN → zS → Prop} {h0 : zH} : ∀ (f : Nat) (N : zN) (S : zS) (q m : Nat) (h : zH) (K : Int32), K.toInt = (m : Int) → m ≤ q → sInv swM h → sMd tMd h0 h → tTk D q h → RM N S h → wTxt D f N S q m KF KO → D.2 - q < f → zX l Γ false (d + 10) zh194 (zMQ' Γ false zh194 (zTP KF KO h0)) 0 0 55 [(2, .int K), (0, .ref 0)] [] h
  | 0, N, S, q, m, h, K, hK, hmq, hi, hm, hT, hR, W, hlt => absurd hlt (Nat.not_lt_zero _)
  | f + 1, N, S, q, m, h, K, hK, hmq, hi, hm, hT, hR, W, hlt => by
    have hq := hT.2.1
    have hn := hT.1.2.2.2.1
    have k0 := kF_0 hq
    have fb := tkB_f hT.2.2.2
    have es := hi.1
    obtain ⟨s, I, Lg, P⟩ := h
    have es : s = zshM := es
    subst es
    simp only [wTxt] at W
    by_cases e : kF D q = 0
    · rw [if_pos e] at W
      have e8 : (I 0 8).toInt = 0 := by
        have : pI (zshM, I, Lg, P) 0 8 = 0 := by omega
        exact this
      refine txE (d := d + 9) (deq (by rw [e8]; decide)) ?_
      refine zcallV (mi := 194) (as := []) zv_x1 rfl (by rfl) ?_
      refine (zkeep2 (d := d + 8) (by omega) hi hR.2.2.2.2).mono ?_
      rintro r h2 ⟨rfl, hi2, hm2⟩
      obtain ⟨s2, I2, Lg2, P2⟩ := h2
      have es2 : s2 = zshM := hi2.1
      subst es2
      exact txH (d := d + 9) ⟨hi2, hm.seq (hm2.sub tMd_a), K, rfl, Or.inr ⟨m, N, S, W, hK⟩⟩
    · rw [if_neg e] at W
      have e8 : (I 0 8).toInt ≠ 0 := by
        have : pI (zshM, I, Lg, P) 0 8 ≠ 0 := by omega
        exact this
      refine txD (d := d + 9) (den (by rw [show (0 : Int32).toInt = 0 from by decide]; exact e8)) ?_
      refine zcallV (mi := 194) (as := []) zv_x0 rfl (by rfl) ?_
      refine (zLinR (d := d + 3) hi hT hR (wLin_p hq e W)).mono ?_
      rintro r h2 ⟨hi2, hm2, x, rfl, ⟨c, p, hF, hx, hf⟩ | ⟨N', S', q', W', hx, T', R'⟩⟩
      · obtain ⟨s2, I2, Lg2, P2⟩ := h2
        have es2 : s2 = zshM := hi2.1
        subst es2
        exact txG (d := d + 9) (deq (by rw [hx]; decide)) ⟨hi2, hm.seq (hm2.sub tMd_l), _, rfl, Or.inl ⟨c, p, hF, by decide⟩⟩
      · obtain ⟨hqq, W'⟩ := W'
        obtain ⟨s2, I2, Lg2, P2⟩ := h2
        have es2 : s2 = zshM := hi2.1
        subst es2
        have eK : K + Int32.ofInt 1 = Int32.ofNat (m + 1) := by
          rw [iN (n := m) (by omega) hK]
          exact ofN_add m 1
        have hq' := T'.2.1
        refine txF (d := d + 9) (den (by rw [hx]; decide)) ?_
        rw [eK]
        exact zTxtL f N' S' q' (m + 1) _ _ (oN (by omega)) (by omega) hi2 (hm.seq (hm2.sub tMd_l)) T' R' W' (by omega)
