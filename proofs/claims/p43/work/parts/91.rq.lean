/-! the reference's text -/
def aMd2 : sM := (0, 12, 100) :: (List.range 41).map (fun q => (q + 3, 0, 2000))
/-- contracts, without those of begin and atFirst -/
def sTMb (mi : Nat) : List sCt := if mi = 190 ∨ mi = 191 then [] else sTM mi
theorem sTMbd (l : Launch) (Γ : zG) (dep : Nat) : ∀ mi, ∀ c ∈ sTMb mi, c.2.2.2.2.2 ≤ dep → sCon l Γ swM mi c := fun mi c hc _ => by
  unfold sTMb at hc
  split at hc
  · cases hc
  · exact sTM_ok l Γ mi c hc
def kQA : sAs := ([(36, 0, (0, 0)), (0, 82, (0, 0)), (0, 76, (0, 0)), (0, 77, (-1, -1))], [], [], [])
def kbM : sM := (0, 18, 100) :: (List.range 25).map (fun q => (q + 19, 0, 2000))
def kbL : sM := (0, 18, 100) :: (List.range 19).map (fun q => (q + 25, 0, 2000))
theorem kbL_s : ssubB kbL kbM = true := by decide +kernel
theorem kbM_k : kxF.all (fun t => !smem kbM t.1 t.2.2) = true := by decide +kernel
theorem kB3c : spqB swM sTMb kbL 4000 8 188 lL sA0 [] [] 251 [] [(none, kQA, [])] = true := by decide +kernel
theorem zkeep3 {l : Launch} {Γ : zG} {d : Nat} (hd : 8 ≤ d) {h : zH} (hi : sInv swM h) (hl : ∀ j, 3 ≤ j → j < 6 → pLaw h j) : zSem l Γ false (d + 1) (zhd 188) [.ref 0] h (fun r h' => r = none ∧ sInv swM h' ∧ sMd aMd2 h h' ∧ pI h' 36 0 = 0 ∧ pI h' 0 82 = 0 ∧ pI h' 0 76 = 0 ∧ pI h' 0 77 = -1 ∧ (∀ t ∈ kxF, pI h' t.1 t.2.2 = pI h t.1 t.2.1) ∧ (∀ j, j < 3 → pI h' 19 j = pI h 19 (3 + j) ∧ pI h' 20 j = pI h 20 (3 + j) ∧ pI h' 21 j = pI h 21 (3 + j)) ∧ (∀ q i, q = 22 ∨ q = 23 ∨ q = 24 → i < 64 → pI h' q i = pI h q (64 + i))) := by
  obtain ⟨d1, rfl⟩ : ∃ d1, d = d1 + 1 := ⟨d - 1, by omega⟩
  obtain ⟨hit, hrow, hlaw⟩ := sto hi
  have b19 : ∀ j, j < 6 → pI h 19 j = 0 ∨ pI h 19 j = 1 := fun j hj => by
    have e : sIv swM 19 j = (0, 1) := by
      show sgAt [(6, 0, 1)] j = (0, 1)
      simp only [sgAt]
      rw [if_pos hj]
    have := pbd hi e
    simp only at this
    omega
  have b21 : ∀ j, j < 6 → 0 ≤ pI h 21 j ∧ pI h 21 j ≤ 64 := fun j hj => by
    have e : sIv swM 21 j = (0, 64) := by
      show sgAt [(6, 0, 64)] j = (0, 64)
      simp only [sgAt]
      rw [if_pos hj]
    exact pbd hi e
  have kiv : ∀ j, 3 ≤ j → j < 6 → (kIv (pI h 19 j)).1 ≤ pI h 21 j ∧ pI h 21 j ≤ (kIv (pI h 19 j)).2 := fun j j3 j6 => by
    unfold kIv
    split
    · rename_i e
      exact hl j j3 j6 e
    · exact b21 j j6
  have b20 : ∀ j, j < 6 → 0 ≤ pI h 20 j ∧ pI h 20 j ≤ 64 := fun j hj => by
    have e : sIv swM 20 j = (0, 64) := by
      show sgAt [(6, 0, 64)] j = (0, 64)
      simp only [sgAt]
      rw [if_pos hj]
    exact pbd hi e
  refine zkpA (d := d1) hit ?_
  intro lo0 h9 p2' hi9 hm9 kx
  have p2 : ∀ q ∈ lL, ∃ v, zget lo0 q.1 = some v ∧ sTok q.2 v := fun q hq => by
    have hq := List.mem_singleton.mp hq
    subst hq
    exact p2'
  have n19 : ∀ j, pI h9 19 j = pI h 19 j := fun j => pI_md hm9 (smem_q rfl j)
  have n21 : ∀ j, pI h9 21 j = pI h 21 j := fun j => pI_md hm9 (smem_q rfl j)
  have n20 : ∀ j, pI h9 20 j = pI h 20 j := fun j => pI_md hm9 (smem_q rfl j)
  have b19' : ∀ j, j < 6 → 0 ≤ pI h 19 j ∧ pI h 19 j ≤ 1 := fun j hj => by
    have := b19 j hj
    omega
  refine lwkp (d := d1 + 1) (by omega) hi9 (b19' 3 (by decide)) (b19' 4 (by decide)) (b19' 5 (by decide)) (b20 3 (by decide)) (b20 4 (by decide)) (b20 5 (by decide)) (b21 3 (by decide)) (b21 4 (by decide)) (b21 5 (by decide)) (by obtain ⟨v, e1, e2⟩ := p2'; rw [e1, show v = .ref 0 from e2]) (n19 3) (n19 4) (n19 5) (n20 3) (n20 4) (n20 5) (n21 3) (n21 4) (n21 5) (fun lo1 h1 x hi1 hm1 s2 s1 s0 f2 f1 f0 t2 t1 t0 l0 hx => ?_)
  have p2 : ∀ q ∈ lL, ∃ v, zget lo1 q.1 = some v ∧ sTok q.2 v := sfm ⟨_, l0, rfl⟩ (fun _ h => nomatch h)
  have L1 : ∀ j, j < 3 → pLaw h1 j := by
    intro j hj e
    have j3 : j = 0 ∨ j = 1 ∨ j = 2 := by omega
    rcases j3 with rfl | rfl | rfl
    · rw [s0]
      exact hl 3 (by decide) (by decide) (t0.symm.trans e)
    · rw [s1]
      exact hl 4 (by decide) (by decide) (t1.symm.trans e)
    · rw [s2]
      exact hl 5 (by decide) (by decide) (t2.symm.trans e)
  have q1 : ∀ q i, q = 22 ∨ q = 23 ∨ q = 24 → pI h1 q i = pI h q i := fun q i hq => by
    rcases hq with rfl | rfl | rfl <;> exact (pI_md hm1 (smem_q rfl i)).trans (pI_md hm9 (smem_q rfl i))
  refine zcallS (as := [.int x, .ref 22]) zv_k0 rfl ?_
  refine (zcopies (by decide) hx hi1).mono ?_
  rintro rr h2 ⟨rfl, hi2, hm2, c2⟩
  refine spq_ok (pc := 233) (fun _ => 0) kB1 (fun mi c h => nomatch h) (Nat.zero_le _) p2 (sA0_ok _) trivial hi2 rfl ?_ (fun e he => nomatch he)
  intro e he lo3 st3 h3 hp hi3 hm3
  have e := List.mem_singleton.mp he
  subst e
  obtain ⟨p1, p2, p3, p4, p5⟩ := hp
  obtain ⟨_, _, rfl, ⟨x3, rfl, hx1, hx2⟩, vr, _, rfl, hr, hn⟩ := p1
  have hx1 : 64 ≤ x3.toInt := hx1
  have hx2 : x3.toInt ≤ 64 := hx2
  have hr : vr = .ref 23 := hr
  subst hr
  have hn : _ = [] := hn
  subst hn
  refine zcallS (as := [.int x3, .ref 23]) zv_k1 rfl ?_
  refine (zcopies (by decide) (by omega) hi3).mono ?_
  rintro rr h4 ⟨rfl, hi4, hm4, c4⟩
  refine spq_ok (pc := 242) (fun _ => 0) kB2 (fun mi c h => nomatch h) (Nat.zero_le _) p2 (sA0_ok _) trivial hi4 rfl ?_ (fun e he => nomatch he)
  intro e he lo5 st5 h5 hp hi5 hm5
  have e := List.mem_singleton.mp he
  subst e
  obtain ⟨p1, p2, p3, p4, p5⟩ := hp
  obtain ⟨_, _, rfl, ⟨x5, rfl, hx1, hx2⟩, vr, _, rfl, hr, hn⟩ := p1
  have hx1 : 64 ≤ x5.toInt := hx1
  have hx2 : x5.toInt ≤ 64 := hx2
  have hr : vr = .ref 24 := hr
  subst hr
  have hn : _ = [] := hn
  subst hn
  refine zcallS (as := [.int x5, .ref 24]) zv_k2 rfl ?_
  refine (zcopies (by decide) (by omega) hi5).mono ?_
  rintro rr h6 ⟨rfl, hi6, hm6, c6⟩
  have w3 : ∀ q j, pI h3 q j = pI h2 q j := fun q j => pI_md hm3 rfl
  have w5 : ∀ q j, pI h5 q j = pI h4 q j := fun q j => pI_md hm5 rfl
  have up : ∀ q j, 64 ≤ j → smem [(q, 0, 64)] q j = false := fun q j hj => by
    cases hc : smem [(q, 0, 64)] q j with
    | false => rfl
    | true =>
      simp only [smem, List.any_cons, List.any_nil, Bool.and_eq_true, beq_iff_eq, decide_eq_true_eq, Bool.or_false] at hc
      omega
  have r22 : ∀ i, pI h6 22 i = pI h2 22 i := fun i => (pI_md hm6 (smem_q rfl i)).trans ((w5 22 i).trans ((pI_md hm4 (smem_q rfl i)).trans (w3 22 i)))
  have r23 : ∀ i, pI h6 23 i = pI h4 23 i := fun i => (pI_md hm6 (smem_q rfl i)).trans (w5 23 i)
  have o23 : ∀ i, pI h3 23 i = pI h 23 i := fun i => (w3 23 i).trans ((pI_md hm2 (smem_q rfl i)).trans (q1 23 i (by omega)))
  have o24 : ∀ i, pI h5 24 i = pI h 24 i := fun i => (w5 24 i).trans ((pI_md hm4 (smem_q rfl i)).trans ((w3 24 i).trans ((pI_md hm2 (smem_q rfl i)).trans (q1 24 i (by omega)))))
  have hi6' : sInv swM h6 := by
    refine sof hi6 (fun i hlt => ?_) (fun j hlt => ?_)
    · by_cases h64 : i < 64
      · refine (hrow (64 + i) (by omega)).congr ?_ ?_ ?_
        · rw [r22, c2 i h64, q1 22 _ (by omega)]
        · rw [r23, c4 i h64, o23]
        · rw [c6 i h64, o24]
      · refine (hrow i hlt).congr ?_ ?_ ?_
        · rw [r22, pI_md hm2 (up 22 i (by omega)), q1 22 _ (by omega)]
        · rw [r23, pI_md hm4 (up 23 i (by omega)), o23]
        · rw [pI_md hm6 (up 24 i (by omega)), o24]
    · have a : ∀ q j, q = 19 ∨ q = 21 → pI h6 q j = pI h1 q j := fun q j hq => by
        rcases hq with rfl | rfl
        · exact (pI_md hm6 (smem_q rfl j)).trans ((w5 19 j).trans ((pI_md hm4 (smem_q rfl j)).trans ((w3 19 j).trans (pI_md hm2 (smem_q rfl j)))))
        · exact (pI_md hm6 (smem_q rfl j)).trans ((w5 21 j).trans ((pI_md hm4 (smem_q rfl j)).trans ((w3 21 j).trans (pI_md hm2 (smem_q rfl j)))))
      exact (L1 j hlt).congr (a 19 j (Or.inl rfl)) (a 21 j (Or.inr rfl))
  refine spq_ok (pc := 251) (fun _ => 0) kB3c (sTMbd l Γ 8) (by omega) p2 (sA0_ok _) trivial hi6' rfl (fun e he => nomatch he) ?_
  intro e he r' h7 hp hi7 hm7
  have e := List.mem_singleton.mp he
  subst e
  have a1 : 0 ≤ pI h7 36 0 ∧ pI h7 36 0 ≤ 0 := hp.2.1.1 (36, 0, (0, 0)) List.mem_cons_self
  have a2 : 0 ≤ pI h7 0 82 ∧ pI h7 0 82 ≤ 0 := hp.2.1.1 (0, 82, (0, 0)) (List.mem_cons_of_mem _ List.mem_cons_self)
  have a3 : 0 ≤ pI h7 0 76 ∧ pI h7 0 76 ≤ 0 := hp.2.1.1 (0, 76, (0, 0)) (List.mem_cons_of_mem _ (List.mem_cons_of_mem _ List.mem_cons_self))
  have a4 : -1 ≤ pI h7 0 77 ∧ pI h7 0 77 ≤ -1 := hp.2.1.1 (0, 77, (-1, -1)) (List.mem_cons_of_mem _ (List.mem_cons_of_mem _ (List.mem_cons_of_mem _ List.mem_cons_self)))
  have K7 : sMd kbM h9 h7 := (((((hm1.sub (by decide +kernel)).seq (hm2.sub (by decide +kernel))).seq (hm3.sub (by decide +kernel))).seq (hm4.sub (by decide +kernel))).seq (hm5.sub (by decide +kernel))).seq ((hm6.sub (by decide +kernel)).seq (hm7.sub kbL_s))
  have lo7 : ∀ q j, 19 ≤ q → q ≤ 24 → pI h7 q j = pI h6 q j := fun q j g1 g2 => pI_md hm7 (by
    have hq : q = 19 ∨ q = 20 ∨ q = 21 ∨ q = 22 ∨ q = 23 ∨ q = 24 := by omega
    rcases hq with rfl | rfl | rfl | rfl | rfl | rfl <;> exact smem_q (by decide +kernel) j)
  have lo6 : ∀ q j, 19 ≤ q → q ≤ 21 → pI h7 q j = pI h1 q j := fun q j g1 g2 => by
    rw [lo7 q j g1 (by omega)]
    have hq : q = 19 ∨ q = 20 ∨ q = 21 := by omega
    rcases hq with rfl | rfl | rfl <;> exact (pI_md hm6 (smem_q rfl j)).trans ((w5 _ j).trans ((pI_md hm4 (smem_q rfl j)).trans ((w3 _ j).trans (pI_md hm2 (smem_q rfl j)))))
  refine ⟨hp.1, hi7, (hm9.sub (by decide +kernel)).seq (K7.sub (by decide +kernel)), by omega, by omega, by omega, by omega, fun t ht => ?_, fun j hj => ?_, fun q i hq hlt => ?_⟩
  · rw [← kx t ht]
    have g := List.all_eq_true.mp kbM_k t ht
    simp only [Bool.not_eq_true'] at g
    exact pI_md K7 g
  · rw [lo6 19 j (by decide) (by decide), lo6 20 j (by decide) (by decide), lo6 21 j (by decide) (by decide)]
    have j3 : j = 0 ∨ j = 1 ∨ j = 2 := by omega
    rcases j3 with rfl | rfl | rfl
    · exact ⟨t0, f0, s0⟩
    · exact ⟨t1, f1, s1⟩
    · exact ⟨t2, f2, s2⟩
  · rw [lo7 q i (by omega) (by omega)]
    rcases hq with rfl | rfl | rfl
    · rw [r22, c2 i hlt, q1 22 _ (by omega)]
    · rw [r23, c4 i hlt, o23]
    · rw [c6 i hlt, o24]
set_option maxRecDepth 100000 in
set_option maxHeartbeats 4000000 in
theorem txA {l : Launch} {Γ : zG} {d : Nat} {Kp : Option Value → zH → Prop} {I : zHI} {Lg : zHL} {P : zHP} {x : Int32} (c1 : ¬ x < 0) (c2 : x ≤ zu2 I 0 2 (Int32.ofInt 0) 0 1) (hX : zX l Γ false (d + 1) zh194 (zMQ' Γ false zh194 Kp) 0 0 25 [(0, .ref 0), (1, .int x)] [] (zshM, zu2 (zu2 I 0 2 (Int32.ofInt 0)) 0 6 x, Lg, P)) : zX l Γ false (d + 1) zh194 (zMQ' Γ false zh194 Kp) 0 0 0 [(0, .ref 0), (1, .int x)] [] (zshM, I, Lg, P) := by
  refine zpcF (M := (zh194, zc194)) 194 25 rfl zckm194 (fun _ _ _ _ h => h) ?_
  refine zdecF c1 (fun _ => ?_)
  refine zdecT c2 (fun _ => ?_)
  exact hX
set_option maxRecDepth 100000 in
set_option maxHeartbeats 4000000 in
theorem txC {l : Launch} {Γ : zG} {d : Nat} {Kp : Option Value → zH → Prop} {I : zHI} {Lg : zHL} {P : zHP}  (hX : zX l Γ false (d + 1) zh194 (zMQ' Γ false zh194 Kp) 0 0 55 [(2, .int (Int32.ofInt 0)), (0, .ref 0)] [] (zshM, I, Lg, P)) : zX l Γ false (d + 1) zh194 (zMQ' Γ false zh194 Kp) 0 0 53 [(0, .ref 0)] [] (zshM, I, Lg, P) := by
  refine zpcF (M := (zh194, zc194)) 194 55 rfl zckm194 (fun _ _ _ _ h => h) ?_
  exact hX
set_option maxRecDepth 100000 in
set_option maxHeartbeats 4000000 in
theorem txD {l : Launch} {Γ : zG} {d : Nat} {Kp : Option Value → zH → Prop} {I : zHI} {Lg : zHL} {P : zHP} {K : Int32} (c : ¬ I 0 8 = 0) (hX : zX l Γ false (d + 1) zh194 (zMQ' Γ false zh194 Kp) 0 0 63 [(2, .int K), (0, .ref 0)] [.ref 0] (zshM, I, Lg, P)) : zX l Γ false (d + 1) zh194 (zMQ' Γ false zh194 Kp) 0 0 55 [(2, .int K), (0, .ref 0)] [] (zshM, I, Lg, P) := by
  refine zpcF (M := (zh194, zc194)) 194 63 rfl zckm194 (fun _ _ _ _ h => h) ?_
  refine zdecF c (fun _ => ?_)
  exact hX
set_option maxRecDepth 100000 in
set_option maxHeartbeats 4000000 in
theorem txE {l : Launch} {Γ : zG} {d : Nat} {Kp : Option Value → zH → Prop} {I : zHI} {Lg : zHL} {P : zHP} {K : Int32} (c : I 0 8 = 0) (hX : zX l Γ false (d + 1) zh194 (zMQ' Γ false zh194 Kp) 0 0 78 [(2, .int K), (0, .ref 0)] [.ref 0] (zshM, I, Lg, P)) : zX l Γ false (d + 1) zh194 (zMQ' Γ false zh194 Kp) 0 0 55 [(2, .int K), (0, .ref 0)] [] (zshM, I, Lg, P) := by
  refine zpcF (M := (zh194, zc194)) 194 78 rfl zckm194 (fun _ _ _ _ h => h) ?_
  refine zdecT c (fun _ => ?_)
  exact hX
set_option maxRecDepth 100000 in
set_option maxHeartbeats 4000000 in
theorem txF {l : Launch} {Γ : zG} {d : Nat} {Kp : Option Value → zH → Prop} {I : zHI} {Lg : zHL} {P : zHP} {K x : Int32} (c : ¬ x = 0) (hX : zX l Γ false (d + 1) zh194 (zMQ' Γ false zh194 Kp) 0 0 55 [(2, .int (K + Int32.ofInt 1)), (0, .ref 0)] [] (zshM, I, Lg, P)) : zX l Γ false (d + 1) zh194 (zMQ' Γ false zh194 Kp) 0 0 66 [(2, .int K), (0, .ref 0)] [.int x] (zshM, I, Lg, P) := by
  refine zpcF (M := (zh194, zc194)) 194 55 rfl zckm194 (fun _ _ _ _ h => h) ?_
  refine zdecF c (fun _ => ?_)
  exact hX
set_option maxRecDepth 100000 in
set_option maxHeartbeats 4000000 in
theorem txG {l : Launch} {Γ : zG} {d : Nat} {Kp : Option Value → zH → Prop} {I : zHI} {Lg : zHL} {P : zHP} {K x : Int32} (c : x = 0) (hX : Kp (some (.int (Int32.ofInt (-1)))) (zshM, I, Lg, P)) : zX l Γ false (d + 1) zh194 (zMQ' Γ false zh194 Kp) 0 0 66 [(2, .int K), (0, .ref 0)] [.int x] (zshM, I, Lg, P) := by
  refine zpcF (M := (zh194, zc194)) 194 1000 rfl zckm194 (fun _ _ _ _ h => h) ?_
  refine zdecT c (fun _ => ?_)
  exact hX
set_option maxRecDepth 100000 in
set_option maxHeartbeats 4000000 in
theorem txH {l : Launch} {Γ : zG} {d : Nat} {Kp : Option Value → zH → Prop} {I : zHI} {Lg : zHL} {P : zHP} {K : Int32} (hX : Kp (some (.int K)) (zshM, I, Lg, P)) : zX l Γ false (d + 1) zh194 (zMQ' Γ false zh194 Kp) 0 0 81 [(2, .int K), (0, .ref 0)] [] (zshM, I, Lg, P) := by
  refine zpcF (M := (zh194, zc194)) 194 1000 rfl zckm194 (fun _ _ _ _ h => h) ?_
  exact hX
def tMd : sM := (0, 2, 100) :: (List.range 41).map (fun q => (q + 3, 0, 2000))
theorem tMd_l : ssubB lnMd tMd = true := by decide +kernel
theorem tMd_a : ssubB aMd2 tMd = true := by decide +kernel
/-- what a text that is taken leaves -/
def kQ (h' : zH) : Prop := pI h' 36 0 = 0 ∧ pI h' 0 82 = 0 ∧ pI h' 0 4 = 0 ∧ pI h' 0 5 = -1 ∧ pI h' 0 76 = 0 ∧ pI h' 0 77 = -1
def zTP (KF : zKF) (KO : Nat → zN → zS → Prop) (h0 : zH) (r : Option Value) (h' : zH) : Prop := sInv swM h' ∧ ∃ y : Int32, r = some (.int y) ∧ ((∃ c p, KF c p ∧ y.toInt = -1 ∧ fM c p h' ∧ sMd lnMd h0 h') ∨ (∃ m N S, KO m N S ∧ y.toInt = ((m : Nat) : Int) ∧ kQ h' ∧ TM N S h' ∧ sMd tMd h0 h'))
