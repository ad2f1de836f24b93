/-! a text that is taken gives the first state, on both sides -/
theorem CT.tl {N : zN} {S : zS} {h : zH} (hC : CT N S h) : ∃ t, t < 2 ∧ CTl t N S h := by
  obtain ⟨t, ht, hT⟩ := hC.t
  obtain ⟨d0, hd, h5, -, hR⟩ := hC
  have e : d0 = 17 * t + 9 := by
    have := h5.symm.trans hT.1
    cases this
    rfl
  subst e
  exact ⟨t, ht, hT, hR.2.2.2.2.2, hR.2.2.1⟩
def MBr : sM := khB1_m ++ MAf 0
theorem MBr_s : ssubB khB0_m MBr = true ∧ ssubB (MAf 0) MBr = true ∧ ssubB khB1_m MBr = true ∧ ssubB MBr kbL = true ∧ ssubB khK_m kbL = true ∧ ssubB khL_m kbL = true ∧ smem khB1_m 36 0 = false ∧ smem khB1_m 35 0 = false ∧ (khB1_m.all fun t => decide (t.1 < 1) || decide (100 ≤ t.1)) = true ∧ ((MBr.all fun t => decide (t.1 < 5) || decide (19 ≤ t.1)) && !smem MBr 4 1) = true := by decide
def bgF (h : zH) : Prop := (∀ g, g < 8 → firM S0 0 h h g) ∧ (∀ p, p < 10 → pI h 34 (10 * 0 + p) = 0) ∧ pI h 35 0 = 0 ∧ pL h 0 65 = pI h 4 1
theorem bgF.ms {N : zN} {S : zS} {h : zH} (hi : sInv swM h) (hT : TM N S h) (h36 : pI h 36 0 = 0) (hF : bgF h) : MS S 0 (bgS N S) h := by
  have hb : S 1 ≤ 8 := hT.b hi 1 (by decide)
  have e := bgM (b := 0) (nu := N 14 1) (hT.t hi) hb hF.1 hF.2.1 h36 hF.2.2.1 (hF.2.2.2.trans hT.2.2.2.1.2)
  rwa [stS_id (s := bgS N S) (k := 6) (g := 2) (v := N 14 1) rfl] at e
theorem zv_khb0 : zcvB 190 2 12 1 191 = true := by decide +kernel
theorem zBegM {l : Launch} {Γ : zG} {d : Nat} {h : zH} (hi : sInv swM h) : zSem l Γ false (d + 2) (zhd 190) [.ref 0] h (fun r h' => r = none ∧ sInv swM h' ∧ sMd MBr h h' ∧ pI h' 36 0 = 0 ∧ pI h' 0 82 = 0 ∧ pI h' 0 76 = 0 ∧ pI h' 0 77 = -1 ∧ pI h' 0 80 = 0 ∧ bgF h') := by
  obtain ⟨s1, s2, s3, s4, s5, s6, s7, s8, s9, s10⟩ := MBr_s
  refine khB0 (d := d + 1) (by omega) hi (fun lo1 h1 y0 i1 m1 l0 hy => ?_)
  refine zcallR (mi := 190) (as := [.int y0]) (rest := []) (q0 := 0) zv_khb0 rfl (by decide) (shM i1) ?_
  refine (zAfM (d := d) (b := 0) (S := S0) (by decide) i1 hy).mono (fun v h2 hv => ?_)
  obtain ⟨rfl, i2, m2, hf, hc, k36, k35⟩ := hv
  refine khB1 (d := d + 1) (by omega) (sd := pI h2 4 1) i2 (i32bd _) l0 rfl (fun h3 u0 i3 m3 z0 z1 k82 k80 k77 k76 k73 k72 k71 k70 k69 k68 k67 k66 => ?_)
  have M : sMd MBr h h3 := ((m1.sub s1).seq (m2.sub s2)).seq (m3.sub s3)
  have c3 : ∀ q j, 1 ≤ q → q < 100 → pI h3 q j = pI h2 q j := fun q j a b => pI_md m3 (smem_out s9 a b)
  have c1 : ∀ q j, 5 ≤ q → q < 19 → pI h3 q j = pI h1 q j := fun q j a b => by
    simp only [Bool.and_eq_true] at s10
    rw [c3 q j (by omega) (by omega), pI_md m2 (smem_out (a := 5) (b := 19) (by decide) (by omega) (by omega))]
  refine ⟨rfl, i3, M, (c3 36 0 (by decide) (by decide)).trans k36, k82, k76, k77, k80, fun g hg => ?_, fun p hp => (c3 34 _ (by decide) (by decide)).trans (hc p hp), (c3 35 0 (by decide) (by decide)).trans k35, ?_⟩
  · have b := hf g hg
    unfold firM at b ⊢
    rw [c3 29 _ (by decide) (by decide), c3 30 _ (by decide) (by decide), c3 31 _ (by decide) (by decide), c3 32 _ (by decide) (by decide), c3 33 _ (by decide) (by decide), c1 8 _ (by decide) (by decide), c1 9 _ (by decide) (by decide)]
    exact b
  · rw [z0, z1, c3 4 1 (by decide) (by decide)]
theorem zv_khk : zcvB 188 252 12 0 190 = true := by decide +kernel

theorem zkeep4 {l : Launch} {Γ : zG} {d : Nat} (hd : 8 ≤ d) {h : zH} (hi : sInv swM h) (hl : ∀ j, 3 ≤ j → j < 6 → pLaw h j) : zSem l Γ false (d + 1) (zhd 188) [.ref 0] h (fun r h' => r = none ∧ sInv swM h' ∧ sMd aMd2 h h' ∧ pI h' 36 0 = 0 ∧ pI h' 0 82 = 0 ∧ pI h' 0 76 = 0 ∧ pI h' 0 77 = -1 ∧ (pI h' 0 80 = 0 ∧ bgF h') ∧ (∀ t ∈ kxF, pI h' t.1 t.2.2 = pI h t.1 t.2.1) ∧ (∀ j, j < 3 → pI h' 19 j = pI h 19 (3 + j) ∧ pI h' 20 j = pI h 20 (3 + j) ∧ pI h' 21 j = pI h 21 (3 + j)) ∧ (∀ q i, q = 22 ∨ q = 23 ∨ q = 24 → i < 64 → pI h' q i = pI h q (64 + i))) := by
  obtain ⟨d1, rfl⟩ : ∃ d1, d = d1 + 1 := ⟨d - 1, by omega⟩
  obtain ⟨hit, hrow, hlaw⟩ := sto hi
  have b19 : ∀ j, j < 6 → pI h 19 j = 0 ∨ pI h 19 j = 1 := fun j hj => by
    have e : sIv swM 19 j = (0, 1) := by
      show sgAt [(6, 0, 1)] j = (0, 1)
      simp only [sgAt]
      rw [if_pos hj]
    have := pbd hi e
    simp only at this
    omega
  have b21 : ∀ j, j < 6 → 0 ≤ pI h 21 j ∧ pI h 21 j ≤ 64 := fun j hj => by
    have e : sIv swM 21 j = (0, 64) := by
      show sgAt [(6, 0, 64)] j = (0, 64)
      simp only [sgAt]
      rw [if_pos hj]
    exact pbd hi e
  have kiv : ∀ j, 3 ≤ j → j < 6 → (kIv (pI h 19 j)).1 ≤ pI h 21 j ∧ pI h 21 j ≤ (kIv (pI h 19 j)).2 := fun j j3 j6 => by
    unfold kIv
    split
    · rename_i e
      exact hl j j3 j6 e
    · exact b21 j j6
  have b20 : ∀ j, j < 6 → 0 ≤ pI h 20 j ∧ pI h 20 j ≤ 64 := fun j hj => by
    have e : sIv swM 20 j = (0, 64) := by
      show sgAt [(6, 0, 64)] j = (0, 64)
      simp only [sgAt]
      rw [if_pos hj]
    exact pbd hi e
  refine zkpA (d := d1) hit ?_
  intro lo0 h9 p2' hi9 hm9 kx
  have p2 : ∀ q ∈ lL, ∃ v, zget lo0 q.1 = some v ∧ sTok q.2 v := fun q hq => by
    have hq := List.mem_singleton.mp hq
    subst hq
    exact p2'
  have n19 : ∀ j, pI h9 19 j = pI h 19 j := fun j => pI_md hm9 (smem_q rfl j)
  have n21 : ∀ j, pI h9 21 j = pI h 21 j := fun j => pI_md hm9 (smem_q rfl j)
  have n20 : ∀ j, pI h9 20 j = pI h 20 j := fun j => pI_md hm9 (smem_q rfl j)
  have b19' : ∀ j, j < 6 → 0 ≤ pI h 19 j ∧ pI h 19 j ≤ 1 := fun j hj => by
    have := b19 j hj
    omega
  refine lwkp (d := d1 + 1) (by omega) hi9 (b19' 3 (by decide)) (b19' 4 (by decide)) (b19' 5 (by decide)) (b20 3 (by decide)) (b20 4 (by decide)) (b20 5 (by decide)) (b21 3 (by decide)) (b21 4 (by decide)) (b21 5 (by decide)) (by obtain ⟨v, e1, e2⟩ := p2'; rw [e1, show v = .ref 0 from e2]) (n19 3) (n19 4) (n19 5) (n20 3) (n20 4) (n20 5) (n21 3) (n21 4) (n21 5) (fun lo1 h1 x hi1 hm1 s2 s1 s0 f2 f1 f0 t2 t1 t0 l0 hx => ?_)
  have p2 : ∀ q ∈ lL, ∃ v, zget lo1 q.1 = some v ∧ sTok q.2 v := sfm ⟨_, l0, rfl⟩ (fun _ h => nomatch h)
  have L1 : ∀ j, j < 3 → pLaw h1 j := by
    intro j hj e
    have j3 : j = 0 ∨ j = 1 ∨ j = 2 := by omega
    rcases j3 with rfl | rfl | rfl
    · rw [s0]
      exact hl 3 (by decide) (by decide) (t0.symm.trans e)
    · rw [s1]
      exact hl 4 (by decide) (by decide) (t1.symm.trans e)
    · rw [s2]
      exact hl 5 (by decide) (by decide) (t2.symm.trans e)
  have q1 : ∀ q i, q = 22 ∨ q = 23 ∨ q = 24 → pI h1 q i = pI h q i := fun q i hq => by
    rcases hq with rfl | rfl | rfl <;> exact (pI_md hm1 (smem_q rfl i)).trans (pI_md hm9 (smem_q rfl i))
  refine zcallS (as := [.int x, .ref 22]) zv_k0 rfl ?_
  refine (zcopies (by decide) hx hi1).mono ?_
  rintro rr h2 ⟨rfl, hi2, hm2, c2⟩
  refine spq_ok (pc := 233) (fun _ => 0) kB1 (fun mi c h => nomatch h) (Nat.zero_le _) p2 (sA0_ok _) trivial hi2 rfl ?_ (fun e he => nomatch he)
  intro e he lo3 st3 h3 hp hi3 hm3
  have e := List.mem_singleton.mp he
  subst e
  obtain ⟨p1, p2, p3, p4, p5⟩ := hp
  obtain ⟨_, _, rfl, ⟨x3, rfl, hx1, hx2⟩, vr, _, rfl, hr, hn⟩ := p1
  have hx1 : 64 ≤ x3.toInt := hx1
  have hx2 : x3.toInt ≤ 64 := hx2
  have hr : vr = .ref 23 := hr
  subst hr
  have hn : _ = [] := hn
  subst hn
  refine zcallS (as := [.int x3, .ref 23]) zv_k1 rfl ?_
  refine (zcopies (by decide) (by omega) hi3).mono ?_
  rintro rr h4 ⟨rfl, hi4, hm4, c4⟩
  refine spq_ok (pc := 242) (fun _ => 0) kB2 (fun mi c h => nomatch h) (Nat.zero_le _) p2 (sA0_ok _) trivial hi4 rfl ?_ (fun e he => nomatch he)
  intro e he lo5 st5 h5 hp hi5 hm5
  have e := List.mem_singleton.mp he
  subst e
  obtain ⟨p1, p2, p3, p4, p5⟩ := hp
  obtain ⟨_, _, rfl, ⟨x5, rfl, hx1, hx2⟩, vr, _, rfl, hr, hn⟩ := p1
  have hx1 : 64 ≤ x5.toInt := hx1
  have hx2 : x5.toInt ≤ 64 := hx2
  have hr : vr = .ref 24 := hr
  subst hr
  have hn : _ = [] := hn
  subst hn
  refine zcallS (as := [.int x5, .ref 24]) zv_k2 rfl ?_
  refine (zcopies (by decide) (by omega) hi5).mono ?_
  rintro rr h6 ⟨rfl, hi6, hm6, c6⟩
  have w3 : ∀ q j, pI h3 q j = pI h2 q j := fun q j => pI_md hm3 rfl
  have w5 : ∀ q j, pI h5 q j = pI h4 q j := fun q j => pI_md hm5 rfl
  have up : ∀ q j, 64 ≤ j → smem [(q, 0, 64)] q j = false := fun q j hj => by
    cases hc : smem [(q, 0, 64)] q j with
    | false => rfl
    | true =>
      simp only [smem, List.any_cons, List.any_nil, Bool.and_eq_true, beq_iff_eq, decide_eq_true_eq, Bool.or_false] at hc
      omega
  have r22 : ∀ i, pI h6 22 i = pI h2 22 i := fun i => (pI_md hm6 (smem_q rfl i)).trans ((w5 22 i).trans ((pI_md hm4 (smem_q rfl i)).trans (w3 22 i)))
  have r23 : ∀ i, pI h6 23 i = pI h4 23 i := fun i => (pI_md hm6 (smem_q rfl i)).trans (w5 23 i)
  have o23 : ∀ i, pI h3 23 i = pI h 23 i := fun i => (w3 23 i).trans ((pI_md hm2 (smem_q rfl i)).trans (q1 23 i (by omega)))
  have o24 : ∀ i, pI h5 24 i = pI h 24 i := fun i => (w5 24 i).trans ((pI_md hm4 (smem_q rfl i)).trans ((w3 24 i).trans ((pI_md hm2 (smem_q rfl i)).trans (q1 24 i (by omega)))))
  have hi6' : sInv swM h6 := by
    refine sof hi6 (fun i hlt => ?_) (fun j hlt => ?_)
    · by_cases h64 : i < 64
      · refine (hrow (64 + i) (by omega)).congr ?_ ?_ ?_
        · rw [r22, c2 i h64, q1 22 _ (by omega)]
        · rw [r23, c4 i h64, o23]
        · rw [c6 i h64, o24]
      · refine (hrow i hlt).congr ?_ ?_ ?_
        · rw [r22, pI_md hm2 (up 22 i (by omega)), q1 22 _ (by omega)]
        · rw [r23, pI_md hm4 (up 23 i (by omega)), o23]
        · rw [pI_md hm6 (up 24 i (by omega)), o24]
    · have a : ∀ q j, q = 19 ∨ q = 21 → pI h6 q j = pI h1 q j := fun q j hq => by
        rcases hq with rfl | rfl
        · exact (pI_md hm6 (smem_q rfl j)).trans ((w5 19 j).trans ((pI_md hm4 (smem_q rfl j)).trans ((w3 19 j).trans (pI_md hm2 (smem_q rfl j)))))
        · exact (pI_md hm6 (smem_q rfl j)).trans ((w5 21 j).trans ((pI_md hm4 (smem_q rfl j)).trans ((w3 21 j).trans (pI_md hm2 (smem_q rfl j)))))
      exact (L1 j hlt).congr (a 19 j (Or.inl rfl)) (a 21 j (Or.inr rfl))
  obtain ⟨e2, he2⟩ : ∃ e2, d1 + 1 = e2 + 2 := ⟨d1 - 1, by omega⟩
  obtain ⟨g1, g2, g3, g4, g5, g6, g7, g8, g9, g10⟩ := MBr_s
  have l50 : zget lo5 0 = some (.ref 0) := by
    obtain ⟨v, e1, e2⟩ := p2 (0, sr0) List.mem_cons_self
    rw [e1, show v = .ref 0 from e2]
  refine khK (d := d1 + 1) (by omega) hi6' l50 (fun lo8 h8 i8 m8 => ?_)
  refine zcallR (mi := 188) (as := []) (rest := []) (q0 := 0) zv_khk rfl (by decide) (shM i8) ?_
  have zb := zBegM (l := l) (Γ := Γ) (d := e2) i8
  rw [← he2] at zb
  refine zb.mono (fun v h10 hv => ?_)
  obtain ⟨rfl, i10, m10, a1', a2', a3', a4', a5', aF⟩ := hv
  refine khL (d := d1 + 1) (by omega) i10 (fun h7 hi7 m7 => ?_)
  have hm7 : sMd kbL h6 h7 := ((m8.sub g5).seq (m10.sub g4)).seq (m7.sub g6)
  have n7 : ∀ q j, pI h7 q j = pI h10 q j := fun q j => pI_md m7 rfl
  have a1 := (n7 36 0).trans a1'
  have a2 := (n7 0 82).trans a2'
  have a3 := (n7 0 76).trans a3'
  have a4 := (n7 0 77).trans a4'
  have a5 := (n7 0 80).trans a5'
  have aG : bgF h7 := by
    refine ⟨fun g hg => ?_, fun p hp => (n7 34 _).trans (aF.2.1 p hp), (n7 35 0).trans aF.2.2.1, ((pL_md m7 rfl).trans aF.2.2.2).trans (n7 4 1).symm⟩
    have b := aF.1 g hg
    unfold firM at b ⊢
    rw [n7, n7, n7, n7, n7, n7, n7]
    exact b
  have K7 : sMd kbM h9 h7 := (((((hm1.sub (by decide +kernel)).seq (hm2.sub (by decide +kernel))).seq (hm3.sub (by decide +kernel))).seq (hm4.sub (by decide +kernel))).seq (hm5.sub (by decide +kernel))).seq ((hm6.sub (by decide +kernel)).seq (hm7.sub kbL_s))
  have lo7 : ∀ q j, 19 ≤ q → q ≤ 24 → pI h7 q j = pI h6 q j := fun q j g1 g2 => pI_md hm7 (by
    have hq : q = 19 ∨ q = 20 ∨ q = 21 ∨ q = 22 ∨ q = 23 ∨ q = 24 := by omega
    rcases hq with rfl | rfl | rfl | rfl | rfl | rfl <;> exact smem_q (by decide +kernel) j)
  have lo6 : ∀ q j, 19 ≤ q → q ≤ 21 → pI h7 q j = pI h1 q j := fun q j g1 g2 => by
    rw [lo7 q j g1 (by omega)]
    have hq : q = 19 ∨ q = 20 ∨ q = 21 := by omega
    rcases hq with rfl | rfl | rfl <;> exact (pI_md hm6 (smem_q rfl j)).trans ((w5 _ j).trans ((pI_md hm4 (smem_q rfl j)).trans ((w3 _ j).trans (pI_md hm2 (smem_q rfl j)))))
  refine ⟨rfl, hi7, (hm9.sub (by decide +kernel)).seq (K7.sub (by decide +kernel)), a1, a2, a3, a4, ⟨a5, aG⟩, fun t ht => ?_, fun j hj => ?_, fun q i hq hlt => ?_⟩
  · rw [← kx t ht]
    have g := List.all_eq_true.mp kbM_k t ht
    simp only [Bool.not_eq_true'] at g
    exact pI_md K7 g
  · rw [lo6 19 j (by decide) (by decide), lo6 20 j (by decide) (by decide), lo6 21 j (by decide) (by decide)]
    have j3 : j = 0 ∨ j = 1 ∨ j = 2 := by omega
    rcases j3 with rfl | rfl | rfl
    · exact ⟨t0, f0, s0⟩
    · exact ⟨t1, f1, s1⟩
    · exact ⟨t2, f2, s2⟩
  · rw [lo7 q i (by omega) (by omega)]
    rcases hq with rfl | rfl | rfl
    · rw [r22, c2 i hlt, q1 22 _ (by omega)]
    · rw [r23, c4 i hlt, o23]
    · rw [c6 i hlt, o24]

/-- what a text that is taken leaves, with the state -/
def kQ4 (N : zN) (S : zS) (h' : zH) : Prop := kQ h' ∧ MS S 0 (bgS N S) h' ∧ pI h' 0 80 = 0
def zTP4 (KF : zKF) (KO : Nat → zN → zS → Prop) (h0 : zH) (r : Option Value) (h' : zH) : Prop := sInv swM h' ∧ ∃ y : Int32, r = some (.int y) ∧ ((∃ c p, KF c p ∧ y.toInt = -1 ∧ fM c p h' ∧ sMd lnMd h0 h') ∨ (∃ m N S, KO m N S ∧ y.toInt = ((m : Nat) : Int) ∧ kQ4 N S h' ∧ TM N S h' ∧ sMd tMd h0 h'))

theorem zTxtK4 {l : Launch} {Γ : zG} {d : Nat} {D : zD} {KF : zKF} {KO : Nat → zN → zS → Prop} {h0 : zH} {K' : Option Value → zH → Prop} (hKK : ∀ r h', zTP4 KF KO h0 r h' → K' r h') : ∀ (f : Nat) (N : zN) (S : zS) (q m : Nat) (h : zH) (K : Int32), K.toInt = (m : Int) → m ≤ q → sInv swM h → sMd lnMd h0 h → tTk D q h → RM N S h → wTxt D f N S q m KF KO → D.2 - q < f → zX l Γ false (d + 10) zh194 (zMQ' Γ false zh194 K') 0 0 55 [(2, .int K), (0, .ref 0)] [] h
  | 0, N, S, q, m, h, K, hK, hmq, hi, hm, hT, hR, W, hlt => absurd hlt (Nat.not_lt_zero _)
  | f + 1, N, S, q, m, h, K, hK, hmq, hi, hm, hT, hR, W, hlt => by
    have hq := hT.2.1
    have hn := hT.1.2.2.2.1
    have k0 := kF_0 hq
    have fb := tkB_f hT.2.2.2
    have es := hi.1
    obtain ⟨s, I, Lg, P⟩ := h
    have es : s = zshM := es
    subst es
    simp only [wTxt] at W
    by_cases e : kF D q = 0
    · rw [if_pos e] at W
      have e8 : (I 0 8).toInt = 0 := by
        have : pI (zshM, I, Lg, P) 0 8 = 0 := by omega
        exact this
      refine txE (d := d + 9) (deq (by rw [e8]; decide)) ?_
      refine zcallV (mi := 194) (as := []) zv_x1 rfl (by rfl) ?_
      refine (zkeep4 (d := d + 8) (by omega) hi hR.2.2.2.2.1).mono ?_
      rintro r h2 ⟨rfl, hi2, hm2, b1, b2, b76, b77, ⟨b80, bF⟩, bx, bl, bk⟩
      have tm := hR.told hi bx bl bk
      have b3 : pI h2 0 4 = 0 := (pI_md hm2 (by decide +kernel)).trans hT.1.2.2.2.2.2.1
      have b4 : pI h2 0 5 = -1 := (pI_md hm2 (by decide +kernel)).trans hT.1.2.2.2.2.2.2
      obtain ⟨s2, I2, Lg2, P2⟩ := h2
      have es2 : s2 = zshM := hi2.1
      subst es2
      exact txH (d := d + 9) (hKK _ _ ⟨hi2, K, rfl, Or.inr ⟨m, N, S, W, hK, ⟨⟨b1, b2, b3, b4, b76, b77⟩, bF.ms hi2 tm b1, b80⟩, tm, (hm.sub tMd_l).seq (hm2.sub tMd_a)⟩⟩)
    · rw [if_neg e] at W
      have e8 : (I 0 8).toInt ≠ 0 := by
        have : pI (zshM, I, Lg, P) 0 8 ≠ 0 := by omega
        exact this
      refine txD (d := d + 9) (den (by rw [show (0 : Int32).toInt = 0 from by decide]; exact e8)) ?_
      refine zcallV (mi := 194) (as := []) zv_x0 rfl (by rfl) ?_
      refine (zLinR (d := d + 3) hi hT hR (wLin_p hq e W)).mono ?_
      rintro r h2 ⟨hi2, hm2, x, rfl, ⟨c, p, hF, hx, hf⟩ | ⟨N', S', q', W', hx, T', R'⟩⟩
      · obtain ⟨s2, I2, Lg2, P2⟩ := h2
        have es2 : s2 = zshM := hi2.1
        subst es2
        exact txG (d := d + 9) (deq (by rw [hx]; decide)) (hKK _ _ ⟨hi2, _, rfl, Or.inl ⟨c, p, hF, by decide, hf, hm.seq hm2⟩⟩)
      · obtain ⟨hqq, W'⟩ := W'
        obtain ⟨s2, I2, Lg2, P2⟩ := h2
        have es2 : s2 = zshM := hi2.1
        subst es2
        have eK : K + Int32.ofInt 1 = Int32.ofNat (m + 1) := by
          rw [iN (n := m) (by omega) hK]
          exact ofN_add m 1
        have hq' := T'.2.1
        refine txF (d := d + 9) (den (by rw [hx]; decide)) ?_
        rw [eK]
        exact zTxtK4 hKK f N' S' q' (m + 1) _ _ (oN (by omega)) (by omega) hi2 (hm.seq hm2) T' R' W' (by omega)


theorem zTxtR4 {l : Launch} {Γ : zG} {d : Nat} {D : zD} {KF : zKF} {KO : Nat → zN → zS → Prop} {h : zH} {N : zN} (n0 : N 14 0 = 0) (n1 : N 14 1 = 0) (hi : sInv swM h) (hB : mT h D.1) {x : Int32} (hx : x.toInt = (D.2 : Int)) (hn : (D.2 : Int) ≤ pI h 0 1) (W : wTxt D 701 N S0 (pF D 0) 0 KF KO) : zSem l Γ false (d + 10) (zhd 194) [.ref 0, .int x] h (fun r h' => sInv swM h' ∧ pI h' 0 1 = 0 ∧ (∀ j, pI h' 1 j = pI h 1 j) ∧ ∃ y : Int32, r = some (.int y) ∧ ((∃ c p, KF c p ∧ y.toInt = -1 ∧ fM c p h' ∧ sMd tMf h h') ∨ (∃ m N S, KO m N S ∧ y.toInt = ((m : Nat) : Int) ∧ kQ4 N S h' ∧ TM N S h'))) := by
  obtain ⟨ms1, ms2, ms3, ms4, ms5⟩ := tMe_s
  have b1 : pI h 0 1 ≤ 700 := by
    have g := hi.2.2.1 0 1
    rw [show sIv swM 0 1 = (0, 700) from by decide +kernel] at g
    exact g.2
  obtain ⟨s, I, Lg, P⟩ := h
  have es : s = zshM := hi.1
  subst es
  have hn' : (D.2 : Int) ≤ (I 0 1).toInt := hn
  show zSem l Γ false (d + 9 + 1) zh194 _ _ _
  have ha : sTL [sr0, .inl sf32] [.ref 0, .int x] := ⟨_, _, rfl, rfl, _, _, rfl, ⟨_, rfl, i32bd _⟩, rfl⟩
  refine zbody (by decide +kernel) (by rw [sslen_ok _ _ ha]; decide +kernel) ?_
  refine txA (d := d + 9) (dltn (by rw [hx, show (0 : Int32).toInt = 0 from by decide]; omega)) (dle (by rw [zu2_off (by decide), hx]; exact hn')) ?_
  have g : ∀ q k, smem [(0, 2, 3), (0, 6, 7)] q k = false → zu2 (zu2 I 0 2 (Int32.ofInt 0)) 0 6 x q k = I q k := fun q k hm => by
    have hne : ¬ (q = 0 ∧ (k = 2 ∨ k = 6)) := fun e => by
      have : smem [(0, 2, 3), (0, 6, 7)] q k = true := by
        simp only [smem, List.any_cons, List.any_nil, Bool.or_eq_true, Bool.and_eq_true, beq_iff_eq, decide_eq_true_eq, Bool.or_false]
        omega
      rw [this] at hm
      cases hm
    rw [zu2_off (by omega), zu2_off (by omega)]
  have hi1 : sInv swM (zshM, zu2 (zu2 I 0 2 (Int32.ofInt 0)) 0 6 x, Lg, P) := sInv_set hi rfl rfl (md := [(0, 2, 3), (0, 6, 7)]) g (fun q k hm => by
    have hk : q = 0 ∧ (k = 2 ∨ k = 6) := by
      simp only [smem, List.any_cons, List.any_nil, Bool.or_eq_true, Bool.and_eq_true, beq_iff_eq, decide_eq_true_eq, Bool.or_false] at hm
      omega
    obtain ⟨rfl, rfl | rfl⟩ := hk
    · rw [show sIv swM 0 2 = (0, 2) from by decide +kernel]
      show 0 ≤ (zu2 (zu2 I 0 2 (Int32.ofInt 0)) 0 6 x 0 2).toInt ∧ (zu2 (zu2 I 0 2 (Int32.ofInt 0)) 0 6 x 0 2).toInt ≤ 2
      rw [zu2_off (by decide), zu2_at]
      decide
    · rw [show sIv swM 0 6 = (0, 700) from by decide +kernel]
      show 0 ≤ (zu2 (zu2 I 0 2 (Int32.ofInt 0)) 0 6 x 0 6).toInt ∧ (zu2 (zu2 I 0 2 (Int32.ofInt 0)) 0 6 x 0 6).toInt ≤ 700
      rw [zu2_at]
      have b1 : (I 0 1).toInt ≤ 700 := b1
      omega) (fun m hmem k => by rcases (swM_imp m).mp hmem with rfl | rfl | rfl | rfl | rfl <;> exact ⟨rfl, rfl⟩)
  have hm1 : sMd [(0, 2, 3), (0, 6, 7)] (zshM, I, Lg, P) (zshM, zu2 (zu2 I 0 2 (Int32.ofInt 0)) 0 6 x, Lg, P) := fun q k hm => ⟨g q k hm, rfl, rfl⟩
  have e6 : pI (zshM, zu2 (zu2 I 0 2 (Int32.ofInt 0)) 0 6 x, Lg, P) 0 6 = (D.2 : Int) := by
    show (zu2 (zu2 I 0 2 (Int32.ofInt 0)) 0 6 x 0 6).toInt = _
    rw [zu2_at]
    exact hx
  generalize (zshM, zu2 (zu2 I 0 2 (Int32.ofInt 0)) 0 6 x, Lg, P) = h1 at hi1 hm1 e6 ⊢
  refine spq_c (mi := 194) (pc := 25) (fun _ => 0) tx0 (by omega) (sfm ⟨.ref 0, rfl, rfl⟩ (fun _ h => nomatch h)) (sA0_ok _) trivial hi1 rfl ?_
  intro lo2 st2 h2 hp hi2 hm2
  obtain ⟨p1, L2, p3, p4, p5⟩ := hp
  obtain ⟨vr, _, rfl, hr, hne⟩ := p1
  have hr : vr = .ref 0 := hr
  subst hr
  have hne : _ = [] := hne
  subst hne
  have key : ∀ t ∈ [(0, 1, ((0 : Int), (0 : Int))), (0, 4, (0, 0)), (0, 5, (-1, -1)), (0, 7, (0, 0)), (0, 18, (0, 0)), (0, 19, (0, 0)), (0, 20, (0, 0)), (0, 21, (0, 0)), (0, 22, (0, 0)), (0, 23, (0, 0)), (0, 51, (0, 0)), (3, 0, (0, 0)), (3, 1, (0, 0)), (4, 2, (0, 0)), (4, 3, (0, 0)), (19, 3, (0, 0)), (19, 4, (0, 0)), (19, 5, (0, 0))], t.2.2.1 ≤ pI h2 t.1 t.2.1 ∧ pI h2 t.1 t.2.1 ≤ t.2.2.2 := p3.1
  simp only [List.forall_mem_cons] at key
  obtain ⟨k1, k4, k5, k7, k18, k19, k20, k21, k22, k23, k51, k30, k31, k42, k43, k193, k194, k195, -⟩ := key
  have t1 : ∀ j, pI h2 1 j = pI (zshM, I, Lg, P) 1 j := fun j => (pI_md hm2 (smem_q rfl j)).trans (pI_md hm1 (smem_q rfl j))
  have A2 : tA D 0 h2 := ⟨fun j hj => (t1 j).trans (hB j hj), (pI_md hm2 rfl).trans e6, by show pI h2 0 7 = 0; omega, by have b1 : (I 0 1).toInt ≤ 700 := b1; omega, Nat.zero_le _, by show pI h2 0 4 = 0; omega, by show pI h2 0 5 = -1; omega⟩
  refine zcallV (as := []) zv_tx50 rfl (by rw [hi2.1]; rfl) ?_
  refine (ztokR (d := d + 7) hi2 A2).mono ?_
  rintro r h3 ⟨rfl, hi3, T3, hm3⟩
  have R3 : RM N S0 h3 := by
    have w : ∀ {a b : Nat}, smem [(0, 7, 11)] a b = false → pI h3 a b = pI h2 a b := fun z => pI_md hm3 z
    refine ⟨fun j hj => ?_, fun t _ i hlt => absurd hlt (Nat.not_lt_zero _), ⟨(w rfl).trans (by rw [n0]; omega), (w rfl).trans (by rw [n1]; omega)⟩, by rw [w rfl, w rfl]; omega, fun j h3' h6 => ?_, fun j hj h0 => absurd rfl h0⟩
    · have hj' : j = 0 ∨ j = 1 ∨ j = 2 ∨ j = 3 ∨ j = 4 ∨ j = 5 ∨ j = 6 ∨ j = 7 ∨ j = 8 ∨ j = 9 ∨ j = 10 := by omega
      rcases hj' with rfl | rfl | rfl | rfl | rfl | rfl | rfl | rfl | rfl | rfl | rfl
      · exact (w (a := 0) (b := 18) rfl).trans (by show pI h2 0 18 = 0; omega)
      · exact (w (a := 0) (b := 19) rfl).trans (by show pI h2 0 19 = 0; omega)
      · exact (w (a := 0) (b := 20) rfl).trans (by show pI h2 0 20 = 0; omega)
      · exact (w (a := 0) (b := 21) rfl).trans (by show pI h2 0 21 = 0; omega)
      · exact (w (a := 0) (b := 22) rfl).trans (by show pI h2 0 22 = 0; omega)
      · exact (w (a := 3) (b := 0) rfl).trans (by show pI h2 3 0 = 0; omega)
      · exact (w (a := 3) (b := 1) rfl).trans (by show pI h2 3 1 = 0; omega)
      · exact (w (a := 19) (b := 3) rfl).trans (by show pI h2 19 3 = 0; omega)
      · exact (w (a := 19) (b := 4) rfl).trans (by show pI h2 19 4 = 0; omega)
      · exact (w (a := 19) (b := 5) rfl).trans (by show pI h2 19 5 = 0; omega)
      · exact (w (a := 0) (b := 51) rfl).trans (by show pI h2 0 51 = 0; omega)
    · intro e1
      have hj' : j = 3 ∨ j = 4 ∨ j = 5 := by omega
      exfalso
      rw [w (smem1n (by omega))] at e1
      rcases hj' with rfl | rfl | rfl <;> omega
  have z0 : zget lo2 0 = some (.ref 0) := by
    obtain ⟨v, e, hv⟩ := L2 (0, sr0) List.mem_cons_self
    rw [e, show v = .ref 0 from hv]
  refine zX_sub (lo2 := [(0, .ref 0)]) (fun t ht => ?_) ?_
  · have ht := List.mem_singleton.mp ht
    subst ht
    exact zget_mem _ _ _ z0
  obtain ⟨s3, I3, Lg3, P3⟩ := h3
  have es3 : s3 = zshM := hi3.1
  subst es3
  show zX l Γ false (d + 10) zh194 _ 0 0 53 [(0, .ref 0)] [] (zshM, I3, Lg3, P3)
  refine txC (d := d + 9) ?_
  refine zTxtK4 (h0 := (zshM, I3, Lg3, P3)) ?_ 701 N S0 (pF D 0) 0 (zshM, I3, Lg3, P3) (Int32.ofInt 0) (by decide) (Nat.zero_le _) hi3 sMd.rf T3 R3 W (by have := T3.1.2.2.2.1; omega)
  rintro r h' ⟨hi', y, er, hy⟩
  obtain ⟨mf1, mf2, mf3, mf4⟩ := tMf_s
  rcases hy with ⟨c, p, hF, ey, hf, hm'⟩ | ⟨m, N', S', hO, ey, hq', tm', hm'⟩
  · have M : sMd tMf (zshM, I, Lg, P) h' := (((hm1.sub mf2).seq (hm2.sub mf1)).seq (hm3.sub mf3)).seq (hm'.sub mf4)
    refine ⟨hi', ?_, fun j => pI_md M (smem_q (by decide +kernel) j), y, er, Or.inl ⟨c, p, hF, ey, hf, M⟩⟩
    rw [pI_md hm' (by decide +kernel), pI_md hm3 rfl]
    omega
  · have M : sMd tMe (zshM, I, Lg, P) h' := (((hm1.sub ms3).seq (hm2.sub ms2)).seq (hm3.sub ms4)).seq (hm'.sub ms1)
    refine ⟨hi', ?_, fun j => pI_md M (smem_q ms5 j), y, er, Or.inr ⟨m, N', S', hO, ey, hq', tm'⟩⟩
    rw [pI_md hm' (by decide +kernel), pI_md hm3 rfl]
    omega

def cQ4 (N : zN) (S : zS) (h' : zH) : Prop := cQ h' ∧ CS 43 (bgS N S) h' ∧ pI h' 86 4 = 0
def MTx : sM := kgT9_m ++ MBg 0 ++ kgU_m
theorem MTx_s : ssubB kgT9_m MTx = true ∧ ssubB (MBg 0) MTx = true ∧ ssubB kgU_m MTx = true ∧ smem MTx 0 1 = false ∧ (MTx.all fun t => decide (t.1 < 1) || decide (43 ≤ t.1)) = true ∧ (kgU_m.all fun t => decide (t.1 < 43) || decide (49 ≤ t.1)) = true ∧ (MBg 0 ++ kgU_m).all (fun t => decide (t.1 ≠ 0) || decide (7 ≤ t.2.1)) = true ∧ kgT26_m = kgT9_m ∧ ((MBg 0 ++ kgU_m).all fun t => decide (t.1 ≠ 0) || decide (4 ≤ t.2.1)) = true := by decide
theorem zv_kgt : zcvB 28 98 7 1 73 = true := by decide +kernel
theorem zTailC {l : Launch} {Γ : zG} {d t : Nat} (ht : t < 2) {N : zN} {S : zS} {h2 : zH} (hi2 : sInv swC h2) (hRC : RC (17 * t + 9) N S h2) (hP : PB N S) {y : Int32} (hy : 0 ≤ y.toInt ∧ y.toInt ≤ 700) (b8 : 0 ≤ pI h2 3 8 ∧ pI h2 3 8 ≤ 5) (b9 : -1 ≤ pI h2 3 9 ∧ pI h2 3 9 ≤ 700) (p5 : h2.2.2.2 0 5 = some (35 - (17 * t + 9))) (p6 : h2.2.2.2 0 6 = some (17 * t + 9)) {lo : zL} (l0 : zget lo 0 = some (.ref 0)) {Kp : Option Value → zH → Prop}
    (hE : ∀ (h' : zH) (r : Int32), sInv swC h' → sMd MTx h2 h' → r.toInt = y.toInt → pI h' 0 2 = pI h2 3 8 → pI h' 0 3 = pI h2 3 9 → pI h' 43 0 = 0 → pI h' 0 9 = 0 → pI h' 91 6 = 0 → pI h' 91 7 = -1 → CT N S h' → CS 43 (bgS N S) h' → pI h' 86 4 = 0 → Kp (some (.int r)) h') : zX l Γ false (d + 3) (zhd 28) (zMQ' Γ false (zhd 28) Kp) 0 0 36 lo [.int y] h2 := by
  obtain ⟨x1, x2, x3, x4, x5, x6, x7, x8, x9⟩ := MTx_s
  have o0 : ∀ {md : sM} {j : Nat}, md.all (fun t => decide (t.1 ≠ 0) || decide (7 ≤ t.2.1)) = true → j < 7 → smem md 0 j = false := fun {md j} hb hj => by
    cases hc : smem md 0 j with
    | false => rfl
    | true =>
      obtain ⟨u, hu, h1⟩ := List.any_eq_true.mp hc
      have h2 := List.all_eq_true.mp hb u hu
      simp only [Bool.and_eq_true, Bool.or_eq_true, beq_iff_eq, decide_eq_true_eq] at h1 h2
      omega
  have ob : (MBg 0).all (fun t => decide (t.1 ≠ 0) || decide (7 ≤ t.2.1)) = true := by decide
  have ou : kgU_m.all (fun t => decide (t.1 ≠ 0) || decide (7 ≤ t.2.1)) = true := by decide
  have key : ∀ (lo' : zL) (h' : zH), sInv swC h' → sMd kgT9_m h2 h' → h'.2.2.2 0 5 = some (17 * t + 9) → h'.2.2.2 0 6 = some (35 - (17 * t + 9)) → pI h' 0 3 = pI h2 3 9 → pI h' 0 2 = pI h2 3 8 → zget lo' 0 = some (.ref 0) → zI lo' 2 y.toInt → zX l Γ false (d + 2 + 1) (zhd 28) (zMQ' Γ false (zhd 28) Kp) 0 0 98 lo' [.ref (17 * t + 9), .ref 43] h' := fun lo3 h3 i3 m3 r5 r6 k3 k2 g0 g2 => by
    have R3 : RC (17 * t + 9) N S h3 := hRC.gen2 (fun q j a b => pI_md (m3.sub x1) (smem_out x5 (by omega) (by omega)))
    have hd : 17 * t + 9 ∈ dLs := by
      rcases (by omega : t = 0 ∨ t = 1) with rfl | rfl <;> decide
    have C3 : CT N S h3 := ⟨_, hd, r5, r6, R3⟩
    obtain ⟨t', ht', T3⟩ := C3.t
    have et : t' = t := by
      have e := r5.symm.trans T3.1
      injection e with e
      omega
    subst et
    refine zcallR (mi := 28) (as := [.ref (17 * t' + 9)]) (rest := []) (q0 := 43) zv_kgt rfl (by decide) (by rw [i3.1]; rfl) ?_
    refine (zBegC (d := d) (u := 0) ht (by decide) hP.1.2.1 hP.2.2.2.2.2.2 i3 T3).mono (fun v h4 hv => ?_)
    obtain ⟨rfl, i4, m4, K4⟩ := hv
    refine kgU (d := d + 2) (by omega) i4 hy g0 g2 (fun h5 r i5 m5 q9 q86 q97 q96 hr => ?_)
    have K5 : CS 43 (bgS N S) h5 := CS.md K4 m5 (fun q a b j => smem_out x6 a (by omega))
    have M : sMd MTx h2 h5 := ((m3.sub x1).seq (m4.sub x2)).seq (m5.sub x3)
    refine hE h5 r i5 M hr ?_ ?_ K5.2.2.1.1 q9 q96 q97 ⟨_, hd, ?_, ?_, hRC.gen2 (fun q j a b => pI_md M (smem_out x5 (by omega) (by omega)))⟩ K5 q86
    · rw [pI_md m5 (o0 ou (by decide)), pI_md m4 (o0 ob (by decide)), k2]
    · rw [pI_md m5 (o0 ou (by decide)), pI_md m4 (o0 ob (by decide)), k3]
    · rw [(m5 0 5 (o0 ou (by decide))).2.1, (m4 0 5 (o0 ob (by decide))).2.1, r5]
    · rw [(m5 0 6 (o0 ou (by decide))).2.1, (m4 0 6 (o0 ob (by decide))).2.1, r6]
  rcases (by omega : t = 0 ∨ t = 1) with rfl | rfl
  · exact kgT9 (d := d + 2) (by omega) hi2 hy b8 b9 l0 rfl rfl rfl p5 p6 key
  · exact kgT26 (d := d + 2) (by omega) hi2 hy b8 b9 l0 rfl rfl rfl p5 p6 (fun lo' h' i m => key lo' h' i (by rw [← x8]; exact m))

theorem zTxtC4 {l : Launch} {Γ : zG} {d : Nat} {D : zD} {KF : zKF} {KO : Nat → zN → zS → Prop} {h : zH} {N N1 : zN} {S1 : zS} (n0 : N 14 0 = 0) (n1 : N 14 1 = 0) (hC : CT N1 S1 h) (hi : sInv swC h) (hB : rT h D.1) (hR : ∀ j, j < 700 → 0 ≤ D.1 j ∧ D.1 j ≤ 255) {x : Int32} (hx : x.toInt = (D.2 : Int)) (hn : (D.2 : Int) ≤ pI h 0 1) (W : wTxt D 701 N S0 (pF D 0) 0 KF KO) (hK : ∀ m N S, KO m N S → PB N S) : zSem l Γ false (d + 8) (zhd 28) [.ref 0, .int x] h (fun r h' => sInv swC h' ∧ pI h' 0 1 = 0 ∧ (∀ j, pI h' 1 j = pI h 1 j) ∧ ∃ y : Int32, r = some (.int y) ∧ ((∃ c p, KF c p ∧ y.toInt = -1 ∧ pI h' 0 2 = c ∧ pI h' 0 3 = p ∧ sMd teF h h' ∧ CT N1 S1 h') ∨ (∃ m N S, KO m N S ∧ y.toInt = ((m : Nat) : Int) ∧ cQ4 N S h' ∧ CT N S h'))) := by
  have b1 : pI h 0 1 ≤ 700 := by
    have g := hi.2.2.1 0 1
    rw [show sIv swC 0 1 = (0, 700) from by decide +kernel] at g
    exact g.2
  obtain ⟨d0, hd0, hP5, hP6⟩ : ∃ d0, d0 ∈ dLs ∧ h.2.2.2 0 5 = some (35 - d0) ∧ h.2.2.2 0 6 = some d0 := by
    obtain ⟨e0, he, p5, p6, -⟩ := hC
    have e := dLs_b he
    refine ⟨35 - e0, ?_, by rw [p5]; congr 1; omega, p6⟩
    rcases e with rfl | rfl <;> decide
  have P4 : h.2.2.2 0 4 = some 2 := hi.r1 (q := 0) (k := 4) (r := 2) (by decide +kernel)
  have P0 : h.2.2.2 0 0 = some 1 := hi.r1 (q := 0) (k := 0) (r := 1) (by decide +kernel)
  show zSem l Γ false (d + 7 + 1) zh28 _ _ _
  have ha : sTL [sr0, .inl sf32] [.ref 0, .int x] := ⟨_, _, rfl, rfl, _, _, rfl, ⟨_, rfl, i32bd _⟩, rfl⟩
  refine zbody (by decide +kernel) (by rw [sslen_ok _ _ ha]; decide +kernel) ?_
  refine tcA (d := d + 7) (K := 0) (dltn (by rw [hx, show (0 : Int32).toInt = 0 from by decide]; omega)) (dle (by rw [hx]; exact hn)) hi.1 P4 hP6 P0 ?_
  have g : ∀ q k, smem [(0, 1, 2)] q k = false → zu2 h.2.1 0 1 (Int32.ofInt 0) q k = h.2.1 q k := fun q k hm => by
    have hne := smem1f hm
    rw [zu2_off (by omega)]
  have hi1 : sInv swC (h.1, zu2 h.2.1 0 1 (Int32.ofInt 0), h.2.2) := sInv_set hi rfl rfl (md := [(0, 1, 2)]) g (fun q k hm => by
    obtain ⟨rfl, g1, g2⟩ := smem1 hm
    have hk : k = 1 := by omega
    subst hk
    rw [show sIv swC 0 1 = (0, 700) from by decide +kernel]
    show 0 ≤ (zu2 h.2.1 0 1 (Int32.ofInt 0) 0 1).toInt ∧ (zu2 h.2.1 0 1 (Int32.ofInt 0) 0 1).toInt ≤ 700
    rw [zu2_at]
    decide) (fun m hmem k => nomatch hmem)
  have hm1 : sMd [(0, 1, 2)] h (h.1, zu2 h.2.1 0 1 (Int32.ofInt 0), h.2.2) := fun q k hm => ⟨g q k hm, rfl, rfl⟩
  have e01 : pI (h.1, zu2 h.2.1 0 1 (Int32.ofInt 0), h.2.2) 0 1 = 0 := by
    show (zu2 h.2.1 0 1 (Int32.ofInt 0) 0 1).toInt = 0
    rw [zu2_at]
    decide
  generalize (h.1, zu2 h.2.1 0 1 (Int32.ofInt 0), h.2.2) = h1 at hi1 hm1 e01 ⊢
  refine zcallR (mi := 28) (as := [.int x, .ref 1, .ref d0]) (rest := []) (q0 := 2) zv_tc rfl (by decide) (by rw [hi1.1]; rfl) ?_
  refine (zRTx (d := d) hd0 n0 n1 hi1 (fun j hj => (pI_md hm1 (smem1n (by omega))).trans (hB j hj)) hR (by omega) hx W).mono ?_
  rintro r h2 ⟨hi2, hm2, y, rfl, hy⟩
  obtain ⟨r1, r2⟩ := rtM_s hd0
  obtain ⟨t1, t2⟩ := teM_s
  obtain ⟨tf1, tf2, tf3, tf4⟩ := teF_s
  have tfr : ssubB (rtM d0) teF = true := by
    simp only [dLs, List.mem_cons, List.not_mem_nil, or_false] at hd0
    rcases hd0 with rfl | rfl
    · exact tf2
    · exact tf3
  have b8 : 0 ≤ pI h2 3 8 ∧ pI h2 3 8 ≤ 5 := by
    have g := hi2.2.2.1 3 8
    rw [show sIv swC 3 8 = (0, 5) from by decide +kernel] at g
    exact g
  have b9 : -1 ≤ pI h2 3 9 ∧ pI h2 3 9 ≤ 700 := by
    have g := hi2.2.2.1 3 9
    rw [show sIv swC 3 9 = (-1, 700) from by decide +kernel] at g
    exact g
  rcases hy with ⟨c, p, hF, e, f1, f2⟩ | ⟨m, N', S', hO, e, hm700, z8, z9, hRC⟩
  · refine spe_ok (mi := 28) (pc := 36) (fun i => [y.toInt, pI h2 3 8, pI h2 3 9].getD i 0) te_n (tcTd l Γ 7) (by omega) ⟨rfl, trivial⟩ ⟨y, [], rfl, rfl, ⟨by show -1 ≤ y.toInt; omega, by show y.toInt ≤ -1; omega⟩, rfl⟩ (sA0_ok _) ⟨⟨rfl, b8.1, b8.2⟩, ⟨rfl, b9.1, b9.2⟩, trivial⟩ hi2 (fun e he => nomatch he) ?_
    intro e0 he r' h' hp hi' hm'
    have he := List.mem_singleton.mp he
    subst he
    obtain ⟨⟨v, er, x', rfl, x1, x2⟩, -, hE⟩ := hp
    subst er
    have x1 : -1 ≤ x'.toInt := x1
    have x2 : x'.toInt ≤ -1 := x2
    have q2 : pI h' 0 2 = 1 * pI h2 3 8 + 0 + 0 := hE.1 (0, (none, 2), ([(1, 1)], 0)) List.mem_cons_self
    have q3 : pI h' 0 3 = 1 * pI h2 3 9 + 0 + 0 := hE.1 (0, (none, 3), ([(2, 1)], 0)) (List.mem_cons_of_mem _ List.mem_cons_self)
    refine ⟨hi', ?_, fun j => ?_, x', rfl, Or.inl ⟨c, p, hF, by omega, by omega, by omega, ((hm1.sub tf1).seq (hm2.sub tfr)).seq (hm'.sub tf4), hC.flt hP6 hm1 hm2 hm'⟩⟩
    · rw [pI_md hm' rfl, pI_md hm2 r1]
      exact e01
    · rw [pI_md hm' (smem_q rfl j), pI_md hm2 (smem_q r2 j)]
      exact pI_md hm1 (smem1n (by omega))
  · have kr : ∀ j, j = 5 ∨ j = 6 → smem (rtM d0) 0 j = false := fun j hj => by
      rcases dLs_b hd0 with rfl | rfl <;> rcases hj with rfl | rfl <;> decide +kernel
    have q56 : ∀ t ∈ [(0, 5, 35 - d0), (0, 6, d0)], h2.2.2.2 t.1 t.2.1 = some t.2.2 := by
      intro t ht
      simp only [List.mem_cons, List.not_mem_nil, or_false] at ht
      rcases ht with rfl | rfl
      · exact ((hm2 0 5 (kr 5 (by omega))).2.1).trans (((hm1 0 5 (by decide)).2.1).trans hP5)
      · exact ((hm2 0 6 (kr 6 (by omega))).2.1).trans (((hm1 0 6 (by decide)).2.1).trans hP6)
    obtain ⟨t, ht, rfl⟩ : ∃ t, t < 2 ∧ d0 = 17 * t + 9 := by
      rcases dLs_b hd0 with rfl | rfl
      · exact ⟨0, by decide, rfl⟩
      · exact ⟨1, by decide, rfl⟩
    have p5 := q56 (0, 5, 35 - (17 * t + 9)) List.mem_cons_self
    have p6 := q56 (0, 6, 17 * t + 9) (List.mem_cons_of_mem _ List.mem_cons_self)
    obtain ⟨x1, x2, x3, x4, x5, x6, x7, x8, x9⟩ := MTx_s
    refine zTailC (d := d + 5) ht hi2 hRC (hK _ _ _ hO) ⟨by omega, by omega⟩ b8 b9 p5 p6 rfl (fun h' r hi' hm' hr q2 q3 a1 a2 a3 a4 ct cs u0 => ?_)
    refine ⟨hi', ?_, fun j => ?_, r, rfl, Or.inr ⟨m, N', S', hO, by omega, ⟨⟨a1, a2, by omega, by omega, a3, a4⟩, cs, u0⟩, ct⟩⟩
    · rw [pI_md hm' x4, pI_md hm2 r1]
      exact e01
    · rw [pI_md hm' (smem_out x5 (by decide) (by decide)), pI_md hm2 (smem_q r2 j)]
      exact pI_md hm1 (smem1n (by omega))
