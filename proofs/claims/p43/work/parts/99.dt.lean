/-! text on both sides -/
theorem zTxtK {l : Launch} {Γ : zG} {d : Nat} {D : zD} {KF : zKF} {KO : Nat → zN → zS → Prop} {h0 : zH} {K' : Option Value → zH → Prop} (hKK : ∀ r h', zTP KF KO h0 r h' → K' r h') : ∀ (f : Nat) (N : zN) (S : zS) (q m : Nat) (h : zH) (K : Int32), K.toInt = (m : Int) → m ≤ q → sInv swM h → sMd lnMd h0 h → tTk D q h → RM N S h → wTxt D f N S q m KF KO → D.2 - q < f → zX l Γ false (d + 10) zh194 (zMQ' Γ false zh194 K') 0 0 55 [(2, .int K), (0, .ref 0)] [] h
  | 0, N, S, q, m, h, K, hK, hmq, hi, hm, hT, hR, W, hlt => absurd hlt (Nat.not_lt_zero _)
  | f + 1, N, S, q, m, h, K, hK, hmq, hi, hm, hT, hR, W, hlt => by
    have hq := hT.2.1
    have hn := hT.1.2.2.2.1
    have k0 := kF_0 hq
    have fb := tkB_f hT.2.2.2
    have es := hi.1
    obtain ⟨s, I, Lg, P⟩ := h
    have es : s = zshM := es
    subst es
    simp only [wTxt] at W
    by_cases e : kF D q = 0
    · rw [if_pos e] at W
      have e8 : (I 0 8).toInt = 0 := by
        have : pI (zshM, I, Lg, P) 0 8 = 0 := by omega
        exact this
      refine txE (d := d + 9) (deq (by rw [e8]; decide)) ?_
      refine zcallV (mi := 194) (as := []) zv_x1 rfl (by rfl) ?_
      refine (zkeep3 (d := d + 8) (by omega) hi hR.2.2.2.2.1).mono ?_
      rintro r h2 ⟨rfl, hi2, hm2, b1, b2, b76, b77, bx, bl, bk⟩
      have tm := hR.told hi bx bl bk
      have b3 : pI h2 0 4 = 0 := (pI_md hm2 (by decide +kernel)).trans hT.1.2.2.2.2.2.1
      have b4 : pI h2 0 5 = -1 := (pI_md hm2 (by decide +kernel)).trans hT.1.2.2.2.2.2.2
      obtain ⟨s2, I2, Lg2, P2⟩ := h2
      have es2 : s2 = zshM := hi2.1
      subst es2
      exact txH (d := d + 9) (hKK _ _ ⟨hi2, K, rfl, Or.inr ⟨m, N, S, W, hK, ⟨b1, b2, b3, b4, b76, b77⟩, tm, (hm.sub tMd_l).seq (hm2.sub tMd_a)⟩⟩)
    · rw [if_neg e] at W
      have e8 : (I 0 8).toInt ≠ 0 := by
        have : pI (zshM, I, Lg, P) 0 8 ≠ 0 := by omega
        exact this
      refine txD (d := d + 9) (den (by rw [show (0 : Int32).toInt = 0 from by decide]; exact e8)) ?_
      refine zcallV (mi := 194) (as := []) zv_x0 rfl (by rfl) ?_
      refine (zLinR (d := d + 3) hi hT hR (wLin_p hq e W)).mono ?_
      rintro r h2 ⟨hi2, hm2, x, rfl, ⟨c, p, hF, hx, hf⟩ | ⟨N', S', q', W', hx, T', R'⟩⟩
      · obtain ⟨s2, I2, Lg2, P2⟩ := h2
        have es2 : s2 = zshM := hi2.1
        subst es2
        exact txG (d := d + 9) (deq (by rw [hx]; decide)) (hKK _ _ ⟨hi2, _, rfl, Or.inl ⟨c, p, hF, by decide, hf, hm.seq hm2⟩⟩)
      · obtain ⟨hqq, W'⟩ := W'
        obtain ⟨s2, I2, Lg2, P2⟩ := h2
        have es2 : s2 = zshM := hi2.1
        subst es2
        have eK : K + Int32.ofInt 1 = Int32.ofNat (m + 1) := by
          rw [iN (n := m) (by omega) hK]
          exact ofN_add m 1
        have hq' := T'.2.1
        refine txF (d := d + 9) (den (by rw [hx]; decide)) ?_
        rw [eK]
        exact zTxtK hKK f N' S' q' (m + 1) _ _ (oN (by omega)) (by omega) hi2 (hm.seq hm2) T' R' W' (by omega)

theorem tx0 : spqB swM sT0 [(0, 1, 2), (0, 4, 6), (0, 7, 8), (0, 18, 24), (0, 51, 52), (3, 0, 2), (4, 2, 4), (19, 3, 6)] 1000 2 194 [(0, sr0)] sA0 [] [] 25 [(50, [sr0], [(0, sr0)], a1 [(0, 1, (0, 0)), (0, 4, (0, 0)), (0, 5, (-1, -1)), (0, 7, (0, 0)), (0, 18, (0, 0)), (0, 19, (0, 0)), (0, 20, (0, 0)), (0, 21, (0, 0)), (0, 22, (0, 0)), (0, 23, (0, 0)), (0, 51, (0, 0)), (3, 0, (0, 0)), (3, 1, (0, 0)), (4, 2, (0, 0)), (4, 3, (0, 0)), (19, 3, (0, 0)), (19, 4, (0, 0)), (19, 5, (0, 0))], [], [])] [] = true := by decide +kernel
theorem zv_tx50 : zcvB 194 50 12 0 195 = true := by decide +kernel
def tMe : sM := (0, 1, 100) :: (List.range 41).map (fun q => (q + 3, 0, 2000))
/-- what is written where a text has a fault -/
def tMf : sM := [(0, 1, 2), (0, 2, 3), (0, 6, 7)] ++ lnMd
theorem tMe_s : ssubB tMd tMe = true ∧ ssubB [(0, 1, 2), (0, 4, 6), (0, 7, 8), (0, 18, 24), (0, 51, 52), (3, 0, 2), (4, 2, 4), (19, 3, 6)] tMe = true ∧ ssubB [(0, 2, 3), (0, 6, 7)] tMe = true ∧ ssubB [(0, 7, 11)] tMe = true ∧ tMe.all (fun t => !(t.1 == 1)) = true := by decide +kernel
theorem tMf_s : ssubB [(0, 1, 2), (0, 4, 6), (0, 7, 8), (0, 18, 24), (0, 51, 52), (3, 0, 2), (4, 2, 4), (19, 3, 6)] tMf = true ∧ ssubB [(0, 2, 3), (0, 6, 7)] tMf = true ∧ ssubB [(0, 7, 11)] tMf = true ∧ ssubB lnMd tMf = true := by decide +kernel
theorem zTxtR {l : Launch} {Γ : zG} {d : Nat} {D : zD} {KF : zKF} {KO : Nat → zN → zS → Prop} {h : zH} {N : zN} (n0 : N 14 0 = 0) (n1 : N 14 1 = 0) (hi : sInv swM h) (hB : mT h D.1) {x : Int32} (hx : x.toInt = (D.2 : Int)) (hn : (D.2 : Int) ≤ pI h 0 1) (W : wTxt D 701 N S0 (pF D 0) 0 KF KO) : zSem l Γ false (d + 10) (zhd 194) [.ref 0, .int x] h (fun r h' => sInv swM h' ∧ pI h' 0 1 = 0 ∧ (∀ j, pI h' 1 j = pI h 1 j) ∧ ∃ y : Int32, r = some (.int y) ∧ ((∃ c p, KF c p ∧ y.toInt = -1 ∧ fM c p h' ∧ sMd tMf h h') ∨ (∃ m N S, KO m N S ∧ y.toInt = ((m : Nat) : Int) ∧ kQ h' ∧ TM N S h'))) := by
  obtain ⟨ms1, ms2, ms3, ms4, ms5⟩ := tMe_s
  have b1 : pI h 0 1 ≤ 700 := by
    have g := hi.2.2.1 0 1
    rw [show sIv swM 0 1 = (0, 700) from by decide +kernel] at g
    exact g.2
  obtain ⟨s, I, Lg, P⟩ := h
  have es : s = zshM := hi.1
  subst es
  have hn' : (D.2 : Int) ≤ (I 0 1).toInt := hn
  show zSem l Γ false (d + 9 + 1) zh194 _ _ _
  have ha : sTL [sr0, .inl sf32] [.ref 0, .int x] := ⟨_, _, rfl, rfl, _, _, rfl, ⟨_, rfl, i32bd _⟩, rfl⟩
  refine zbody (by decide +kernel) (by rw [sslen_ok _ _ ha]; decide +kernel) ?_
  refine txA (d := d + 9) (dltn (by rw [hx, show (0 : Int32).toInt = 0 from by decide]; omega)) (dle (by rw [zu2_off (by decide), hx]; exact hn')) ?_
  have g : ∀ q k, smem [(0, 2, 3), (0, 6, 7)] q k = false → zu2 (zu2 I 0 2 (Int32.ofInt 0)) 0 6 x q k = I q k := fun q k hm => by
    have hne : ¬ (q = 0 ∧ (k = 2 ∨ k = 6)) := fun e => by
      have : smem [(0, 2, 3), (0, 6, 7)] q k = true := by
        simp only [smem, List.any_cons, List.any_nil, Bool.or_eq_true, Bool.and_eq_true, beq_iff_eq, decide_eq_true_eq, Bool.or_false]
        omega
      rw [this] at hm
      cases hm
    rw [zu2_off (by omega), zu2_off (by omega)]
  have hi1 : sInv swM (zshM, zu2 (zu2 I 0 2 (Int32.ofInt 0)) 0 6 x, Lg, P) := sInv_set hi rfl rfl (md := [(0, 2, 3), (0, 6, 7)]) g (fun q k hm => by
    have hk : q = 0 ∧ (k = 2 ∨ k = 6) := by
      simp only [smem, List.any_cons, List.any_nil, Bool.or_eq_true, Bool.and_eq_true, beq_iff_eq, decide_eq_true_eq, Bool.or_false] at hm
      omega
    obtain ⟨rfl, rfl | rfl⟩ := hk
    · rw [show sIv swM 0 2 = (0, 2) from by decide +kernel]
      show 0 ≤ (zu2 (zu2 I 0 2 (Int32.ofInt 0)) 0 6 x 0 2).toInt ∧ (zu2 (zu2 I 0 2 (Int32.ofInt 0)) 0 6 x 0 2).toInt ≤ 2
      rw [zu2_off (by decide), zu2_at]
      decide
    · rw [show sIv swM 0 6 = (0, 700) from by decide +kernel]
      show 0 ≤ (zu2 (zu2 I 0 2 (Int32.ofInt 0)) 0 6 x 0 6).toInt ∧ (zu2 (zu2 I 0 2 (Int32.ofInt 0)) 0 6 x 0 6).toInt ≤ 700
      rw [zu2_at]
      have b1 : (I 0 1).toInt ≤ 700 := b1
      omega) (fun m hmem k => by rcases (swM_imp m).mp hmem with rfl | rfl | rfl | rfl | rfl <;> exact ⟨rfl, rfl⟩)
  have hm1 : sMd [(0, 2, 3), (0, 6, 7)] (zshM, I, Lg, P) (zshM, zu2 (zu2 I 0 2 (Int32.ofInt 0)) 0 6 x, Lg, P) := fun q k hm => ⟨g q k hm, rfl, rfl⟩
  have e6 : pI (zshM, zu2 (zu2 I 0 2 (Int32.ofInt 0)) 0 6 x, Lg, P) 0 6 = (D.2 : Int) := by
    show (zu2 (zu2 I 0 2 (Int32.ofInt 0)) 0 6 x 0 6).toInt = _
    rw [zu2_at]
    exact hx
  generalize (zshM, zu2 (zu2 I 0 2 (Int32.ofInt 0)) 0 6 x, Lg, P) = h1 at hi1 hm1 e6 ⊢
  refine spq_c (mi := 194) (pc := 25) (fun _ => 0) tx0 (by omega) (sfm ⟨.ref 0, rfl, rfl⟩ (fun _ h => nomatch h)) (sA0_ok _) trivial hi1 rfl ?_
  intro lo2 st2 h2 hp hi2 hm2
  obtain ⟨p1, L2, p3, p4, p5⟩ := hp
  obtain ⟨vr, _, rfl, hr, hne⟩ := p1
  have hr : vr = .ref 0 := hr
  subst hr
  have hne : _ = [] := hne
  subst hne
  have key : ∀ t ∈ [(0, 1, ((0 : Int), (0 : Int))), (0, 4, (0, 0)), (0, 5, (-1, -1)), (0, 7, (0, 0)), (0, 18, (0, 0)), (0, 19, (0, 0)), (0, 20, (0, 0)), (0, 21, (0, 0)), (0, 22, (0, 0)), (0, 23, (0, 0)), (0, 51, (0, 0)), (3, 0, (0, 0)), (3, 1, (0, 0)), (4, 2, (0, 0)), (4, 3, (0, 0)), (19, 3, (0, 0)), (19, 4, (0, 0)), (19, 5, (0, 0))], t.2.2.1 ≤ pI h2 t.1 t.2.1 ∧ pI h2 t.1 t.2.1 ≤ t.2.2.2 := p3.1
  simp only [List.forall_mem_cons] at key
  obtain ⟨k1, k4, k5, k7, k18, k19, k20, k21, k22, k23, k51, k30, k31, k42, k43, k193, k194, k195, -⟩ := key
  have t1 : ∀ j, pI h2 1 j = pI (zshM, I, Lg, P) 1 j := fun j => (pI_md hm2 (smem_q rfl j)).trans (pI_md hm1 (smem_q rfl j))
  have A2 : tA D 0 h2 := ⟨fun j hj => (t1 j).trans (hB j hj), (pI_md hm2 rfl).trans e6, by show pI h2 0 7 = 0; omega, by have b1 : (I 0 1).toInt ≤ 700 := b1; omega, Nat.zero_le _, by show pI h2 0 4 = 0; omega, by show pI h2 0 5 = -1; omega⟩
  refine zcallV (as := []) zv_tx50 rfl (by rw [hi2.1]; rfl) ?_
  refine (ztokR (d := d + 7) hi2 A2).mono ?_
  rintro r h3 ⟨rfl, hi3, T3, hm3⟩
  have R3 : RM N S0 h3 := by
    have w : ∀ {a b : Nat}, smem [(0, 7, 11)] a b = false → pI h3 a b = pI h2 a b := fun z => pI_md hm3 z
    refine ⟨fun j hj => ?_, fun t _ i hlt => absurd hlt (Nat.not_lt_zero _), ⟨(w rfl).trans (by rw [n0]; omega), (w rfl).trans (by rw [n1]; omega)⟩, by rw [w rfl, w rfl]; omega, fun j h3' h6 => ?_, fun j hj h0 => absurd rfl h0⟩
    · have hj' : j = 0 ∨ j = 1 ∨ j = 2 ∨ j = 3 ∨ j = 4 ∨ j = 5 ∨ j = 6 ∨ j = 7 ∨ j = 8 ∨ j = 9 ∨ j = 10 := by omega
      rcases hj' with rfl | rfl | rfl | rfl | rfl | rfl | rfl | rfl | rfl | rfl | rfl
      · exact (w (a := 0) (b := 18) rfl).trans (by show pI h2 0 18 = 0; omega)
      · exact (w (a := 0) (b := 19) rfl).trans (by show pI h2 0 19 = 0; omega)
      · exact (w (a := 0) (b := 20) rfl).trans (by show pI h2 0 20 = 0; omega)
      · exact (w (a := 0) (b := 21) rfl).trans (by show pI h2 0 21 = 0; omega)
      · exact (w (a := 0) (b := 22) rfl).trans (by show pI h2 0 22 = 0; omega)
      · exact (w (a := 3) (b := 0) rfl).trans (by show pI h2 3 0 = 0; omega)
      · exact (w (a := 3) (b := 1) rfl).trans (by show pI h2 3 1 = 0; omega)
      · exact (w (a := 19) (b := 3) rfl).trans (by show pI h2 19 3 = 0; omega)
      · exact (w (a := 19) (b := 4) rfl).trans (by show pI h2 19 4 = 0; omega)
      · exact (w (a := 19) (b := 5) rfl).trans (by show pI h2 19 5 = 0; omega)
      · exact (w (a := 0) (b := 51) rfl).trans (by show pI h2 0 51 = 0; omega)
    · intro e1
      have hj' : j = 3 ∨ j = 4 ∨ j = 5 := by omega
      exfalso
      rw [w (smem1n (by omega))] at e1
      rcases hj' with rfl | rfl | rfl <;> omega
  have z0 : zget lo2 0 = some (.ref 0) := by
    obtain ⟨v, e, hv⟩ := L2 (0, sr0) List.mem_cons_self
    rw [e, show v = .ref 0 from hv]
  refine zX_sub (lo2 := [(0, .ref 0)]) (fun t ht => ?_) ?_
  · have ht := List.mem_singleton.mp ht
    subst ht
    exact zget_mem _ _ _ z0
  obtain ⟨s3, I3, Lg3, P3⟩ := h3
  have es3 : s3 = zshM := hi3.1
  subst es3
  show zX l Γ false (d + 10) zh194 _ 0 0 53 [(0, .ref 0)] [] (zshM, I3, Lg3, P3)
  refine txC (d := d + 9) ?_
  refine zTxtK (h0 := (zshM, I3, Lg3, P3)) ?_ 701 N S0 (pF D 0) 0 (zshM, I3, Lg3, P3) (Int32.ofInt 0) (by decide) (Nat.zero_le _) hi3 sMd.rf T3 R3 W (by have := T3.1.2.2.2.1; omega)
  rintro r h' ⟨hi', y, er, hy⟩
  obtain ⟨mf1, mf2, mf3, mf4⟩ := tMf_s
  rcases hy with ⟨c, p, hF, ey, hf, hm'⟩ | ⟨m, N', S', hO, ey, hq', tm', hm'⟩
  · have M : sMd tMf (zshM, I, Lg, P) h' := (((hm1.sub mf2).seq (hm2.sub mf1)).seq (hm3.sub mf3)).seq (hm'.sub mf4)
    refine ⟨hi', ?_, fun j => pI_md M (smem_q (by decide +kernel) j), y, er, Or.inl ⟨c, p, hF, ey, hf, M⟩⟩
    rw [pI_md hm' (by decide +kernel), pI_md hm3 rfl]
    omega
  · have M : sMd tMe (zshM, I, Lg, P) h' := (((hm1.sub ms3).seq (hm2.sub ms2)).seq (hm3.sub ms4)).seq (hm'.sub ms1)
    refine ⟨hi', ?_, fun j => pI_md M (smem_q ms5 j), y, er, Or.inr ⟨m, N', S', hO, ey, hq', tm'⟩⟩
    rw [pI_md hm' (by decide +kernel), pI_md hm3 rfl]
    omega
set_option maxRecDepth 100000 in
set_option maxHeartbeats 4000000 in
theorem tcA {l : Launch} {Γ : zG} {d d0 : Nat} {Kp : Option Value → zH → Prop} {h : zH} {K n : Int32} (c1 : ¬ n < 0) (c2 : n ≤ h.2.1 0 1) (hs : h.1 = zshC) (hr0 : h.2.2.2 0 4 = some 2) (hr1 : h.2.2.2 0 6 = some d0) (hr2 : h.2.2.2 0 0 = some 1) (hX : zX l Γ false (d + 1) zh28 (zMQ' Γ false zh28 Kp) 0 0 33 [(0, .ref 0), (1, .int n)] [.int n, .ref 1, .ref d0, .ref 2] (h.1, zu2 h.2.1 0 1 (Int32.ofInt 0), h.2.2)) : zX l Γ false (d + 1) zh28 (zMQ' Γ false zh28 Kp) 0 0 0 [(0, .ref 0), (1, .int n)] [] h := by
  obtain ⟨s, I, Lg, P⟩ := h
  have hs : s = zshC := hs
  subst hs
  have c2 : n ≤ I 0 1 := c2
  have hX : zX l Γ false (d + 1) zh28 (zMQ' Γ false zh28 Kp) 0 0 33 [(0, .ref 0), (1, .int n)] [.int n, .ref 1, .ref d0, .ref 2] (zshC, zu2 I 0 1 (Int32.ofInt 0), Lg, P) := hX
  have eP := sP_c3 (P := P) hr0 hr1 hr2
  rw [eP] at hX ⊢
  refine zpcF (M := (zh28, zc28)) 28 33 rfl zckm28 (fun _ _ _ _ h => h) ?_
  refine zdecF c1 (fun _ => ?_)
  refine zdecT c2 (fun _ => ?_)
  exact hX
def teM : sM := (0, 2, 4) :: (0, 5, 7) :: (0, 9, 10) :: (List.range 60).map (fun q => (q + 43, 0, 2000))
/-- contracts, without those of readText and begin -/
def tcT (mi : Nat) : List sCt := if mi = 29 ∨ mi = 73 ∨ mi = 74 then [] else sTC mi
theorem tcTd (l : Launch) (Γ : zG) (dep : Nat) : ∀ mi, ∀ c ∈ tcT mi, c.2.2.2.2.2 ≤ dep → sCon l Γ swC mi c := fun mi c hc _ => by
  unfold tcT at hc
  split at hc
  · cases hc
  · exact sTC_ok l Γ mi c hc
/-- the class, behind a text that is read: a fault, lines -/
def teP : List sP0 := [(3, (none, 8), (0, 5)), (3, (none, 9), (-1, 700))]
def teR (a : Int × Int) (A : sAs) : sRv := (some (.inl a), A, ([(0, (none, 2), ([(1, 1)], 0)), (0, (none, 3), ([(2, 1)], 0))], [(0, ([(0, 1)], 0))], [], []))
theorem te_n : speB swC tcT [(0, 2, 4)] 1000 7 28 [(0, .inr (.inl 0))] [.inl (-1, -1)] sA0 teP 36 [] [teR (-1, -1) sA0] = true := by decide +kernel
def teQ (d0 : Nat) : sAs := ([], [(0, 5, 35 - d0), (0, 6, d0)], [], [])
def teS (d0 : Nat) : sAs := ([(43, 0, (0, 0)), (0, 9, (0, 0)), (91, 6, (0, 0)), (91, 7, (-1, -1))], [(0, 5, d0), (0, 6, 35 - d0)], [], [])
theorem te_p : dLs.all (fun d0 => speB swC tcT teM 4000 7 28 [(0, .inr (.inl 0))] [.inl (0, 700)] (teQ d0) teP 36 [] [teR (0, 700) (teS d0)]) = true := by decide +kernel
/-- what is told, in the class's heap: it lies at d0, the draft at the other place -/
def CT (N : zN) (S : zS) (h : zH) : Prop := ∃ d0, d0 ∈ dLs ∧ h.2.2.2 0 5 = some d0 ∧ h.2.2.2 0 6 = some (35 - d0) ∧ RC d0 N S h
theorem RC.gen2 {d0 : Nat} {N : zN} {S : zS} {h h' : zH} (hR : RC d0 N S h) (k : ∀ q j, d0 ≤ q → q < d0 + 15 → pI h' q j = pI h q j) : RC d0 N S h' := by
  obtain ⟨r1, r2, r3, r4, r5, r6⟩ := hR
  refine ⟨fun j hj => ?_, (k _ _ (by omega) (by omega)).trans r2, fun j hj => ?_, fun a c i h1 h2 h3 => (k _ _ (by omega) (by omega)).trans (r4 a c i h1 h2 h3), fun j hj => (k _ _ (by omega) (by omega)).trans (r5 j hj), r6.kept (fun q j hq => k q j (by omega) (by omega)) (fun _ _ _ => rfl) (fun _ _ => rfl)⟩
  · rw [k _ _ (by unfold rcA; split <;> simp only <;> omega) (by unfold rcA; split <;> simp only <;> omega)]
    exact r1 j hj
  · rw [k _ _ (by omega) (by omega)]
    exact r3 j hj
/-- these cells are not among what is told (the laws' names and stack are no part of it), nor which of the two it is -/
def ctB (md : sM) : Bool := md.all (fun t => decide (43 ≤ t.1) || decide (1 ≤ t.1 ∧ t.1 < 9) || decide (t.1 = 24 ∨ t.1 = 25 ∨ t.1 = 41 ∨ t.1 = 42) || (t.1 == 0 && (decide (7 ≤ t.2.1) || decide (t.2.2 ≤ 5))))
theorem ctB_k {md : sM} (hb : ctB md = true) {q j : Nat} (hq : (9 ≤ q ∧ q < 43 ∧ q ≠ 24 ∧ q ≠ 25 ∧ q ≠ 41 ∧ q ≠ 42) ∨ (q = 0 ∧ (j = 5 ∨ j = 6))) : smem md q j = false := by
  cases hc : smem md q j with
  | false => rfl
  | true =>
    obtain ⟨t, ht, h1⟩ := List.any_eq_true.mp hc
    have h2 := List.all_eq_true.mp hb t ht
    simp only [Bool.and_eq_true, Bool.or_eq_true, beq_iff_eq, decide_eq_true_eq] at h1 h2
    omega
theorem dLs_b {d0 : Nat} (hd : d0 ∈ dLs) : d0 = 9 ∨ d0 = 26 := by
  simp only [dLs, List.mem_cons, List.not_mem_nil, or_false] at hd
  exact hd
theorem CT.md {N : zN} {S : zS} {h h' : zH} {md : sM} (hC : CT N S h) (hm : sMd md h h') (hb : ctB md = true) : CT N S h' := by
  obtain ⟨d0, hd, p5, p6, hR⟩ := hC
  have e := dLs_b hd
  exact ⟨d0, hd, (hm 0 5 (ctB_k hb (by omega))).2.1.trans p5, (hm 0 6 (ctB_k hb (by omega))).2.1.trans p6, hR.gen2 (fun q j h1 h2 => pI_md hm (ctB_k hb (by omega)))⟩
theorem zv_tc : zcvB 28 33 1 3 29 = true := by decide +kernel
theorem teM_s : smem teM 0 1 = false ∧ teM.all (fun t => !(t.1 == 1)) = true := by decide +kernel
theorem rtM_s {d0 : Nat} (hd : d0 ∈ dLs) : smem (rtM d0) 0 1 = false ∧ (rtM d0).all (fun t => !(t.1 == 1)) = true := by
  simp only [dLs, List.mem_cons, List.not_mem_nil, or_false] at hd
  rcases hd with rfl | rfl <;> decide +kernel
/-- what a text leaves in the class: where it is taken -/
def cQ (h' : zH) : Prop := pI h' 43 0 = 0 ∧ pI h' 0 9 = 0 ∧ pI h' 0 2 = 0 ∧ pI h' 0 3 = -1 ∧ pI h' 91 6 = 0 ∧ pI h' 91 7 = -1
theorem teM_c : teM.all (fun t => decide (t.1 = 0) || decide (43 ≤ t.1)) = true := by decide +kernel
/-- a text with a fault leaves what was told: it read into the draft -/
theorem CT.flt {N : zN} {S : zS} {h h1 h2 h' : zH} {d0 : Nat} (hC : CT N S h) (hd : h.2.2.2 0 6 = some d0) (m1 : sMd [(0, 1, 2)] h h1) (m2 : sMd (rtM d0) h1 h2) (m3 : sMd [(0, 2, 4)] h2 h') : CT N S h' := by
  obtain ⟨e0, he, p5, p6, hR⟩ := hC
  have ed : d0 = 35 - e0 := by
    rw [p6] at hd
    cases hd
    rfl
  have e := dLs_b he
  have k : ∀ q j, (e0 ≤ q ∧ q < e0 + 17) ∨ (q = 0 ∧ (j = 5 ∨ j = 6)) → smem (rtM d0) q j = false := fun q j hq => by
    cases hc : smem (rtM d0) q j with
    | false => rfl
    | true =>
      obtain ⟨t, ht, h1⟩ := List.any_eq_true.mp hc
      simp only [Bool.and_eq_true, beq_iff_eq, decide_eq_true_eq] at h1
      simp only [rtM, cMdL, List.mem_cons, List.mem_append, List.mem_map, List.mem_range, List.not_mem_nil, or_false] at ht
      rcases ht with rfl | (rfl | rfl | rfl | rfl | rfl) | ⟨i, hi, rfl⟩ <;> simp only at h1 <;> omega
  have z1 : ∀ q j, (e0 ≤ q ∧ q < e0 + 17) ∨ (q = 0 ∧ (j = 5 ∨ j = 6)) → smem [(0, 1, 2)] q j = false ∧ smem [(0, 2, 4)] q j = false := fun q j hq => ⟨smem1n (by omega), smem1n (by omega)⟩
  refine ⟨e0, he, ?_, ?_, hR.gen2 (fun q j a b => ?_)⟩
  · exact ((m3 0 5 (z1 0 5 (by omega)).2).2.1).trans (((m2 0 5 (k 0 5 (by omega))).2.1).trans (((m1 0 5 (z1 0 5 (by omega)).1).2.1).trans p5))
  · exact ((m3 0 6 (z1 0 6 (by omega)).2).2.1).trans (((m2 0 6 (k 0 6 (by omega))).2.1).trans (((m1 0 6 (z1 0 6 (by omega)).1).2.1).trans p6))
  · rw [pI_md m3 (z1 q j (by omega)).2, pI_md m2 (k q j (by omega)), pI_md m1 (z1 q j (by omega)).1]
/-- what is written where a text has a fault -/
def teF : sM := [(0, 1, 2), (0, 2, 4)] ++ (List.range 42).map (fun q => (q + 1, 0, 2000))
theorem teF_s : ssubB [(0, 1, 2)] teF = true ∧ ssubB (rtM 9) teF = true ∧ ssubB (rtM 26) teF = true ∧ ssubB [(0, 2, 4)] teF = true := by decide +kernel
theorem zTxtC {l : Launch} {Γ : zG} {d : Nat} {D : zD} {KF : zKF} {KO : Nat → zN → zS → Prop} {h : zH} {N N1 : zN} {S1 : zS} (n0 : N 14 0 = 0) (n1 : N 14 1 = 0) (hC : CT N1 S1 h) (hi : sInv swC h) (hB : rT h D.1) (hR : ∀ j, j < 700 → 0 ≤ D.1 j ∧ D.1 j ≤ 255) {x : Int32} (hx : x.toInt = (D.2 : Int)) (hn : (D.2 : Int) ≤ pI h 0 1) (W : wTxt D 701 N S0 (pF D 0) 0 KF KO) : zSem l Γ false (d + 8) (zhd 28) [.ref 0, .int x] h (fun r h' => sInv swC h' ∧ pI h' 0 1 = 0 ∧ (∀ j, pI h' 1 j = pI h 1 j) ∧ ∃ y : Int32, r = some (.int y) ∧ ((∃ c p, KF c p ∧ y.toInt = -1 ∧ pI h' 0 2 = c ∧ pI h' 0 3 = p ∧ sMd teF h h' ∧ CT N1 S1 h') ∨ (∃ m N S, KO m N S ∧ y.toInt = ((m : Nat) : Int) ∧ cQ h' ∧ CT N S h'))) := by
  have b1 : pI h 0 1 ≤ 700 := by
    have g := hi.2.2.1 0 1
    rw [show sIv swC 0 1 = (0, 700) from by decide +kernel] at g
    exact g.2
  obtain ⟨d0, hd0, hP5, hP6⟩ : ∃ d0, d0 ∈ dLs ∧ h.2.2.2 0 5 = some (35 - d0) ∧ h.2.2.2 0 6 = some d0 := by
    obtain ⟨e0, he, p5, p6, -⟩ := hC
    have e := dLs_b he
    refine ⟨35 - e0, ?_, by rw [p5]; congr 1; omega, p6⟩
    rcases e with rfl | rfl <;> decide
  have P4 : h.2.2.2 0 4 = some 2 := hi.r1 (q := 0) (k := 4) (r := 2) (by decide +kernel)
  have P0 : h.2.2.2 0 0 = some 1 := hi.r1 (q := 0) (k := 0) (r := 1) (by decide +kernel)
  show zSem l Γ false (d + 7 + 1) zh28 _ _ _
  have ha : sTL [sr0, .inl sf32] [.ref 0, .int x] := ⟨_, _, rfl, rfl, _, _, rfl, ⟨_, rfl, i32bd _⟩, rfl⟩
  refine zbody (by decide +kernel) (by rw [sslen_ok _ _ ha]; decide +kernel) ?_
  refine tcA (d := d + 7) (K := 0) (dltn (by rw [hx, show (0 : Int32).toInt = 0 from by decide]; omega)) (dle (by rw [hx]; exact hn)) hi.1 P4 hP6 P0 ?_
  have g : ∀ q k, smem [(0, 1, 2)] q k = false → zu2 h.2.1 0 1 (Int32.ofInt 0) q k = h.2.1 q k := fun q k hm => by
    have hne := smem1f hm
    rw [zu2_off (by omega)]
  have hi1 : sInv swC (h.1, zu2 h.2.1 0 1 (Int32.ofInt 0), h.2.2) := sInv_set hi rfl rfl (md := [(0, 1, 2)]) g (fun q k hm => by
    obtain ⟨rfl, g1, g2⟩ := smem1 hm
    have hk : k = 1 := by omega
    subst hk
    rw [show sIv swC 0 1 = (0, 700) from by decide +kernel]
    show 0 ≤ (zu2 h.2.1 0 1 (Int32.ofInt 0) 0 1).toInt ∧ (zu2 h.2.1 0 1 (Int32.ofInt 0) 0 1).toInt ≤ 700
    rw [zu2_at]
    decide) (fun m hmem k => nomatch hmem)
  have hm1 : sMd [(0, 1, 2)] h (h.1, zu2 h.2.1 0 1 (Int32.ofInt 0), h.2.2) := fun q k hm => ⟨g q k hm, rfl, rfl⟩
  have e01 : pI (h.1, zu2 h.2.1 0 1 (Int32.ofInt 0), h.2.2) 0 1 = 0 := by
    show (zu2 h.2.1 0 1 (Int32.ofInt 0) 0 1).toInt = 0
    rw [zu2_at]
    decide
  generalize (h.1, zu2 h.2.1 0 1 (Int32.ofInt 0), h.2.2) = h1 at hi1 hm1 e01 ⊢
  refine zcallR (mi := 28) (as := [.int x, .ref 1, .ref d0]) (rest := []) (q0 := 2) zv_tc rfl (by decide) (by rw [hi1.1]; rfl) ?_
  refine (zRTx (d := d) hd0 n0 n1 hi1 (fun j hj => (pI_md hm1 (smem1n (by omega))).trans (hB j hj)) hR (by omega) hx W).mono ?_
  rintro r h2 ⟨hi2, hm2, y, rfl, hy⟩
  obtain ⟨r1, r2⟩ := rtM_s hd0
  obtain ⟨t1, t2⟩ := teM_s
  obtain ⟨tf1, tf2, tf3, tf4⟩ := teF_s
  have tfr : ssubB (rtM d0) teF = true := by
    simp only [dLs, List.mem_cons, List.not_mem_nil, or_false] at hd0
    rcases hd0 with rfl | rfl
    · exact tf2
    · exact tf3
  have b8 : 0 ≤ pI h2 3 8 ∧ pI h2 3 8 ≤ 5 := by
    have g := hi2.2.2.1 3 8
    rw [show sIv swC 3 8 = (0, 5) from by decide +kernel] at g
    exact g
  have b9 : -1 ≤ pI h2 3 9 ∧ pI h2 3 9 ≤ 700 := by
    have g := hi2.2.2.1 3 9
    rw [show sIv swC 3 9 = (-1, 700) from by decide +kernel] at g
    exact g
  rcases hy with ⟨c, p, hF, e, f1, f2⟩ | ⟨m, N', S', hO, e, hm700, z8, z9, hRC⟩
  · refine spe_ok (mi := 28) (pc := 36) (fun i => [y.toInt, pI h2 3 8, pI h2 3 9].getD i 0) te_n (tcTd l Γ 7) (by omega) ⟨rfl, trivial⟩ ⟨y, [], rfl, rfl, ⟨by show -1 ≤ y.toInt; omega, by show y.toInt ≤ -1; omega⟩, rfl⟩ (sA0_ok _) ⟨⟨rfl, b8.1, b8.2⟩, ⟨rfl, b9.1, b9.2⟩, trivial⟩ hi2 (fun e he => nomatch he) ?_
    intro e0 he r' h' hp hi' hm'
    have he := List.mem_singleton.mp he
    subst he
    obtain ⟨⟨v, er, x', rfl, x1, x2⟩, -, hE⟩ := hp
    subst er
    have x1 : -1 ≤ x'.toInt := x1
    have x2 : x'.toInt ≤ -1 := x2
    have q2 : pI h' 0 2 = 1 * pI h2 3 8 + 0 + 0 := hE.1 (0, (none, 2), ([(1, 1)], 0)) List.mem_cons_self
    have q3 : pI h' 0 3 = 1 * pI h2 3 9 + 0 + 0 := hE.1 (0, (none, 3), ([(2, 1)], 0)) (List.mem_cons_of_mem _ List.mem_cons_self)
    refine ⟨hi', ?_, fun j => ?_, x', rfl, Or.inl ⟨c, p, hF, by omega, by omega, by omega, ((hm1.sub tf1).seq (hm2.sub tfr)).seq (hm'.sub tf4), hC.flt hP6 hm1 hm2 hm'⟩⟩
    · rw [pI_md hm' rfl, pI_md hm2 r1]
      exact e01
    · rw [pI_md hm' (smem_q rfl j), pI_md hm2 (smem_q r2 j)]
      exact pI_md hm1 (smem1n (by omega))
  · have kr : ∀ j, j = 5 ∨ j = 6 → smem (rtM d0) 0 j = false := fun j hj => by
      rcases dLs_b hd0 with rfl | rfl <;> rcases hj with rfl | rfl <;> decide +kernel
    have q56 : ∀ t ∈ [(0, 5, 35 - d0), (0, 6, d0)], h2.2.2.2 t.1 t.2.1 = some t.2.2 := by
      intro t ht
      simp only [List.mem_cons, List.not_mem_nil, or_false] at ht
      rcases ht with rfl | rfl
      · exact ((hm2 0 5 (kr 5 (by omega))).2.1).trans (((hm1 0 5 (by decide)).2.1).trans hP5)
      · exact ((hm2 0 6 (kr 6 (by omega))).2.1).trans (((hm1 0 6 (by decide)).2.1).trans hP6)
    refine spe_ok (mi := 28) (pc := 36) (fun i => [y.toInt, pI h2 3 8, pI h2 3 9].getD i 0) (List.all_eq_true.mp te_p d0 hd0) (tcTd l Γ 7) (by omega) ⟨rfl, trivial⟩ ⟨y, [], rfl, rfl, ⟨by show 0 ≤ y.toInt; omega, by show y.toInt ≤ 700; omega⟩, rfl⟩ ⟨(fun _ h => nomatch h), q56, (fun _ h => nomatch h), Or.inl rfl⟩ ⟨⟨rfl, b8.1, b8.2⟩, ⟨rfl, b9.1, b9.2⟩, trivial⟩ hi2 (fun e he => nomatch he) ?_
    intro e0 he r' h' hp hi' hm'
    have he := List.mem_singleton.mp he
    subst he
    obtain ⟨⟨v, er, x', rfl, x1, x2⟩, hA', hE⟩ := hp
    subst er
    have q2 : pI h' 0 2 = 1 * pI h2 3 8 + 0 + 0 := hE.1 (0, (none, 2), ([(1, 1)], 0)) List.mem_cons_self
    have q3 : pI h' 0 3 = 1 * pI h2 3 9 + 0 + 0 := hE.1 (0, (none, 3), ([(2, 1)], 0)) (List.mem_cons_of_mem _ List.mem_cons_self)
    obtain ⟨v0, e0, e1⟩ := hE.2.1 (0, ([(0, 1)], 0)) List.mem_cons_self
    cases e0
    have e1 : x'.toInt = 1 * y.toInt + 0 + 0 := e1
    have a1 : 0 ≤ pI h' 43 0 ∧ pI h' 43 0 ≤ 0 := hA'.1 (43, 0, (0, 0)) List.mem_cons_self
    have a2 : 0 ≤ pI h' 0 9 ∧ pI h' 0 9 ≤ 0 := hA'.1 (0, 9, (0, 0)) (List.mem_cons_of_mem _ List.mem_cons_self)
    have a3 : 0 ≤ pI h' 91 6 ∧ pI h' 91 6 ≤ 0 := hA'.1 (91, 6, (0, 0)) (List.mem_cons_of_mem _ (List.mem_cons_of_mem _ List.mem_cons_self))
    have a4 : -1 ≤ pI h' 91 7 ∧ pI h' 91 7 ≤ -1 := hA'.1 (91, 7, (-1, -1)) (List.mem_cons_of_mem _ (List.mem_cons_of_mem _ (List.mem_cons_of_mem _ List.mem_cons_self)))
    have r5 : h'.2.2.2 0 5 = some d0 := hA'.2.1 (0, 5, d0) List.mem_cons_self
    have r6 : h'.2.2.2 0 6 = some (35 - d0) := hA'.2.1 (0, 6, 35 - d0) (List.mem_cons_of_mem _ List.mem_cons_self)
    have ct : CT N' S' h' := ⟨d0, hd0, r5, r6, hRC.gen2 (fun q j g1 g2 => pI_md hm' (by
      cases hc : smem teM q j with
      | false => rfl
      | true =>
        obtain ⟨u, hu, h1⟩ := List.any_eq_true.mp hc
        have h2 := List.all_eq_true.mp teM_c u hu
        simp only [Bool.and_eq_true, Bool.or_eq_true, beq_iff_eq, decide_eq_true_eq] at h1 h2
        have e := dLs_b hd0
        omega))⟩
    refine ⟨hi', ?_, fun j => ?_, x', rfl, Or.inr ⟨m, N', S', hO, by omega, ⟨by omega, by omega, by omega, by omega, by omega, by omega⟩, ct⟩⟩
    · rw [pI_md hm' t1, pI_md hm2 r1]
      exact e01
    · rw [pI_md hm' (smem_q t2 j), pI_md hm2 (smem_q r2 j)]
      exact pI_md hm1 (smem1n (by omega))
/-- as told to each side: fault, place, minute, image, its minute, how many were SEEN, KNOWN by -/
abbrev zA4 : Type := Int × Int × Int × Int × Int × Int × Int
def zC4 (a : zA4) (f : zH) : Prop := pI f 0 2 = a.1 ∧ pI f 0 3 = a.2.1 ∧ pI f 43 0 = a.2.2.1 ∧ pI f 0 9 = a.2.2.2.1 ∧ (a.2.2.2.1 = 1 → pI f 49 0 = a.2.2.2.2.1) ∧ pI f 91 6 = a.2.2.2.2.2.1 ∧ pI f 91 7 = a.2.2.2.2.2.2
def zM4 (a : zA4) (f : zH) : Prop := pI f 0 4 = a.1 ∧ pI f 0 5 = a.2.1 ∧ pI f 36 0 = a.2.2.1 ∧ pI f 0 82 = a.2.2.2.1 ∧ (a.2.2.2.1 = 1 → pI f 43 19 = a.2.2.2.2.1) ∧ pI f 0 76 = a.2.2.2.2.2.1 ∧ pI f 0 77 = a.2.2.2.2.2.2
def zB4 (a : zA4) : Prop := 0 ≤ a.2.2.1 ∧ a.2.2.1 ≤ 9000 ∧ (a.2.2.2.1 = 0 ∨ a.2.2.2.1 = 1) ∧ (a.2.2.2.1 = 1 → 0 ≤ a.2.2.2.2.1 ∧ a.2.2.2.2.1 ≤ 9000) ∧ (0 ≤ a.2.2.2.2.2.1 ∧ a.2.2.2.2.2.1 ≤ 24 ∧ -1 ≤ a.2.2.2.2.2.2 ∧ a.2.2.2.2.2.2 ≤ 24)
def zC4B (md : sM) : Bool := !smem md 0 2 && (!smem md 0 3 && (!smem md 43 0 && (!smem md 0 9 && (!smem md 49 0 && (!smem md 91 6 && !smem md 91 7)))))
def zM4B (md : sM) : Bool := !smem md 0 4 && (!smem md 0 5 && (!smem md 36 0 && (!smem md 0 82 && (!smem md 43 19 && (!smem md 0 76 && !smem md 0 77)))))
theorem zC4.md {a : zA4} {f f' : zH} {md : sM} (h : zC4 a f) (hm : sMd md f f') (hb : zC4B md = true) : zC4 a f' := by
  simp only [zC4B, Bool.and_eq_true, Bool.not_eq_true'] at hb
  obtain ⟨b1, b2, b3, b4, b5, b6, b7⟩ := hb
  exact ⟨(pI_md hm b1).trans h.1, (pI_md hm b2).trans h.2.1, (pI_md hm b3).trans h.2.2.1, (pI_md hm b4).trans h.2.2.2.1, fun e => (pI_md hm b5).trans (h.2.2.2.2.1 e), (pI_md hm b6).trans h.2.2.2.2.2.1, (pI_md hm b7).trans h.2.2.2.2.2.2⟩
theorem zM4.md {a : zA4} {f f' : zH} {md : sM} (h : zM4 a f) (hm : sMd md f f') (hb : zM4B md = true) : zM4 a f' := by
  simp only [zM4B, Bool.and_eq_true, Bool.not_eq_true'] at hb
  obtain ⟨b1, b2, b3, b4, b5, b6, b7⟩ := hb
  exact ⟨(pI_md hm b1).trans h.1, (pI_md hm b2).trans h.2.1, (pI_md hm b3).trans h.2.2.1, (pI_md hm b4).trans h.2.2.2.1, fun e => (pI_md hm b5).trans (h.2.2.2.2.1 e), (pI_md hm b6).trans h.2.2.2.2.2.1, (pI_md hm b7).trans h.2.2.2.2.2.2⟩
/-- and what is told -/
abbrev zA6 : Type := zA4 × zN × zS
def zC6 (a : zA6) (f : zH) : Prop := zC4 a.1 f ∧ CT a.2.1 a.2.2 f
def zM6 (a : zA6) (f : zH) : Prop := zM4 a.1 f ∧ TM a.2.1 a.2.2 f
def tmB (md : sM) : Bool := (List.range 6).all (fun j => !smem md 0 (12 + j)) && (kxF.all (fun t => !smem md t.1 t.2.2) && md.all (fun t => decide (t.1 < 19) || decide (24 < t.1) || decide (t.1 ≤ 21 ∧ 3 ≤ t.2.1) || decide (64 ≤ t.2.1)))
theorem kxF_d : colsA.all (fun t => (List.range (kxN t.2.2.2)).all (fun i => kxF.contains (t.2.1, t.2.2.1 + i, i))) = true := by decide +kernel
def zC6B (md : sM) : Bool := zC4B md && ctB md
def zM6B (md : sM) : Bool := zM4B md && tmB md
theorem zC6.md {a : zA6} {f f' : zH} {md : sM} (h : zC6 a f) (hm : sMd md f f') (hb : zC6B md = true) : zC6 a f' := by
  simp only [zC6B, Bool.and_eq_true] at hb
  exact ⟨h.1.md hm hb.1, h.2.md hm hb.2⟩
theorem TM.b {N : zN} {S : zS} {h : zH} (hi : sInv swM h) (hT : TM N S h) : ∀ j, j < 5 → S j ≤ kxN j := fun j hj => by
  have g := hi.2.2.1 0 (12 + j)
  have g2 : pI h 0 (12 + j) ≤ (sIv swM 0 (12 + j)).2 := g.2
  rw [hT.1 j hj] at g2
  have e : j = 0 ∨ j = 1 ∨ j = 2 ∨ j = 3 ∨ j = 4 := by omega
  rcases e with rfl | rfl | rfl | rfl | rfl
  · rw [show (sIv swM 0 (12 + 0)).2 = 5 from by decide +kernel] at g2
    exact Int.ofNat_le.mp g2
  · rw [show (sIv swM 0 (12 + 1)).2 = 8 from by decide +kernel] at g2
    exact Int.ofNat_le.mp g2
  · rw [show (sIv swM 0 (12 + 2)).2 = 10 from by decide +kernel] at g2
    exact Int.ofNat_le.mp g2
  · rw [show (sIv swM 0 (12 + 3)).2 = 10 from by decide +kernel] at g2
    exact Int.ofNat_le.mp g2
  · rw [show (sIv swM 0 (12 + 4)).2 = 6 from by decide +kernel] at g2
    exact Int.ofNat_le.mp g2
theorem TM.md {N : zN} {S : zS} {h h' : zH} {md : sM} (hT : TM N S h) (hi : sInv swM h) (hm : sMd md h h') (hb : tmB md = true) : TM N S h' := by
  have hS := hT.b hi
  simp only [tmB, Bool.and_eq_true, List.all_eq_true, List.mem_range, Bool.not_eq_true', Bool.or_eq_true, decide_eq_true_eq] at hb
  obtain ⟨b1, b2, b3⟩ := hb
  have kl : ∀ q j, (19 ≤ q ∧ q ≤ 21 ∧ j < 3) ∨ (22 ≤ q ∧ q ≤ 24 ∧ j < 64) → pI h' q j = pI h q j := fun q j hq => pI_md hm (by
    cases hc : smem md q j with
    | false => rfl
    | true =>
      obtain ⟨u, hu, g1⟩ := List.any_eq_true.mp hc
      have g2 := b3 u hu
      simp only [Bool.and_eq_true, beq_iff_eq, decide_eq_true_eq] at g1
      omega)
  obtain ⟨t1, t2, t3, ⟨t4, t5⟩, t6⟩ := hT
  have kc : ∀ {t : Nat × Nat × Nat}, kxF.contains t = true → pI h' t.1 t.2.2 = pI h t.1 t.2.2 := fun hc => pI_md hm (b2 _ (List.contains_iff_mem.mp hc))
  refine ⟨fun j hj => (pI_md hm (b1 j (by omega))).trans (t1 j hj), (pI_md hm (b1 5 (by decide))).trans t2, fun t ht i hlt => ?_, ⟨(kc kxF_o.1).trans t4, (kc kxF_o.2).trans t5⟩, t6.kept kl⟩
  have hb5 := List.all_eq_true.mp kxF_b t ht
  simp only [Bool.and_eq_true, decide_eq_true_eq] at hb5
  have hl := hS t.2.2.2 hb5.2
  exact (kc (List.all_eq_true.mp (List.all_eq_true.mp kxF_d t ht) i (List.mem_range.mpr (by omega)))).trans (t3 t ht i hlt)
theorem zM6.md {a : zA6} {f f' : zH} {md : sM} (h : zM6 a f) (hi : sInv swM f) (hm : sMd md f f') (hb : zM6B md = true) : zM6 a f' := by
  simp only [zM6B, Bool.and_eq_true] at hb
  exact ⟨h.1.md hm hb.1, h.2.md hi hm hb.2⟩
/-- text on both sides: one answer, one fault -/
theorem zptxt (l : Launch) {f1 f2 : zH} {t : Nat} (ht : t ≤ 35) (h1 : sInv swC f1) (h2 : sInv swM f2) (e1 : pI f1 0 1 = 20 * (t : Int)) (e2 : pI f2 0 1 = 20 * (t : Int)) {T : Nat → Int} (r1 : rT f1 T) (r2 : mT f2 T) {a6 : zA6} (hb : zB4 a6.1) (g1 : zC6 a6 f1) (g2 : zM6 a6 f2) (x1 : Int32) : ∃ (a : Int32) (t' : Nat) (b6 : zA6), t' ≤ 35 ∧ zB4 b6.1 ∧ (∀ Γ : zG, zSem l Γ false 10 (zhd 28) [.ref 0, .int x1] f1 (fun r f => r = some (.int a) ∧ sInv swC f ∧ pI f 0 1 = 20 * (t' : Int) ∧ rT f T ∧ zC6 b6 f)) ∧ (∀ Γ : zG, zSem l Γ false 10 (zhd 194) [.ref 0, .int x1] f2 (fun r f => r = some (.int a) ∧ sInv swM f ∧ pI f 0 1 = 20 * (t' : Int) ∧ mT f T ∧ zM6 b6 f)) := by
  have bd := i32bd x1
  have ha : ∀ a b : Int, a ≤ x1.toInt → x1.toInt ≤ b → sTL [.inr (.inl 0), .inl (a, b)] [.ref 0, .int x1] := fun a b p q => ⟨_, _, rfl, rfl, _, _, rfl, ⟨x1, rfl, p, q⟩, rfl⟩
  by_cases hneg : x1.toInt < 0
  · refine ⟨Int32.ofInt (-2), t, a6, ht, hb, fun Γ => ?_, fun Γ => ?_⟩
    · refine (ytCl l Γ 10 (by show 1 ≤ 10; decide) _ f1 (ha _ _ bd.1 (by omega)) h1 (sA0_ok _)).mono ?_
      rintro r h' ⟨⟨v, e, x, rfl, c1, c2⟩, d2, d3, -⟩
      exact ⟨by rw [e, i32eq c1 c2], d2, (pI_md d3 rfl).trans e1, fun j hj => (pI_md d3 rfl).trans (r1 j hj), g1.md d3 (by decide +kernel)⟩
    · refine (ytMl l Γ 10 (by show 1 ≤ 10; decide) _ f2 (ha _ _ bd.1 (by omega)) h2 (sA0_ok _)).mono ?_
      rintro r h' ⟨⟨v, e, x, rfl, c1, c2⟩, d2, d3, -⟩
      exact ⟨by rw [e, i32eq c1 c2], d2, (pI_md d3 rfl).trans e2, fun j hj => (pI_md d3 (smem_q rfl j)).trans (r2 j hj), g2.md h2 d3 (by decide +kernel)⟩
  by_cases hle : x1.toInt ≤ 20 * (t : Int)
  · obtain ⟨o, W⟩ := wTxt_x (D := (T, x1.toInt.toNat)) (KF := fun (o : (Int × Int × Int) × zN × zS) (c : Int) (p : Nat) => o.1 = (-1, c, (p : Int))) (KO := fun (o : (Int × Int × Int) × zN × zS) (m : Nat) (N : zN) (S : zS) => o = (((m : Int), 0, -1), N, S)) (fun c p => ⟨((-1, c, (p : Int)), fun _ _ => 0, S0), rfl⟩) (fun m N S => ⟨_, rfl⟩) 701 (fun _ _ => 0) S0 (pF (T, x1.toInt.toNat) 0) 0
    obtain ⟨⟨o1, o2, o3⟩, N', S'⟩ := o
    have hx : x1.toInt = (((T, x1.toInt.toNat) : zD).2 : Int) := by
      show x1.toInt = (x1.toInt.toNat : Int)
      omega
    have hR : ∀ j, j < 700 → 0 ≤ T j ∧ T j ≤ 255 := fun j hj => by
      have g := h2.2.2.1 1 j
      have e : sIv swM 1 j = (0, 255) := by
        show sgAt [(700, 0, 255)] j = _
        simp only [sgAt]
        rw [if_pos hj]
      rw [e] at g
      have g : 0 ≤ pI f2 1 j ∧ pI f2 1 j ≤ 255 := g
      rw [r2 j hj] at g
      exact g
    have ya : ∀ y : Int32, y.toInt = o1 → y = Int32.ofInt o1 := fun y e => by rw [← e, Int32.ofInt_toInt]
    refine ⟨Int32.ofInt o1, 0, if o1 = -1 then ((o2, o3, a6.1.2.2), a6.2) else ((0, -1, 0, 0, 0, 0, -1), N', S'), by decide, ?_, fun Γ => ?_, fun Γ => ?_⟩
    · split
      · exact hb
      · exact ⟨(by decide : (0 : Int) ≤ 0), (by decide : (0 : Int) ≤ 9000), Or.inl rfl, fun e => absurd e (by decide : ¬ (0 : Int) = 1), (by decide : (0 : Int) ≤ 0), (by decide : (0 : Int) ≤ 24), (by decide : (-1 : Int) ≤ -1), (by decide : (-1 : Int) ≤ 24)⟩
    · refine (zTxtC (d := 2) (D := (T, x1.toInt.toNat)) (N1 := a6.2.1) (S1 := a6.2.2) rfl rfl g1.2 h1 r1 hR hx (by rw [← hx]; omega) W).mono ?_
      rintro r h' ⟨c1, c2, c3, y, rfl, hy⟩
      rcases hy with ⟨c, p, hF, ey, f1, f2, hm, hct⟩ | ⟨m, N2, S2, hO, ey, hq, hct⟩
      · cases hF
        refine ⟨by rw [ya y ey], c1, c2, fun j hj => (c3 j).trans (r1 j hj), ?_⟩
        rw [if_pos rfl]
        exact ⟨⟨f1, f2, (pI_md hm (by decide +kernel)).trans g1.1.2.2.1, (pI_md hm (by decide +kernel)).trans g1.1.2.2.2.1, fun e => (pI_md hm (by decide +kernel)).trans (g1.1.2.2.2.2.1 e), (pI_md hm (by decide +kernel)).trans g1.1.2.2.2.2.2.1, (pI_md hm (by decide +kernel)).trans g1.1.2.2.2.2.2.2⟩, hct⟩
      · cases hO
        refine ⟨by rw [ya y ey], c1, c2, fun j hj => (c3 j).trans (r1 j hj), ?_⟩
        rw [if_neg (by omega)]
        exact ⟨⟨hq.2.2.1, hq.2.2.2.1, hq.1, hq.2.1, fun e => absurd e (by decide : ¬ (0 : Int) = 1), hq.2.2.2.2.1, hq.2.2.2.2.2⟩, hct⟩
    · refine (zTxtR (d := 0) (D := (T, x1.toInt.toNat)) rfl rfl h2 r2 hx (by rw [← hx]; omega) W).mono ?_
      rintro r h' ⟨c1, c2, c3, y, rfl, hy⟩
      rcases hy with ⟨c, p, hF, ey, hf, hm⟩ | ⟨m, N2, S2, hO, ey, hq, htm⟩
      · cases hF
        refine ⟨by rw [ya y ey], c1, c2, fun j hj => (c3 j).trans (r2 j hj), ?_⟩
        rw [if_pos rfl]
        exact ⟨⟨hf.1, hf.2, (pI_md hm (by decide +kernel)).trans g2.1.2.2.1, (pI_md hm (by decide +kernel)).trans g2.1.2.2.2.1, fun e => (pI_md hm (by decide +kernel)).trans (g2.1.2.2.2.2.1 e), (pI_md hm (by decide +kernel)).trans g2.1.2.2.2.2.2.1, (pI_md hm (by decide +kernel)).trans g2.1.2.2.2.2.2.2⟩, g2.2.md h2 hm (by decide +kernel)⟩
      · cases hO
        refine ⟨by rw [ya y ey], c1, c2, fun j hj => (c3 j).trans (r2 j hj), ?_⟩
        rw [if_neg (by omega)]
        exact ⟨⟨hq.2.2.1, hq.2.2.2.1, hq.1, hq.2.1, fun e => absurd e (by decide : ¬ (0 : Int) = 1), hq.2.2.2.2.1, hq.2.2.2.2.2⟩, htm⟩
  · refine ⟨Int32.ofInt (-2), t, a6, ht, hb, fun Γ => ?_, fun Γ => ?_⟩
    · refine (ytCh l Γ t (by omega) 10 (by show 1 ≤ 10; decide) _ f1 (ha _ _ (by omega) bd.2) h1 (sPl1 e1)).mono ?_
      rintro r h' ⟨⟨v, e, x, rfl, c1, c2⟩, d2, d3, -⟩
      exact ⟨by rw [e, i32eq c1 c2], d2, (pI_md d3 rfl).trans e1, fun j hj => (pI_md d3 rfl).trans (r1 j hj), g1.md d3 (by show zC6B [] = true; decide +kernel)⟩
    · refine (ytMh l Γ t (by omega) 10 (by show 1 ≤ 10; decide) _ f2 (ha _ _ (by omega) bd.2) h2 (sPl1 e2)).mono ?_
      rintro r h' ⟨⟨v, e, x, rfl, c1, c2⟩, d2, d3, -⟩
      exact ⟨by rw [e, i32eq c1 c2], d2, (pI_md d3 rfl).trans e2, fun j hj => (pI_md d3 (smem_q rfl j)).trans (r2 j hj), g2.md h2 d3 (by show zM6B [(0, 2, 3)] = true; decide +kernel)⟩
