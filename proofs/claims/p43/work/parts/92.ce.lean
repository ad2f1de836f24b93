/-! the class: add, finish -/
theorem c8_i {h : zH} (hi : sInv swC h) {c : Nat} (hc : c < 6) (v : Int32) : sInv swC (h.1, zu2 h.2.1 8 c v, h.2.2) ∧ sMd [(8, 0, 6)] h (h.1, zu2 h.2.1 8 c v, h.2.2) ∧ pI (h.1, zu2 h.2.1 8 c v, h.2.2) 8 c = v.toInt ∧ (∀ j, j ≠ c → pI (h.1, zu2 h.2.1 8 c v, h.2.2) 8 j = pI h 8 j) := by
  have g : ∀ q k, smem [(8, 0, 6)] q k = false → zu2 h.2.1 8 c v q k = h.2.1 q k := fun q k hm => by
    have hn := smem1f hm
    rw [zu2_off (by omega)]
  refine ⟨sInv_set hi rfl rfl (md := [(8, 0, 6)]) g (fun q k hm => ?_) (fun m hmem k => nomatch hmem), fun q k hm => ⟨g q k hm, rfl, rfl⟩, ?_, fun j hj => ?_⟩
  · obtain ⟨rfl, g1, g2⟩ := smem1 hm
    have e : sIv swC 8 k = (-2147483648, 2147483647) := by
      show sgAt [(6, -2147483648, 2147483647)] k = _
      simp only [sgAt]
      rw [if_pos g2]
    rw [e]
    exact i32bd _
  · show (zu2 h.2.1 8 c v 8 c).toInt = _
    rw [zu2_at]
  · show (zu2 h.2.1 8 c v 8 j).toInt = _
    rw [zu2_off (by omega)]
    rfl
theorem zv_fn0 : zcvB 47 1 1 0 48 = true := by decide +kernel
theorem zv_fn1 : zcvB 47 19 5 1 49 = true := by decide +kernel
set_option maxRecDepth 100000 in
set_option maxHeartbeats 4000000 in
theorem fnA0 {l : Launch} {Γ : zG} {d : Nat} {Kp : Option Value → zH → Prop} {I : zHI} {Lg : zHL} {P : zHP} {R : Nat} (hX : zX l Γ false (d + 2) zh47 (zMQ' Γ false zh47 Kp) 0 0 1 [(0, .ref 2), (1, .ref R)] [.ref 2] (zshC, I, Lg, P)) : zX l Γ false (d + 2) zh47 (zMQ' Γ false zh47 Kp) 0 0 0 [(0, .ref 2), (1, .ref R)] [] (zshC, I, Lg, P) := by
  refine zpcF (M := (zh47, zc47)) 47 1 rfl zckm47 (fun _ _ _ _ h => h) ?_
  exact hX
set_option maxRecDepth 100000 in
set_option maxHeartbeats 4000000 in
theorem fnA {l : Launch} {Γ : zG} {d : Nat} {Kp : Option Value → zH → Prop} {I : zHI} {Lg : zHL} {P : zHP} {R : Nat} (hP : P 2 0 = some 3) (c : ¬ I 3 8 = 0) (hX : Kp none (zshC, I, Lg, P)) : zX l Γ false (d + 2) zh47 (zMQ' Γ false zh47 Kp) 0 0 4 [(0, .ref 2), (1, .ref R)] [] (zshC, I, Lg, P) := by
  have eP := zPn hP
  rw [eP] at hX ⊢
  refine zpcF (M := (zh47, zc47)) 47 1000 rfl zckm47 (fun _ _ _ _ h => h) ?_
  refine zdecF c (fun _ => ?_)
  exact hX
set_option maxRecDepth 100000 in
set_option maxHeartbeats 4000000 in
theorem fnB {l : Launch} {Γ : zG} {d : Nat} {Kp : Option Value → zH → Prop} {I : zHI} {Lg : zHL} {P : zHP} {R : Nat} (hP : P 2 0 = some 3) (hP2 : P 2 2 = some 8) (c : I 3 8 = 0) (hX : zX l Γ false (d + 2) zh47 (zMQ' Γ false zh47 Kp) 0 0 19 [(0, .ref 2), (1, .ref R)] [.ref 8, .ref R] (zshC, I, Lg, P)) : zX l Γ false (d + 2) zh47 (zMQ' Γ false zh47 Kp) 0 0 4 [(0, .ref 2), (1, .ref R)] [] (zshC, I, Lg, P) := by
  have eP := sP_cS hP hP2
  rw [eP] at hX ⊢
  refine zpcF (M := (zh47, zc47)) 47 19 rfl zckm47 (fun _ _ _ _ h => h) ?_
  refine zdecT c (fun _ => ?_)
  exact hX
set_option maxRecDepth 100000 in
set_option maxHeartbeats 4000000 in
theorem fnC {l : Launch} {Γ : zG} {d : Nat} {Kp : Option Value → zH → Prop} {I : zHI} {Lg : zHL} {P : zHP} {R : Nat} (hX : Kp none (zshC, I, Lg, P)) : zX l Γ false (d + 2) zh47 (zMQ' Γ false zh47 Kp) 0 0 22 [(0, .ref 2), (1, .ref R)] [] (zshC, I, Lg, P) := by
  refine zpcF (M := (zh47, zc47)) 47 1000 rfl zckm47 (fun _ _ _ _ h => h) ?_
  exact hX
theorem adE10 : spqB swC sT0 [(10, 3, 4)] 100 1 49 [(0, .inr (.inl 10))] sA0 [(10, (none, 3), (0, 5 - 1))] [] 39 [] [(none, sA0, [(10, 3, 0, 1)])] = true := by decide +kernel
def adM10 (r : Nat) : sM := [(10, 3, 4), (11, r * 1, r * 1 + 1)]
theorem zAdd10 {l : Launch} {Γ : zG} {d : Nat} {h : zH} (hi : sInv swC h) {r : Nat} (hr : pI h 10 3 = (r : Int)) (hlt : r < 5) : zSem l Γ false (d + 2) (zhd 49) [.ref 10, .ref 8] h (fun rr h' => rr = none ∧ sInv swC h' ∧ sMd (adM10 r) h h' ∧ pI h' 10 3 = (r : Int) + 1 ∧ ∀ c, c < 1 → pI h' 11 (r * 1 + c) = pI h 8 c) := by
  obtain ⟨s, I, Lg, P⟩ := h
  have es : s = zshC := hi.1
  subst es
  have hP : P 10 2 = some 11 := hi.r1 (q := 10) (k := 2) (r := 11) (by decide +kernel)
  have hr : (I 10 3).toInt = (r : Int) := hr
  have hm : (I 10 0).toInt = 5 := by
    have g := hi.2.2.1 10 0
    rw [show sIv swC 10 0 = (5, 5) from by decide +kernel] at g
    have g : 5 ≤ (I 10 0).toInt ∧ (I 10 0).toInt ≤ 5 := g
    omega
  have hw : (I 10 1).toInt = 1 := by
    have g := hi.2.2.1 10 1
    rw [show sIv swC 10 1 = (1, 1) from by decide +kernel] at g
    have g : 1 ≤ (I 10 1).toInt ∧ (I 10 1).toInt ≤ 1 := g
    omega
  have er : I 10 3 = Int32.ofNat r := iN (by omega) hr
  have ew : I 10 1 = Int32.ofNat 1 := iN (by decide) hw
  have e1 : I 10 3 * I 10 1 = Int32.ofNat (r * 1) := by rw [er, ew, ofN_mul]
  have e3 : (Int32.ofNat (r * 1)).toNatClampNeg = r * 1 := ofN_cl (by omega)
  have e4 : (I 10 1).toNatClampNeg = 1 := by rw [ew]; exact ofN_cl (by decide)
  show zSem l Γ false (d + 1 + 1) zh49 _ _ _
  refine zbody (by decide +kernel) (by decide) ?_
  refine adC10 hP e1 (dlt (by omega)) (dle (by rw [hw]; decide)) ⟨by decide, rfl, by decide, dltn (by rw [oN (by omega), show (0 : Int32).toInt = 0 from by decide]; omega), dltn (by rw [hw]; decide), by rw [e4]; decide, by rw [e3, e4]; omega⟩ ?_
  rw [e3, e4, show (Int32.ofInt 0).toNatClampNeg = 0 from by decide]
  have g : ∀ q k, smem [(11, r * 1, r * 1 + 1)] q k = false → zur I 11 (va_cpy (I 8) (I 11) 0 (r * 1) 1) q k = I q k := fun q k hm => by
    have hn := smem1f hm
    unfold zur
    split
    · rename_i e
      unfold va_cpy
      rw [if_neg (by omega), e]
    · rfl
  have gi : sInv swC (zcp (zshC, I, Lg, P) 8 11 0 (r * 1) 1) := sInv_set hi rfl rfl (md := [(11, r * 1, r * 1 + 1)]) g (fun q k hm => by
    obtain ⟨rfl, g1, g2⟩ := smem1 hm
    have e : sIv swC 11 k = (-2147483648, 2147483647) := by
      show sgAt [(5, -2147483648, 2147483647)] k = _
      simp only [sgAt]
      rw [if_pos (by omega)]
    rw [e]
    exact i32bd _) (fun m hmem k => nomatch hmem)
  have gm : sMd [(11, r * 1, r * 1 + 1)] (zshC, I, Lg, P) (zcp (zshC, I, Lg, P) 8 11 0 (r * 1) 1) := fun q k hm => ⟨g q k hm, rfl, rfl⟩
  have e5 : pI (zcp (zshC, I, Lg, P) 8 11 0 (r * 1) 1) 10 3 = (r : Int) := (pI_md gm (smem1n (by omega))).trans hr
  refine spq_ok (mi := 49) (fun _ => (r : Int)) adE10 (fun mi c h => nomatch h) (by omega) (sfm ⟨.ref 10, rfl, rfl⟩ (fun _ h => nomatch h)) (sA0_ok _) ⟨⟨e5, by show (0 : Int) ≤ r; omega, by show (r : Int) ≤ 5 - 1; omega⟩, trivial⟩ gi rfl (fun e he => nomatch he) ?_
  intro e he r' h' hp hi' hm'
  have e := List.mem_singleton.mp he
  subst e
  have hr' : r' = none := hp.1
  have m3 : pI h' 10 3 = (r : Int) + 1 := hp.2.2 (10, 3, 0, 1) List.mem_cons_self
  refine ⟨hr', hi', fun q k hm => ?_, m3, fun c hc => ?_⟩
  · have s1 : smem [(11, r * 1, r * 1 + 1)] q k = false := smem1n (fun g => by
      have : smem (adM10 r) q k = true := List.any_eq_true.mpr ⟨(11, r * 1, r * 1 + 1), List.mem_cons_of_mem _ List.mem_cons_self, by
        simp only [Bool.and_eq_true, beq_iff_eq, decide_eq_true_eq]
        exact ⟨g.1.symm, g.2⟩⟩
      rw [this] at hm
      cases hm)
    have s2 : smem [(10, 3, 4)] q k = false := smem1n (fun g => by
      have : smem (adM10 r) q k = true := List.any_eq_true.mpr ⟨(10, 3, 4), List.mem_cons_self, by
        simp only [Bool.and_eq_true, beq_iff_eq, decide_eq_true_eq]
        exact ⟨g.1.symm, g.2⟩⟩
      rw [this] at hm
      cases hm)
    have a := hm' q k s2
    have b := gm q k s1
    exact ⟨a.1.trans b.1, a.2.1.trans b.2.1, a.2.2.trans b.2.2⟩
  · rw [pI_md hm' (smem1n (by omega))]
    show (zur I 11 (va_cpy (I 8) (I 11) 0 (r * 1) 1) 11 (r * 1 + c)).toInt = (I 8 c).toInt
    rw [zur_at]
    unfold va_cpy
    rw [if_pos (by omega), show 0 + (r * 1 + c - r * 1) = c from by omega]
theorem zFin10 {l : Launch} {Γ : zG} {d : Nat} {D : zD} {q : Nat} {h : zH} (hi : sInv swC h) (hT : cTk D q h) (h0 : pI h 3 8 = 0) {r : Nat} (hr : pI h 10 3 = (r : Int)) (hlt : r < 5) : zSem l Γ false (d + 5) (zhd 47) [.ref 2, .ref 10] h (fun rr h' => rr = none ∧ sInv swC h' ∧ ∀ (KF : zKF) (KO : Nat → Prop), wEnd D q KF KO → (sMd [(3, 3, 10)] h h' ∧ ∃ c p, KF c p ∧ 1 ≤ c ∧ c ≤ 5 ∧ fC c p h') ∨ (sMd ((3, 3, 10) :: adM10 r) h h' ∧ (∃ q', KO q' ∧ pI h' 3 8 = 0 ∧ cTk D q' h') ∧ pI h' 10 3 = (r : Int) + 1 ∧ ∀ c, c < 1 → pI h' 11 (r * 1 + c) = pI h 8 c)) := by
  have es := hi.1
  obtain ⟨s, I, Lg, P⟩ := h
  have es : s = zshC := es
  subst es
  show zSem l Γ false (d + 4 + 1) zh47 _ _ _
  refine zbody (by decide +kernel) (by decide) ?_
  refine fnA0 (d := d + 3) ?_
  refine zcallR (mi := 47) (as := []) (rest := []) (q0 := 2) zv_fn0 rfl (by decide) (by rfl) ?_
  refine (zClsC (d := d) hi hT h0).mono ?_
  rintro rr h1 ⟨rfl, hi1, hm1, hw⟩
  have e8 : ∃ f : Bool, True := ⟨true, trivial⟩
  obtain ⟨s1, I1, Lg1, P1⟩ := h1
  have es1 : s1 = zshC := hi1.1
  subst es1
  have hP : P1 2 0 = some 3 := hi1.r1 (q := 2) (k := 0) (r := 3) (by decide +kernel)
  have hP2 : P1 2 2 = some 8 := hi1.r1 (q := 2) (k := 2) (r := 8) (by decide +kernel)
  have r1 : pI (zshC, I1, Lg1, P1) 10 3 = (r : Int) := (pI_md hm1 rfl).trans hr
  by_cases hz : I1 3 8 = 0
  · have z8 : pI (zshC, I1, Lg1, P1) 3 8 = 0 := by
      show (I1 3 8).toInt = 0
      rw [hz]
      decide
    refine fnB (d := d + 3) hP hP2 hz ?_
    refine zcallR (mi := 47) (as := [.ref 8]) (rest := []) (q0 := 10) zv_fn1 rfl (by decide) (by rfl) ?_
    refine (zAdd10 (d := d + 2) hi1 r1 hlt).mono ?_
    rintro rr2 h2 ⟨rfl, hi2, hm2, g1, g2⟩
    obtain ⟨s2, I2, Lg2, P2⟩ := h2
    have es2 : s2 = zshC := hi2.1
    subst es2
    refine fnC (d := d + 3) ⟨rfl, hi2, fun KF KO W => ?_⟩
    rcases hw KF KO W with ⟨c, p, _, c1, c2, f1, f2⟩ | ⟨q', W', f0, T'⟩
    · omega
    · have hs : ∀ q k, smem (adM10 r) q k = true → smem ((3, 3, 10) :: adM10 r) q k = true := fun q k hm => by
        obtain ⟨t, ht, hc⟩ := List.any_eq_true.mp hm
        exact List.any_eq_true.mpr ⟨t, List.mem_cons_of_mem _ ht, hc⟩
      have hs1 : ∀ q k, smem [(3, 3, 10)] q k = true → smem ((3, 3, 10) :: adM10 r) q k = true := fun q k hm => by
        obtain ⟨t, ht, hc⟩ := List.any_eq_true.mp hm
        have ht := List.mem_singleton.mp ht
        subst ht
        exact List.any_eq_true.mpr ⟨_, List.mem_cons_self, hc⟩
      have a3 : ∀ k, smem (adM10 r) 3 k = false := fun k => rfl
      have a1' : ∀ k, smem (adM10 r) 1 k = false := fun k => rfl
      refine Or.inr ⟨(sMd.rf.tr hm1 hs1).tr hm2 hs, ⟨q', W', (pI_md hm2 (a3 8)).trans f0, ?_⟩, g1, fun c hc => ?_⟩
      · obtain ⟨⟨t1, t2, t3, t4, t5, t6, t7, t8⟩, u1, u2, u3, u4, u5⟩ := T'
        refine ⟨⟨fun j hj => (pI_md hm2 (a1' j)).trans (t1 j hj), t2, ((hm2 3 1 (a3 1)).2.1).trans t3, (pI_md hm2 (a3 2)).trans t4, (pI_md hm2 (a3 3)).trans t5, t6, t7, fun e => (pI_md hm2 (a3 9)).trans (t8 ((pI_md hm2 (a3 8)).symm.trans e))⟩, u1, (pI_md hm2 (a3 4)).trans u2, (pI_md hm2 (a3 5)).trans u3, fun e => (pI_md hm2 (a3 6)).trans (u4 e), fun e => (pI_md hm2 (a3 7)).trans (u5 e)⟩
      · rw [g2 c hc]
        exact pI_md hm1 rfl
  · refine fnA (d := d + 3) hP hz ⟨rfl, hi1, fun KF KO W => ?_⟩
    rcases hw KF KO W with ⟨c, p, h1, c1, c2, f1⟩ | ⟨q', W', f0, T'⟩
    · exact Or.inl ⟨hm1, c, p, h1, c1, c2, f1⟩
    · exact absurd (deq (by rw [show (0 : Int32).toInt = 0 from by decide]; exact f0)) hz
theorem adE12 : spqB swC sT0 [(12, 3, 4)] 100 1 49 [(0, .inr (.inl 12))] sA0 [(12, (none, 3), (0, 8 - 1))] [] 39 [] [(none, sA0, [(12, 3, 0, 1)])] = true := by decide +kernel
def adM12 (r : Nat) : sM := [(12, 3, 4), (13, r * 6, r * 6 + 6)]
theorem zAdd12 {l : Launch} {Γ : zG} {d : Nat} {h : zH} (hi : sInv swC h) {r : Nat} (hr : pI h 12 3 = (r : Int)) (hlt : r < 8) : zSem l Γ false (d + 2) (zhd 49) [.ref 12, .ref 8] h (fun rr h' => rr = none ∧ sInv swC h' ∧ sMd (adM12 r) h h' ∧ pI h' 12 3 = (r : Int) + 1 ∧ ∀ c, c < 6 → pI h' 13 (r * 6 + c) = pI h 8 c) := by
  obtain ⟨s, I, Lg, P⟩ := h
  have es : s = zshC := hi.1
  subst es
  have hP : P 12 2 = some 13 := hi.r1 (q := 12) (k := 2) (r := 13) (by decide +kernel)
  have hr : (I 12 3).toInt = (r : Int) := hr
  have hm : (I 12 0).toInt = 8 := by
    have g := hi.2.2.1 12 0
    rw [show sIv swC 12 0 = (8, 8) from by decide +kernel] at g
    have g : 8 ≤ (I 12 0).toInt ∧ (I 12 0).toInt ≤ 8 := g
    omega
  have hw : (I 12 1).toInt = 6 := by
    have g := hi.2.2.1 12 1
    rw [show sIv swC 12 1 = (6, 6) from by decide +kernel] at g
    have g : 6 ≤ (I 12 1).toInt ∧ (I 12 1).toInt ≤ 6 := g
    omega
  have er : I 12 3 = Int32.ofNat r := iN (by omega) hr
  have ew : I 12 1 = Int32.ofNat 6 := iN (by decide) hw
  have e1 : I 12 3 * I 12 1 = Int32.ofNat (r * 6) := by rw [er, ew, ofN_mul]
  have e3 : (Int32.ofNat (r * 6)).toNatClampNeg = r * 6 := ofN_cl (by omega)
  have e4 : (I 12 1).toNatClampNeg = 6 := by rw [ew]; exact ofN_cl (by decide)
  show zSem l Γ false (d + 1 + 1) zh49 _ _ _
  refine zbody (by decide +kernel) (by decide) ?_
  refine adC12 hP e1 (dlt (by omega)) (dle (by rw [hw]; decide)) ⟨by decide, rfl, by decide, dltn (by rw [oN (by omega), show (0 : Int32).toInt = 0 from by decide]; omega), dltn (by rw [hw]; decide), by rw [e4]; decide, by rw [e3, e4]; omega⟩ ?_
  rw [e3, e4, show (Int32.ofInt 0).toNatClampNeg = 0 from by decide]
  have g : ∀ q k, smem [(13, r * 6, r * 6 + 6)] q k = false → zur I 13 (va_cpy (I 8) (I 13) 0 (r * 6) 6) q k = I q k := fun q k hm => by
    have hn := smem1f hm
    unfold zur
    split
    · rename_i e
      unfold va_cpy
      rw [if_neg (by omega), e]
    · rfl
  have gi : sInv swC (zcp (zshC, I, Lg, P) 8 13 0 (r * 6) 6) := sInv_set hi rfl rfl (md := [(13, r * 6, r * 6 + 6)]) g (fun q k hm => by
    obtain ⟨rfl, g1, g2⟩ := smem1 hm
    have e : sIv swC 13 k = (-2147483648, 2147483647) := by
      show sgAt [(48, -2147483648, 2147483647)] k = _
      simp only [sgAt]
      rw [if_pos (by omega)]
    rw [e]
    exact i32bd _) (fun m hmem k => nomatch hmem)
  have gm : sMd [(13, r * 6, r * 6 + 6)] (zshC, I, Lg, P) (zcp (zshC, I, Lg, P) 8 13 0 (r * 6) 6) := fun q k hm => ⟨g q k hm, rfl, rfl⟩
  have e5 : pI (zcp (zshC, I, Lg, P) 8 13 0 (r * 6) 6) 12 3 = (r : Int) := (pI_md gm (smem1n (by omega))).trans hr
  refine spq_ok (mi := 49) (fun _ => (r : Int)) adE12 (fun mi c h => nomatch h) (by omega) (sfm ⟨.ref 12, rfl, rfl⟩ (fun _ h => nomatch h)) (sA0_ok _) ⟨⟨e5, by show (0 : Int) ≤ r; omega, by show (r : Int) ≤ 8 - 1; omega⟩, trivial⟩ gi rfl (fun e he => nomatch he) ?_
  intro e he r' h' hp hi' hm'
  have e := List.mem_singleton.mp he
  subst e
  have hr' : r' = none := hp.1
  have m3 : pI h' 12 3 = (r : Int) + 1 := hp.2.2 (12, 3, 0, 1) List.mem_cons_self
  refine ⟨hr', hi', fun q k hm => ?_, m3, fun c hc => ?_⟩
  · have s1 : smem [(13, r * 6, r * 6 + 6)] q k = false := smem1n (fun g => by
      have : smem (adM12 r) q k = true := List.any_eq_true.mpr ⟨(13, r * 6, r * 6 + 6), List.mem_cons_of_mem _ List.mem_cons_self, by
        simp only [Bool.and_eq_true, beq_iff_eq, decide_eq_true_eq]
        exact ⟨g.1.symm, g.2⟩⟩
      rw [this] at hm
      cases hm)
    have s2 : smem [(12, 3, 4)] q k = false := smem1n (fun g => by
      have : smem (adM12 r) q k = true := List.any_eq_true.mpr ⟨(12, 3, 4), List.mem_cons_self, by
        simp only [Bool.and_eq_true, beq_iff_eq, decide_eq_true_eq]
        exact ⟨g.1.symm, g.2⟩⟩
      rw [this] at hm
      cases hm)
    have a := hm' q k s2
    have b := gm q k s1
    exact ⟨a.1.trans b.1, a.2.1.trans b.2.1, a.2.2.trans b.2.2⟩
  · rw [pI_md hm' (smem1n (by omega))]
    show (zur I 13 (va_cpy (I 8) (I 13) 0 (r * 6) 6) 13 (r * 6 + c)).toInt = (I 8 c).toInt
    rw [zur_at]
    unfold va_cpy
    rw [if_pos (by omega), show 0 + (r * 6 + c - r * 6) = c from by omega]
theorem zFin12 {l : Launch} {Γ : zG} {d : Nat} {D : zD} {q : Nat} {h : zH} (hi : sInv swC h) (hT : cTk D q h) (h0 : pI h 3 8 = 0) {r : Nat} (hr : pI h 12 3 = (r : Int)) (hlt : r < 8) : zSem l Γ false (d + 5) (zhd 47) [.ref 2, .ref 12] h (fun rr h' => rr = none ∧ sInv swC h' ∧ ∀ (KF : zKF) (KO : Nat → Prop), wEnd D q KF KO → (sMd [(3, 3, 10)] h h' ∧ ∃ c p, KF c p ∧ 1 ≤ c ∧ c ≤ 5 ∧ fC c p h') ∨ (sMd ((3, 3, 10) :: adM12 r) h h' ∧ (∃ q', KO q' ∧ pI h' 3 8 = 0 ∧ cTk D q' h') ∧ pI h' 12 3 = (r : Int) + 1 ∧ ∀ c, c < 6 → pI h' 13 (r * 6 + c) = pI h 8 c)) := by
  have es := hi.1
  obtain ⟨s, I, Lg, P⟩ := h
  have es : s = zshC := es
  subst es
  show zSem l Γ false (d + 4 + 1) zh47 _ _ _
  refine zbody (by decide +kernel) (by decide) ?_
  refine fnA0 (d := d + 3) ?_
  refine zcallR (mi := 47) (as := []) (rest := []) (q0 := 2) zv_fn0 rfl (by decide) (by rfl) ?_
  refine (zClsC (d := d) hi hT h0).mono ?_
  rintro rr h1 ⟨rfl, hi1, hm1, hw⟩
  have e8 : ∃ f : Bool, True := ⟨true, trivial⟩
  obtain ⟨s1, I1, Lg1, P1⟩ := h1
  have es1 : s1 = zshC := hi1.1
  subst es1
  have hP : P1 2 0 = some 3 := hi1.r1 (q := 2) (k := 0) (r := 3) (by decide +kernel)
  have hP2 : P1 2 2 = some 8 := hi1.r1 (q := 2) (k := 2) (r := 8) (by decide +kernel)
  have r1 : pI (zshC, I1, Lg1, P1) 12 3 = (r : Int) := (pI_md hm1 rfl).trans hr
  by_cases hz : I1 3 8 = 0
  · have z8 : pI (zshC, I1, Lg1, P1) 3 8 = 0 := by
      show (I1 3 8).toInt = 0
      rw [hz]
      decide
    refine fnB (d := d + 3) hP hP2 hz ?_
    refine zcallR (mi := 47) (as := [.ref 8]) (rest := []) (q0 := 12) zv_fn1 rfl (by decide) (by rfl) ?_
    refine (zAdd12 (d := d + 2) hi1 r1 hlt).mono ?_
    rintro rr2 h2 ⟨rfl, hi2, hm2, g1, g2⟩
    obtain ⟨s2, I2, Lg2, P2⟩ := h2
    have es2 : s2 = zshC := hi2.1
    subst es2
    refine fnC (d := d + 3) ⟨rfl, hi2, fun KF KO W => ?_⟩
    rcases hw KF KO W with ⟨c, p, _, c1, c2, f1, f2⟩ | ⟨q', W', f0, T'⟩
    · omega
    · have hs : ∀ q k, smem (adM12 r) q k = true → smem ((3, 3, 10) :: adM12 r) q k = true := fun q k hm => by
        obtain ⟨t, ht, hc⟩ := List.any_eq_true.mp hm
        exact List.any_eq_true.mpr ⟨t, List.mem_cons_of_mem _ ht, hc⟩
      have hs1 : ∀ q k, smem [(3, 3, 10)] q k = true → smem ((3, 3, 10) :: adM12 r) q k = true := fun q k hm => by
        obtain ⟨t, ht, hc⟩ := List.any_eq_true.mp hm
        have ht := List.mem_singleton.mp ht
        subst ht
        exact List.any_eq_true.mpr ⟨_, List.mem_cons_self, hc⟩
      have a3 : ∀ k, smem (adM12 r) 3 k = false := fun k => rfl
      have a1' : ∀ k, smem (adM12 r) 1 k = false := fun k => rfl
      refine Or.inr ⟨(sMd.rf.tr hm1 hs1).tr hm2 hs, ⟨q', W', (pI_md hm2 (a3 8)).trans f0, ?_⟩, g1, fun c hc => ?_⟩
      · obtain ⟨⟨t1, t2, t3, t4, t5, t6, t7, t8⟩, u1, u2, u3, u4, u5⟩ := T'
        refine ⟨⟨fun j hj => (pI_md hm2 (a1' j)).trans (t1 j hj), t2, ((hm2 3 1 (a3 1)).2.1).trans t3, (pI_md hm2 (a3 2)).trans t4, (pI_md hm2 (a3 3)).trans t5, t6, t7, fun e => (pI_md hm2 (a3 9)).trans (t8 ((pI_md hm2 (a3 8)).symm.trans e))⟩, u1, (pI_md hm2 (a3 4)).trans u2, (pI_md hm2 (a3 5)).trans u3, fun e => (pI_md hm2 (a3 6)).trans (u4 e), fun e => (pI_md hm2 (a3 7)).trans (u5 e)⟩
      · rw [g2 c hc]
        exact pI_md hm1 rfl
  · refine fnA (d := d + 3) hP hz ⟨rfl, hi1, fun KF KO W => ?_⟩
    rcases hw KF KO W with ⟨c, p, h1, c1, c2, f1⟩ | ⟨q', W', f0, T'⟩
    · exact Or.inl ⟨hm1, c, p, h1, c1, c2, f1⟩
    · exact absurd (deq (by rw [show (0 : Int32).toInt = 0 from by decide]; exact f0)) hz
theorem adE14 : spqB swC sT0 [(14, 3, 4)] 100 1 49 [(0, .inr (.inl 14))] sA0 [(14, (none, 3), (0, 10 - 1))] [] 39 [] [(none, sA0, [(14, 3, 0, 1)])] = true := by decide +kernel
def adM14 (r : Nat) : sM := [(14, 3, 4), (15, r * 2, r * 2 + 2)]
theorem zAdd14 {l : Launch} {Γ : zG} {d : Nat} {h : zH} (hi : sInv swC h) {r : Nat} (hr : pI h 14 3 = (r : Int)) (hlt : r < 10) : zSem l Γ false (d + 2) (zhd 49) [.ref 14, .ref 8] h (fun rr h' => rr = none ∧ sInv swC h' ∧ sMd (adM14 r) h h' ∧ pI h' 14 3 = (r : Int) + 1 ∧ ∀ c, c < 2 → pI h' 15 (r * 2 + c) = pI h 8 c) := by
  obtain ⟨s, I, Lg, P⟩ := h
  have es : s = zshC := hi.1
  subst es
  have hP : P 14 2 = some 15 := hi.r1 (q := 14) (k := 2) (r := 15) (by decide +kernel)
  have hr : (I 14 3).toInt = (r : Int) := hr
  have hm : (I 14 0).toInt = 10 := by
    have g := hi.2.2.1 14 0
    rw [show sIv swC 14 0 = (10, 10) from by decide +kernel] at g
    have g : 10 ≤ (I 14 0).toInt ∧ (I 14 0).toInt ≤ 10 := g
    omega
  have hw : (I 14 1).toInt = 2 := by
    have g := hi.2.2.1 14 1
    rw [show sIv swC 14 1 = (2, 2) from by decide +kernel] at g
    have g : 2 ≤ (I 14 1).toInt ∧ (I 14 1).toInt ≤ 2 := g
    omega
  have er : I 14 3 = Int32.ofNat r := iN (by omega) hr
  have ew : I 14 1 = Int32.ofNat 2 := iN (by decide) hw
  have e1 : I 14 3 * I 14 1 = Int32.ofNat (r * 2) := by rw [er, ew, ofN_mul]
  have e3 : (Int32.ofNat (r * 2)).toNatClampNeg = r * 2 := ofN_cl (by omega)
  have e4 : (I 14 1).toNatClampNeg = 2 := by rw [ew]; exact ofN_cl (by decide)
  show zSem l Γ false (d + 1 + 1) zh49 _ _ _
  refine zbody (by decide +kernel) (by decide) ?_
  refine adC14 hP e1 (dlt (by omega)) (dle (by rw [hw]; decide)) ⟨by decide, rfl, by decide, dltn (by rw [oN (by omega), show (0 : Int32).toInt = 0 from by decide]; omega), dltn (by rw [hw]; decide), by rw [e4]; decide, by rw [e3, e4]; omega⟩ ?_
  rw [e3, e4, show (Int32.ofInt 0).toNatClampNeg = 0 from by decide]
  have g : ∀ q k, smem [(15, r * 2, r * 2 + 2)] q k = false → zur I 15 (va_cpy (I 8) (I 15) 0 (r * 2) 2) q k = I q k := fun q k hm => by
    have hn := smem1f hm
    unfold zur
    split
    · rename_i e
      unfold va_cpy
      rw [if_neg (by omega), e]
    · rfl
  have gi : sInv swC (zcp (zshC, I, Lg, P) 8 15 0 (r * 2) 2) := sInv_set hi rfl rfl (md := [(15, r * 2, r * 2 + 2)]) g (fun q k hm => by
    obtain ⟨rfl, g1, g2⟩ := smem1 hm
    have e : sIv swC 15 k = (-2147483648, 2147483647) := by
      show sgAt [(20, -2147483648, 2147483647)] k = _
      simp only [sgAt]
      rw [if_pos (by omega)]
    rw [e]
    exact i32bd _) (fun m hmem k => nomatch hmem)
  have gm : sMd [(15, r * 2, r * 2 + 2)] (zshC, I, Lg, P) (zcp (zshC, I, Lg, P) 8 15 0 (r * 2) 2) := fun q k hm => ⟨g q k hm, rfl, rfl⟩
  have e5 : pI (zcp (zshC, I, Lg, P) 8 15 0 (r * 2) 2) 14 3 = (r : Int) := (pI_md gm (smem1n (by omega))).trans hr
  refine spq_ok (mi := 49) (fun _ => (r : Int)) adE14 (fun mi c h => nomatch h) (by omega) (sfm ⟨.ref 14, rfl, rfl⟩ (fun _ h => nomatch h)) (sA0_ok _) ⟨⟨e5, by show (0 : Int) ≤ r; omega, by show (r : Int) ≤ 10 - 1; omega⟩, trivial⟩ gi rfl (fun e he => nomatch he) ?_
  intro e he r' h' hp hi' hm'
  have e := List.mem_singleton.mp he
  subst e
  have hr' : r' = none := hp.1
  have m3 : pI h' 14 3 = (r : Int) + 1 := hp.2.2 (14, 3, 0, 1) List.mem_cons_self
  refine ⟨hr', hi', fun q k hm => ?_, m3, fun c hc => ?_⟩
  · have s1 : smem [(15, r * 2, r * 2 + 2)] q k = false := smem1n (fun g => by
      have : smem (adM14 r) q k = true := List.any_eq_true.mpr ⟨(15, r * 2, r * 2 + 2), List.mem_cons_of_mem _ List.mem_cons_self, by
        simp only [Bool.and_eq_true, beq_iff_eq, decide_eq_true_eq]
        exact ⟨g.1.symm, g.2⟩⟩
      rw [this] at hm
      cases hm)
    have s2 : smem [(14, 3, 4)] q k = false := smem1n (fun g => by
      have : smem (adM14 r) q k = true := List.any_eq_true.mpr ⟨(14, 3, 4), List.mem_cons_self, by
        simp only [Bool.and_eq_true, beq_iff_eq, decide_eq_true_eq]
        exact ⟨g.1.symm, g.2⟩⟩
      rw [this] at hm
      cases hm)
    have a := hm' q k s2
    have b := gm q k s1
    exact ⟨a.1.trans b.1, a.2.1.trans b.2.1, a.2.2.trans b.2.2⟩
  · rw [pI_md hm' (smem1n (by omega))]
    show (zur I 15 (va_cpy (I 8) (I 15) 0 (r * 2) 2) 15 (r * 2 + c)).toInt = (I 8 c).toInt
    rw [zur_at]
    unfold va_cpy
    rw [if_pos (by omega), show 0 + (r * 2 + c - r * 2) = c from by omega]
theorem zFin14 {l : Launch} {Γ : zG} {d : Nat} {D : zD} {q : Nat} {h : zH} (hi : sInv swC h) (hT : cTk D q h) (h0 : pI h 3 8 = 0) {r : Nat} (hr : pI h 14 3 = (r : Int)) (hlt : r < 10) : zSem l Γ false (d + 5) (zhd 47) [.ref 2, .ref 14] h (fun rr h' => rr = none ∧ sInv swC h' ∧ ∀ (KF : zKF) (KO : Nat → Prop), wEnd D q KF KO → (sMd [(3, 3, 10)] h h' ∧ ∃ c p, KF c p ∧ 1 ≤ c ∧ c ≤ 5 ∧ fC c p h') ∨ (sMd ((3, 3, 10) :: adM14 r) h h' ∧ (∃ q', KO q' ∧ pI h' 3 8 = 0 ∧ cTk D q' h') ∧ pI h' 14 3 = (r : Int) + 1 ∧ ∀ c, c < 2 → pI h' 15 (r * 2 + c) = pI h 8 c)) := by
  have es := hi.1
  obtain ⟨s, I, Lg, P⟩ := h
  have es : s = zshC := es
  subst es
  show zSem l Γ false (d + 4 + 1) zh47 _ _ _
  refine zbody (by decide +kernel) (by decide) ?_
  refine fnA0 (d := d + 3) ?_
  refine zcallR (mi := 47) (as := []) (rest := []) (q0 := 2) zv_fn0 rfl (by decide) (by rfl) ?_
  refine (zClsC (d := d) hi hT h0).mono ?_
  rintro rr h1 ⟨rfl, hi1, hm1, hw⟩
  have e8 : ∃ f : Bool, True := ⟨true, trivial⟩
  obtain ⟨s1, I1, Lg1, P1⟩ := h1
  have es1 : s1 = zshC := hi1.1
  subst es1
  have hP : P1 2 0 = some 3 := hi1.r1 (q := 2) (k := 0) (r := 3) (by decide +kernel)
  have hP2 : P1 2 2 = some 8 := hi1.r1 (q := 2) (k := 2) (r := 8) (by decide +kernel)
  have r1 : pI (zshC, I1, Lg1, P1) 14 3 = (r : Int) := (pI_md hm1 rfl).trans hr
  by_cases hz : I1 3 8 = 0
  · have z8 : pI (zshC, I1, Lg1, P1) 3 8 = 0 := by
      show (I1 3 8).toInt = 0
      rw [hz]
      decide
    refine fnB (d := d + 3) hP hP2 hz ?_
    refine zcallR (mi := 47) (as := [.ref 8]) (rest := []) (q0 := 14) zv_fn1 rfl (by decide) (by rfl) ?_
    refine (zAdd14 (d := d + 2) hi1 r1 hlt).mono ?_
    rintro rr2 h2 ⟨rfl, hi2, hm2, g1, g2⟩
    obtain ⟨s2, I2, Lg2, P2⟩ := h2
    have es2 : s2 = zshC := hi2.1
    subst es2
    refine fnC (d := d + 3) ⟨rfl, hi2, fun KF KO W => ?_⟩
    rcases hw KF KO W with ⟨c, p, _, c1, c2, f1, f2⟩ | ⟨q', W', f0, T'⟩
    · omega
    · have hs : ∀ q k, smem (adM14 r) q k = true → smem ((3, 3, 10) :: adM14 r) q k = true := fun q k hm => by
        obtain ⟨t, ht, hc⟩ := List.any_eq_true.mp hm
        exact List.any_eq_true.mpr ⟨t, List.mem_cons_of_mem _ ht, hc⟩
      have hs1 : ∀ q k, smem [(3, 3, 10)] q k = true → smem ((3, 3, 10) :: adM14 r) q k = true := fun q k hm => by
        obtain ⟨t, ht, hc⟩ := List.any_eq_true.mp hm
        have ht := List.mem_singleton.mp ht
        subst ht
        exact List.any_eq_true.mpr ⟨_, List.mem_cons_self, hc⟩
      have a3 : ∀ k, smem (adM14 r) 3 k = false := fun k => rfl
      have a1' : ∀ k, smem (adM14 r) 1 k = false := fun k => rfl
      refine Or.inr ⟨(sMd.rf.tr hm1 hs1).tr hm2 hs, ⟨q', W', (pI_md hm2 (a3 8)).trans f0, ?_⟩, g1, fun c hc => ?_⟩
      · obtain ⟨⟨t1, t2, t3, t4, t5, t6, t7, t8⟩, u1, u2, u3, u4, u5⟩ := T'
        refine ⟨⟨fun j hj => (pI_md hm2 (a1' j)).trans (t1 j hj), t2, ((hm2 3 1 (a3 1)).2.1).trans t3, (pI_md hm2 (a3 2)).trans t4, (pI_md hm2 (a3 3)).trans t5, t6, t7, fun e => (pI_md hm2 (a3 9)).trans (t8 ((pI_md hm2 (a3 8)).symm.trans e))⟩, u1, (pI_md hm2 (a3 4)).trans u2, (pI_md hm2 (a3 5)).trans u3, fun e => (pI_md hm2 (a3 6)).trans (u4 e), fun e => (pI_md hm2 (a3 7)).trans (u5 e)⟩
      · rw [g2 c hc]
        exact pI_md hm1 rfl
  · refine fnA (d := d + 3) hP hz ⟨rfl, hi1, fun KF KO W => ?_⟩
    rcases hw KF KO W with ⟨c, p, h1, c1, c2, f1⟩ | ⟨q', W', f0, T'⟩
    · exact Or.inl ⟨hm1, c, p, h1, c1, c2, f1⟩
    · exact absurd (deq (by rw [show (0 : Int32).toInt = 0 from by decide]; exact f0)) hz
theorem adE16 : spqB swC sT0 [(16, 3, 4)] 100 1 49 [(0, .inr (.inl 16))] sA0 [(16, (none, 3), (0, 10 - 1))] [] 39 [] [(none, sA0, [(16, 3, 0, 1)])] = true := by decide +kernel
def adM16 (r : Nat) : sM := [(16, 3, 4), (17, r * 4, r * 4 + 4)]
theorem zAdd16 {l : Launch} {Γ : zG} {d : Nat} {h : zH} (hi : sInv swC h) {r : Nat} (hr : pI h 16 3 = (r : Int)) (hlt : r < 10) : zSem l Γ false (d + 2) (zhd 49) [.ref 16, .ref 8] h (fun rr h' => rr = none ∧ sInv swC h' ∧ sMd (adM16 r) h h' ∧ pI h' 16 3 = (r : Int) + 1 ∧ ∀ c, c < 4 → pI h' 17 (r * 4 + c) = pI h 8 c) := by
  obtain ⟨s, I, Lg, P⟩ := h
  have es : s = zshC := hi.1
  subst es
  have hP : P 16 2 = some 17 := hi.r1 (q := 16) (k := 2) (r := 17) (by decide +kernel)
  have hr : (I 16 3).toInt = (r : Int) := hr
  have hm : (I 16 0).toInt = 10 := by
    have g := hi.2.2.1 16 0
    rw [show sIv swC 16 0 = (10, 10) from by decide +kernel] at g
    have g : 10 ≤ (I 16 0).toInt ∧ (I 16 0).toInt ≤ 10 := g
    omega
  have hw : (I 16 1).toInt = 4 := by
    have g := hi.2.2.1 16 1
    rw [show sIv swC 16 1 = (4, 4) from by decide +kernel] at g
    have g : 4 ≤ (I 16 1).toInt ∧ (I 16 1).toInt ≤ 4 := g
    omega
  have er : I 16 3 = Int32.ofNat r := iN (by omega) hr
  have ew : I 16 1 = Int32.ofNat 4 := iN (by decide) hw
  have e1 : I 16 3 * I 16 1 = Int32.ofNat (r * 4) := by rw [er, ew, ofN_mul]
  have e3 : (Int32.ofNat (r * 4)).toNatClampNeg = r * 4 := ofN_cl (by omega)
  have e4 : (I 16 1).toNatClampNeg = 4 := by rw [ew]; exact ofN_cl (by decide)
  show zSem l Γ false (d + 1 + 1) zh49 _ _ _
  refine zbody (by decide +kernel) (by decide) ?_
  refine adC16 hP e1 (dlt (by omega)) (dle (by rw [hw]; decide)) ⟨by decide, rfl, by decide, dltn (by rw [oN (by omega), show (0 : Int32).toInt = 0 from by decide]; omega), dltn (by rw [hw]; decide), by rw [e4]; decide, by rw [e3, e4]; omega⟩ ?_
  rw [e3, e4, show (Int32.ofInt 0).toNatClampNeg = 0 from by decide]
  have g : ∀ q k, smem [(17, r * 4, r * 4 + 4)] q k = false → zur I 17 (va_cpy (I 8) (I 17) 0 (r * 4) 4) q k = I q k := fun q k hm => by
    have hn := smem1f hm
    unfold zur
    split
    · rename_i e
      unfold va_cpy
      rw [if_neg (by omega), e]
    · rfl
  have gi : sInv swC (zcp (zshC, I, Lg, P) 8 17 0 (r * 4) 4) := sInv_set hi rfl rfl (md := [(17, r * 4, r * 4 + 4)]) g (fun q k hm => by
    obtain ⟨rfl, g1, g2⟩ := smem1 hm
    have e : sIv swC 17 k = (-2147483648, 2147483647) := by
      show sgAt [(40, -2147483648, 2147483647)] k = _
      simp only [sgAt]
      rw [if_pos (by omega)]
    rw [e]
    exact i32bd _) (fun m hmem k => nomatch hmem)
  have gm : sMd [(17, r * 4, r * 4 + 4)] (zshC, I, Lg, P) (zcp (zshC, I, Lg, P) 8 17 0 (r * 4) 4) := fun q k hm => ⟨g q k hm, rfl, rfl⟩
  have e5 : pI (zcp (zshC, I, Lg, P) 8 17 0 (r * 4) 4) 16 3 = (r : Int) := (pI_md gm (smem1n (by omega))).trans hr
  refine spq_ok (mi := 49) (fun _ => (r : Int)) adE16 (fun mi c h => nomatch h) (by omega) (sfm ⟨.ref 16, rfl, rfl⟩ (fun _ h => nomatch h)) (sA0_ok _) ⟨⟨e5, by show (0 : Int) ≤ r; omega, by show (r : Int) ≤ 10 - 1; omega⟩, trivial⟩ gi rfl (fun e he => nomatch he) ?_
  intro e he r' h' hp hi' hm'
  have e := List.mem_singleton.mp he
  subst e
  have hr' : r' = none := hp.1
  have m3 : pI h' 16 3 = (r : Int) + 1 := hp.2.2 (16, 3, 0, 1) List.mem_cons_self
  refine ⟨hr', hi', fun q k hm => ?_, m3, fun c hc => ?_⟩
  · have s1 : smem [(17, r * 4, r * 4 + 4)] q k = false := smem1n (fun g => by
      have : smem (adM16 r) q k = true := List.any_eq_true.mpr ⟨(17, r * 4, r * 4 + 4), List.mem_cons_of_mem _ List.mem_cons_self, by
        simp only [Bool.and_eq_true, beq_iff_eq, decide_eq_true_eq]
        exact ⟨g.1.symm, g.2⟩⟩
      rw [this] at hm
      cases hm)
    have s2 : smem [(16, 3, 4)] q k = false := smem1n (fun g => by
      have : smem (adM16 r) q k = true := List.any_eq_true.mpr ⟨(16, 3, 4), List.mem_cons_self, by
        simp only [Bool.and_eq_true, beq_iff_eq, decide_eq_true_eq]
        exact ⟨g.1.symm, g.2⟩⟩
      rw [this] at hm
      cases hm)
    have a := hm' q k s2
    have b := gm q k s1
    exact ⟨a.1.trans b.1, a.2.1.trans b.2.1, a.2.2.trans b.2.2⟩
  · rw [pI_md hm' (smem1n (by omega))]
    show (zur I 17 (va_cpy (I 8) (I 17) 0 (r * 4) 4) 17 (r * 4 + c)).toInt = (I 8 c).toInt
    rw [zur_at]
    unfold va_cpy
    rw [if_pos (by omega), show 0 + (r * 4 + c - r * 4) = c from by omega]
theorem zFin16 {l : Launch} {Γ : zG} {d : Nat} {D : zD} {q : Nat} {h : zH} (hi : sInv swC h) (hT : cTk D q h) (h0 : pI h 3 8 = 0) {r : Nat} (hr : pI h 16 3 = (r : Int)) (hlt : r < 10) : zSem l Γ false (d + 5) (zhd 47) [.ref 2, .ref 16] h (fun rr h' => rr = none ∧ sInv swC h' ∧ ∀ (KF : zKF) (KO : Nat → Prop), wEnd D q KF KO → (sMd [(3, 3, 10)] h h' ∧ ∃ c p, KF c p ∧ 1 ≤ c ∧ c ≤ 5 ∧ fC c p h') ∨ (sMd ((3, 3, 10) :: adM16 r) h h' ∧ (∃ q', KO q' ∧ pI h' 3 8 = 0 ∧ cTk D q' h') ∧ pI h' 16 3 = (r : Int) + 1 ∧ ∀ c, c < 4 → pI h' 17 (r * 4 + c) = pI h 8 c)) := by
  have es := hi.1
  obtain ⟨s, I, Lg, P⟩ := h
  have es : s = zshC := es
  subst es
  show zSem l Γ false (d + 4 + 1) zh47 _ _ _
  refine zbody (by decide +kernel) (by decide) ?_
  refine fnA0 (d := d + 3) ?_
  refine zcallR (mi := 47) (as := []) (rest := []) (q0 := 2) zv_fn0 rfl (by decide) (by rfl) ?_
  refine (zClsC (d := d) hi hT h0).mono ?_
  rintro rr h1 ⟨rfl, hi1, hm1, hw⟩
  have e8 : ∃ f : Bool, True := ⟨true, trivial⟩
  obtain ⟨s1, I1, Lg1, P1⟩ := h1
  have es1 : s1 = zshC := hi1.1
  subst es1
  have hP : P1 2 0 = some 3 := hi1.r1 (q := 2) (k := 0) (r := 3) (by decide +kernel)
  have hP2 : P1 2 2 = some 8 := hi1.r1 (q := 2) (k := 2) (r := 8) (by decide +kernel)
  have r1 : pI (zshC, I1, Lg1, P1) 16 3 = (r : Int) := (pI_md hm1 rfl).trans hr
  by_cases hz : I1 3 8 = 0
  · have z8 : pI (zshC, I1, Lg1, P1) 3 8 = 0 := by
      show (I1 3 8).toInt = 0
      rw [hz]
      decide
    refine fnB (d := d + 3) hP hP2 hz ?_
    refine zcallR (mi := 47) (as := [.ref 8]) (rest := []) (q0 := 16) zv_fn1 rfl (by decide) (by rfl) ?_
    refine (zAdd16 (d := d + 2) hi1 r1 hlt).mono ?_
    rintro rr2 h2 ⟨rfl, hi2, hm2, g1, g2⟩
    obtain ⟨s2, I2, Lg2, P2⟩ := h2
    have es2 : s2 = zshC := hi2.1
    subst es2
    refine fnC (d := d + 3) ⟨rfl, hi2, fun KF KO W => ?_⟩
    rcases hw KF KO W with ⟨c, p, _, c1, c2, f1, f2⟩ | ⟨q', W', f0, T'⟩
    · omega
    · have hs : ∀ q k, smem (adM16 r) q k = true → smem ((3, 3, 10) :: adM16 r) q k = true := fun q k hm => by
        obtain ⟨t, ht, hc⟩ := List.any_eq_true.mp hm
        exact List.any_eq_true.mpr ⟨t, List.mem_cons_of_mem _ ht, hc⟩
      have hs1 : ∀ q k, smem [(3, 3, 10)] q k = true → smem ((3, 3, 10) :: adM16 r) q k = true := fun q k hm => by
        obtain ⟨t, ht, hc⟩ := List.any_eq_true.mp hm
        have ht := List.mem_singleton.mp ht
        subst ht
        exact List.any_eq_true.mpr ⟨_, List.mem_cons_self, hc⟩
      have a3 : ∀ k, smem (adM16 r) 3 k = false := fun k => rfl
      have a1' : ∀ k, smem (adM16 r) 1 k = false := fun k => rfl
      refine Or.inr ⟨(sMd.rf.tr hm1 hs1).tr hm2 hs, ⟨q', W', (pI_md hm2 (a3 8)).trans f0, ?_⟩, g1, fun c hc => ?_⟩
      · obtain ⟨⟨t1, t2, t3, t4, t5, t6, t7, t8⟩, u1, u2, u3, u4, u5⟩ := T'
        refine ⟨⟨fun j hj => (pI_md hm2 (a1' j)).trans (t1 j hj), t2, ((hm2 3 1 (a3 1)).2.1).trans t3, (pI_md hm2 (a3 2)).trans t4, (pI_md hm2 (a3 3)).trans t5, t6, t7, fun e => (pI_md hm2 (a3 9)).trans (t8 ((pI_md hm2 (a3 8)).symm.trans e))⟩, u1, (pI_md hm2 (a3 4)).trans u2, (pI_md hm2 (a3 5)).trans u3, fun e => (pI_md hm2 (a3 6)).trans (u4 e), fun e => (pI_md hm2 (a3 7)).trans (u5 e)⟩
      · rw [g2 c hc]
        exact pI_md hm1 rfl
  · refine fnA (d := d + 3) hP hz ⟨rfl, hi1, fun KF KO W => ?_⟩
    rcases hw KF KO W with ⟨c, p, h1, c1, c2, f1⟩ | ⟨q', W', f0, T'⟩
    · exact Or.inl ⟨hm1, c, p, h1, c1, c2, f1⟩
    · exact absurd (deq (by rw [show (0 : Int32).toInt = 0 from by decide]; exact f0)) hz
theorem adE18 : spqB swC sT0 [(18, 3, 4)] 100 1 49 [(0, .inr (.inl 18))] sA0 [(18, (none, 3), (0, 6 - 1))] [] 39 [] [(none, sA0, [(18, 3, 0, 1)])] = true := by decide +kernel
def adM18 (r : Nat) : sM := [(18, 3, 4), (19, r * 1, r * 1 + 1)]
theorem zAdd18 {l : Launch} {Γ : zG} {d : Nat} {h : zH} (hi : sInv swC h) {r : Nat} (hr : pI h 18 3 = (r : Int)) (hlt : r < 6) : zSem l Γ false (d + 2) (zhd 49) [.ref 18, .ref 8] h (fun rr h' => rr = none ∧ sInv swC h' ∧ sMd (adM18 r) h h' ∧ pI h' 18 3 = (r : Int) + 1 ∧ ∀ c, c < 1 → pI h' 19 (r * 1 + c) = pI h 8 c) := by
  obtain ⟨s, I, Lg, P⟩ := h
  have es : s = zshC := hi.1
  subst es
  have hP : P 18 2 = some 19 := hi.r1 (q := 18) (k := 2) (r := 19) (by decide +kernel)
  have hr : (I 18 3).toInt = (r : Int) := hr
  have hm : (I 18 0).toInt = 6 := by
    have g := hi.2.2.1 18 0
    rw [show sIv swC 18 0 = (6, 6) from by decide +kernel] at g
    have g : 6 ≤ (I 18 0).toInt ∧ (I 18 0).toInt ≤ 6 := g
    omega
  have hw : (I 18 1).toInt = 1 := by
    have g := hi.2.2.1 18 1
    rw [show sIv swC 18 1 = (1, 1) from by decide +kernel] at g
    have g : 1 ≤ (I 18 1).toInt ∧ (I 18 1).toInt ≤ 1 := g
    omega
  have er : I 18 3 = Int32.ofNat r := iN (by omega) hr
  have ew : I 18 1 = Int32.ofNat 1 := iN (by decide) hw
  have e1 : I 18 3 * I 18 1 = Int32.ofNat (r * 1) := by rw [er, ew, ofN_mul]
  have e3 : (Int32.ofNat (r * 1)).toNatClampNeg = r * 1 := ofN_cl (by omega)
  have e4 : (I 18 1).toNatClampNeg = 1 := by rw [ew]; exact ofN_cl (by decide)
  show zSem l Γ false (d + 1 + 1) zh49 _ _ _
  refine zbody (by decide +kernel) (by decide) ?_
  refine adC18 hP e1 (dlt (by omega)) (dle (by rw [hw]; decide)) ⟨by decide, rfl, by decide, dltn (by rw [oN (by omega), show (0 : Int32).toInt = 0 from by decide]; omega), dltn (by rw [hw]; decide), by rw [e4]; decide, by rw [e3, e4]; omega⟩ ?_
  rw [e3, e4, show (Int32.ofInt 0).toNatClampNeg = 0 from by decide]
  have g : ∀ q k, smem [(19, r * 1, r * 1 + 1)] q k = false → zur I 19 (va_cpy (I 8) (I 19) 0 (r * 1) 1) q k = I q k := fun q k hm => by
    have hn := smem1f hm
    unfold zur
    split
    · rename_i e
      unfold va_cpy
      rw [if_neg (by omega), e]
    · rfl
  have gi : sInv swC (zcp (zshC, I, Lg, P) 8 19 0 (r * 1) 1) := sInv_set hi rfl rfl (md := [(19, r * 1, r * 1 + 1)]) g (fun q k hm => by
    obtain ⟨rfl, g1, g2⟩ := smem1 hm
    have e : sIv swC 19 k = (-2147483648, 2147483647) := by
      show sgAt [(6, -2147483648, 2147483647)] k = _
      simp only [sgAt]
      rw [if_pos (by omega)]
    rw [e]
    exact i32bd _) (fun m hmem k => nomatch hmem)
  have gm : sMd [(19, r * 1, r * 1 + 1)] (zshC, I, Lg, P) (zcp (zshC, I, Lg, P) 8 19 0 (r * 1) 1) := fun q k hm => ⟨g q k hm, rfl, rfl⟩
  have e5 : pI (zcp (zshC, I, Lg, P) 8 19 0 (r * 1) 1) 18 3 = (r : Int) := (pI_md gm (smem1n (by omega))).trans hr
  refine spq_ok (mi := 49) (fun _ => (r : Int)) adE18 (fun mi c h => nomatch h) (by omega) (sfm ⟨.ref 18, rfl, rfl⟩ (fun _ h => nomatch h)) (sA0_ok _) ⟨⟨e5, by show (0 : Int) ≤ r; omega, by show (r : Int) ≤ 6 - 1; omega⟩, trivial⟩ gi rfl (fun e he => nomatch he) ?_
  intro e he r' h' hp hi' hm'
  have e := List.mem_singleton.mp he
  subst e
  have hr' : r' = none := hp.1
  have m3 : pI h' 18 3 = (r : Int) + 1 := hp.2.2 (18, 3, 0, 1) List.mem_cons_self
  refine ⟨hr', hi', fun q k hm => ?_, m3, fun c hc => ?_⟩
  · have s1 : smem [(19, r * 1, r * 1 + 1)] q k = false := smem1n (fun g => by
      have : smem (adM18 r) q k = true := List.any_eq_true.mpr ⟨(19, r * 1, r * 1 + 1), List.mem_cons_of_mem _ List.mem_cons_self, by
        simp only [Bool.and_eq_true, beq_iff_eq, decide_eq_true_eq]
        exact ⟨g.1.symm, g.2⟩⟩
      rw [this] at hm
      cases hm)
    have s2 : smem [(18, 3, 4)] q k = false := smem1n (fun g => by
      have : smem (adM18 r) q k = true := List.any_eq_true.mpr ⟨(18, 3, 4), List.mem_cons_self, by
        simp only [Bool.and_eq_true, beq_iff_eq, decide_eq_true_eq]
        exact ⟨g.1.symm, g.2⟩⟩
      rw [this] at hm
      cases hm)
    have a := hm' q k s2
    have b := gm q k s1
    exact ⟨a.1.trans b.1, a.2.1.trans b.2.1, a.2.2.trans b.2.2⟩
  · rw [pI_md hm' (smem1n (by omega))]
    show (zur I 19 (va_cpy (I 8) (I 19) 0 (r * 1) 1) 19 (r * 1 + c)).toInt = (I 8 c).toInt
    rw [zur_at]
    unfold va_cpy
    rw [if_pos (by omega), show 0 + (r * 1 + c - r * 1) = c from by omega]
theorem zFin18 {l : Launch} {Γ : zG} {d : Nat} {D : zD} {q : Nat} {h : zH} (hi : sInv swC h) (hT : cTk D q h) (h0 : pI h 3 8 = 0) {r : Nat} (hr : pI h 18 3 = (r : Int)) (hlt : r < 6) : zSem l Γ false (d + 5) (zhd 47) [.ref 2, .ref 18] h (fun rr h' => rr = none ∧ sInv swC h' ∧ ∀ (KF : zKF) (KO : Nat → Prop), wEnd D q KF KO → (sMd [(3, 3, 10)] h h' ∧ ∃ c p, KF c p ∧ 1 ≤ c ∧ c ≤ 5 ∧ fC c p h') ∨ (sMd ((3, 3, 10) :: adM18 r) h h' ∧ (∃ q', KO q' ∧ pI h' 3 8 = 0 ∧ cTk D q' h') ∧ pI h' 18 3 = (r : Int) + 1 ∧ ∀ c, c < 1 → pI h' 19 (r * 1 + c) = pI h 8 c)) := by
  have es := hi.1
  obtain ⟨s, I, Lg, P⟩ := h
  have es : s = zshC := es
  subst es
  show zSem l Γ false (d + 4 + 1) zh47 _ _ _
  refine zbody (by decide +kernel) (by decide) ?_
  refine fnA0 (d := d + 3) ?_
  refine zcallR (mi := 47) (as := []) (rest := []) (q0 := 2) zv_fn0 rfl (by decide) (by rfl) ?_
  refine (zClsC (d := d) hi hT h0).mono ?_
  rintro rr h1 ⟨rfl, hi1, hm1, hw⟩
  have e8 : ∃ f : Bool, True := ⟨true, trivial⟩
  obtain ⟨s1, I1, Lg1, P1⟩ := h1
  have es1 : s1 = zshC := hi1.1
  subst es1
  have hP : P1 2 0 = some 3 := hi1.r1 (q := 2) (k := 0) (r := 3) (by decide +kernel)
  have hP2 : P1 2 2 = some 8 := hi1.r1 (q := 2) (k := 2) (r := 8) (by decide +kernel)
  have r1 : pI (zshC, I1, Lg1, P1) 18 3 = (r : Int) := (pI_md hm1 rfl).trans hr
  by_cases hz : I1 3 8 = 0
  · have z8 : pI (zshC, I1, Lg1, P1) 3 8 = 0 := by
      show (I1 3 8).toInt = 0
      rw [hz]
      decide
    refine fnB (d := d + 3) hP hP2 hz ?_
    refine zcallR (mi := 47) (as := [.ref 8]) (rest := []) (q0 := 18) zv_fn1 rfl (by decide) (by rfl) ?_
    refine (zAdd18 (d := d + 2) hi1 r1 hlt).mono ?_
    rintro rr2 h2 ⟨rfl, hi2, hm2, g1, g2⟩
    obtain ⟨s2, I2, Lg2, P2⟩ := h2
    have es2 : s2 = zshC := hi2.1
    subst es2
    refine fnC (d := d + 3) ⟨rfl, hi2, fun KF KO W => ?_⟩
    rcases hw KF KO W with ⟨c, p, _, c1, c2, f1, f2⟩ | ⟨q', W', f0, T'⟩
    · omega
    · have hs : ∀ q k, smem (adM18 r) q k = true → smem ((3, 3, 10) :: adM18 r) q k = true := fun q k hm => by
        obtain ⟨t, ht, hc⟩ := List.any_eq_true.mp hm
        exact List.any_eq_true.mpr ⟨t, List.mem_cons_of_mem _ ht, hc⟩
      have hs1 : ∀ q k, smem [(3, 3, 10)] q k = true → smem ((3, 3, 10) :: adM18 r) q k = true := fun q k hm => by
        obtain ⟨t, ht, hc⟩ := List.any_eq_true.mp hm
        have ht := List.mem_singleton.mp ht
        subst ht
        exact List.any_eq_true.mpr ⟨_, List.mem_cons_self, hc⟩
      have a3 : ∀ k, smem (adM18 r) 3 k = false := fun k => rfl
      have a1' : ∀ k, smem (adM18 r) 1 k = false := fun k => rfl
      refine Or.inr ⟨(sMd.rf.tr hm1 hs1).tr hm2 hs, ⟨q', W', (pI_md hm2 (a3 8)).trans f0, ?_⟩, g1, fun c hc => ?_⟩
      · obtain ⟨⟨t1, t2, t3, t4, t5, t6, t7, t8⟩, u1, u2, u3, u4, u5⟩ := T'
        refine ⟨⟨fun j hj => (pI_md hm2 (a1' j)).trans (t1 j hj), t2, ((hm2 3 1 (a3 1)).2.1).trans t3, (pI_md hm2 (a3 2)).trans t4, (pI_md hm2 (a3 3)).trans t5, t6, t7, fun e => (pI_md hm2 (a3 9)).trans (t8 ((pI_md hm2 (a3 8)).symm.trans e))⟩, u1, (pI_md hm2 (a3 4)).trans u2, (pI_md hm2 (a3 5)).trans u3, fun e => (pI_md hm2 (a3 6)).trans (u4 e), fun e => (pI_md hm2 (a3 7)).trans (u5 e)⟩
      · rw [g2 c hc]
        exact pI_md hm1 rfl
  · refine fnA (d := d + 3) hP hz ⟨rfl, hi1, fun KF KO W => ?_⟩
    rcases hw KF KO W with ⟨c, p, h1, c1, c2, f1⟩ | ⟨q', W', f0, T'⟩
    · exact Or.inl ⟨hm1, c, p, h1, c1, c2, f1⟩
    · exact absurd (deq (by rw [show (0 : Int32).toInt = 0 from by decide]; exact f0)) hz
theorem adE27 : spqB swC sT0 [(27, 3, 4)] 100 1 49 [(0, .inr (.inl 27))] sA0 [(27, (none, 3), (0, 5 - 1))] [] 39 [] [(none, sA0, [(27, 3, 0, 1)])] = true := by decide +kernel
def adM27 (r : Nat) : sM := [(27, 3, 4), (28, r * 1, r * 1 + 1)]
theorem zAdd27 {l : Launch} {Γ : zG} {d : Nat} {h : zH} (hi : sInv swC h) {r : Nat} (hr : pI h 27 3 = (r : Int)) (hlt : r < 5) : zSem l Γ false (d + 2) (zhd 49) [.ref 27, .ref 8] h (fun rr h' => rr = none ∧ sInv swC h' ∧ sMd (adM27 r) h h' ∧ pI h' 27 3 = (r : Int) + 1 ∧ ∀ c, c < 1 → pI h' 28 (r * 1 + c) = pI h 8 c) := by
  obtain ⟨s, I, Lg, P⟩ := h
  have es : s = zshC := hi.1
  subst es
  have hP : P 27 2 = some 28 := hi.r1 (q := 27) (k := 2) (r := 28) (by decide +kernel)
  have hr : (I 27 3).toInt = (r : Int) := hr
  have hm : (I 27 0).toInt = 5 := by
    have g := hi.2.2.1 27 0
    rw [show sIv swC 27 0 = (5, 5) from by decide +kernel] at g
    have g : 5 ≤ (I 27 0).toInt ∧ (I 27 0).toInt ≤ 5 := g
    omega
  have hw : (I 27 1).toInt = 1 := by
    have g := hi.2.2.1 27 1
    rw [show sIv swC 27 1 = (1, 1) from by decide +kernel] at g
    have g : 1 ≤ (I 27 1).toInt ∧ (I 27 1).toInt ≤ 1 := g
    omega
  have er : I 27 3 = Int32.ofNat r := iN (by omega) hr
  have ew : I 27 1 = Int32.ofNat 1 := iN (by decide) hw
  have e1 : I 27 3 * I 27 1 = Int32.ofNat (r * 1) := by rw [er, ew, ofN_mul]
  have e3 : (Int32.ofNat (r * 1)).toNatClampNeg = r * 1 := ofN_cl (by omega)
  have e4 : (I 27 1).toNatClampNeg = 1 := by rw [ew]; exact ofN_cl (by decide)
  show zSem l Γ false (d + 1 + 1) zh49 _ _ _
  refine zbody (by decide +kernel) (by decide) ?_
  refine adC27 hP e1 (dlt (by omega)) (dle (by rw [hw]; decide)) ⟨by decide, rfl, by decide, dltn (by rw [oN (by omega), show (0 : Int32).toInt = 0 from by decide]; omega), dltn (by rw [hw]; decide), by rw [e4]; decide, by rw [e3, e4]; omega⟩ ?_
  rw [e3, e4, show (Int32.ofInt 0).toNatClampNeg = 0 from by decide]
  have g : ∀ q k, smem [(28, r * 1, r * 1 + 1)] q k = false → zur I 28 (va_cpy (I 8) (I 28) 0 (r * 1) 1) q k = I q k := fun q k hm => by
    have hn := smem1f hm
    unfold zur
    split
    · rename_i e
      unfold va_cpy
      rw [if_neg (by omega), e]
    · rfl
  have gi : sInv swC (zcp (zshC, I, Lg, P) 8 28 0 (r * 1) 1) := sInv_set hi rfl rfl (md := [(28, r * 1, r * 1 + 1)]) g (fun q k hm => by
    obtain ⟨rfl, g1, g2⟩ := smem1 hm
    have e : sIv swC 28 k = (-2147483648, 2147483647) := by
      show sgAt [(5, -2147483648, 2147483647)] k = _
      simp only [sgAt]
      rw [if_pos (by omega)]
    rw [e]
    exact i32bd _) (fun m hmem k => nomatch hmem)
  have gm : sMd [(28, r * 1, r * 1 + 1)] (zshC, I, Lg, P) (zcp (zshC, I, Lg, P) 8 28 0 (r * 1) 1) := fun q k hm => ⟨g q k hm, rfl, rfl⟩
  have e5 : pI (zcp (zshC, I, Lg, P) 8 28 0 (r * 1) 1) 27 3 = (r : Int) := (pI_md gm (smem1n (by omega))).trans hr
  refine spq_ok (mi := 49) (fun _ => (r : Int)) adE27 (fun mi c h => nomatch h) (by omega) (sfm ⟨.ref 27, rfl, rfl⟩ (fun _ h => nomatch h)) (sA0_ok _) ⟨⟨e5, by show (0 : Int) ≤ r; omega, by show (r : Int) ≤ 5 - 1; omega⟩, trivial⟩ gi rfl (fun e he => nomatch he) ?_
  intro e he r' h' hp hi' hm'
  have e := List.mem_singleton.mp he
  subst e
  have hr' : r' = none := hp.1
  have m3 : pI h' 27 3 = (r : Int) + 1 := hp.2.2 (27, 3, 0, 1) List.mem_cons_self
  refine ⟨hr', hi', fun q k hm => ?_, m3, fun c hc => ?_⟩
  · have s1 : smem [(28, r * 1, r * 1 + 1)] q k = false := smem1n (fun g => by
      have : smem (adM27 r) q k = true := List.any_eq_true.mpr ⟨(28, r * 1, r * 1 + 1), List.mem_cons_of_mem _ List.mem_cons_self, by
        simp only [Bool.and_eq_true, beq_iff_eq, decide_eq_true_eq]
        exact ⟨g.1.symm, g.2⟩⟩
      rw [this] at hm
      cases hm)
    have s2 : smem [(27, 3, 4)] q k = false := smem1n (fun g => by
      have : smem (adM27 r) q k = true := List.any_eq_true.mpr ⟨(27, 3, 4), List.mem_cons_self, by
        simp only [Bool.and_eq_true, beq_iff_eq, decide_eq_true_eq]
        exact ⟨g.1.symm, g.2⟩⟩
      rw [this] at hm
      cases hm)
    have a := hm' q k s2
    have b := gm q k s1
    exact ⟨a.1.trans b.1, a.2.1.trans b.2.1, a.2.2.trans b.2.2⟩
  · rw [pI_md hm' (smem1n (by omega))]
    show (zur I 28 (va_cpy (I 8) (I 28) 0 (r * 1) 1) 28 (r * 1 + c)).toInt = (I 8 c).toInt
    rw [zur_at]
    unfold va_cpy
    rw [if_pos (by omega), show 0 + (r * 1 + c - r * 1) = c from by omega]
theorem zFin27 {l : Launch} {Γ : zG} {d : Nat} {D : zD} {q : Nat} {h : zH} (hi : sInv swC h) (hT : cTk D q h) (h0 : pI h 3 8 = 0) {r : Nat} (hr : pI h 27 3 = (r : Int)) (hlt : r < 5) : zSem l Γ false (d + 5) (zhd 47) [.ref 2, .ref 27] h (fun rr h' => rr = none ∧ sInv swC h' ∧ ∀ (KF : zKF) (KO : Nat → Prop), wEnd D q KF KO → (sMd [(3, 3, 10)] h h' ∧ ∃ c p, KF c p ∧ 1 ≤ c ∧ c ≤ 5 ∧ fC c p h') ∨ (sMd ((3, 3, 10) :: adM27 r) h h' ∧ (∃ q', KO q' ∧ pI h' 3 8 = 0 ∧ cTk D q' h') ∧ pI h' 27 3 = (r : Int) + 1 ∧ ∀ c, c < 1 → pI h' 28 (r * 1 + c) = pI h 8 c)) := by
  have es := hi.1
  obtain ⟨s, I, Lg, P⟩ := h
  have es : s = zshC := es
  subst es
  show zSem l Γ false (d + 4 + 1) zh47 _ _ _
  refine zbody (by decide +kernel) (by decide) ?_
  refine fnA0 (d := d + 3) ?_
  refine zcallR (mi := 47) (as := []) (rest := []) (q0 := 2) zv_fn0 rfl (by decide) (by rfl) ?_
  refine (zClsC (d := d) hi hT h0).mono ?_
  rintro rr h1 ⟨rfl, hi1, hm1, hw⟩
  have e8 : ∃ f : Bool, True := ⟨true, trivial⟩
  obtain ⟨s1, I1, Lg1, P1⟩ := h1
  have es1 : s1 = zshC := hi1.1
  subst es1
  have hP : P1 2 0 = some 3 := hi1.r1 (q := 2) (k := 0) (r := 3) (by decide +kernel)
  have hP2 : P1 2 2 = some 8 := hi1.r1 (q := 2) (k := 2) (r := 8) (by decide +kernel)
  have r1 : pI (zshC, I1, Lg1, P1) 27 3 = (r : Int) := (pI_md hm1 rfl).trans hr
  by_cases hz : I1 3 8 = 0
  · have z8 : pI (zshC, I1, Lg1, P1) 3 8 = 0 := by
      show (I1 3 8).toInt = 0
      rw [hz]
      decide
    refine fnB (d := d + 3) hP hP2 hz ?_
    refine zcallR (mi := 47) (as := [.ref 8]) (rest := []) (q0 := 27) zv_fn1 rfl (by decide) (by rfl) ?_
    refine (zAdd27 (d := d + 2) hi1 r1 hlt).mono ?_
    rintro rr2 h2 ⟨rfl, hi2, hm2, g1, g2⟩
    obtain ⟨s2, I2, Lg2, P2⟩ := h2
    have es2 : s2 = zshC := hi2.1
    subst es2
    refine fnC (d := d + 3) ⟨rfl, hi2, fun KF KO W => ?_⟩
    rcases hw KF KO W with ⟨c, p, _, c1, c2, f1, f2⟩ | ⟨q', W', f0, T'⟩
    · omega
    · have hs : ∀ q k, smem (adM27 r) q k = true → smem ((3, 3, 10) :: adM27 r) q k = true := fun q k hm => by
        obtain ⟨t, ht, hc⟩ := List.any_eq_true.mp hm
        exact List.any_eq_true.mpr ⟨t, List.mem_cons_of_mem _ ht, hc⟩
      have hs1 : ∀ q k, smem [(3, 3, 10)] q k = true → smem ((3, 3, 10) :: adM27 r) q k = true := fun q k hm => by
        obtain ⟨t, ht, hc⟩ := List.any_eq_true.mp hm
        have ht := List.mem_singleton.mp ht
        subst ht
        exact List.any_eq_true.mpr ⟨_, List.mem_cons_self, hc⟩
      have a3 : ∀ k, smem (adM27 r) 3 k = false := fun k => rfl
      have a1' : ∀ k, smem (adM27 r) 1 k = false := fun k => rfl
      refine Or.inr ⟨(sMd.rf.tr hm1 hs1).tr hm2 hs, ⟨q', W', (pI_md hm2 (a3 8)).trans f0, ?_⟩, g1, fun c hc => ?_⟩
      · obtain ⟨⟨t1, t2, t3, t4, t5, t6, t7, t8⟩, u1, u2, u3, u4, u5⟩ := T'
        refine ⟨⟨fun j hj => (pI_md hm2 (a1' j)).trans (t1 j hj), t2, ((hm2 3 1 (a3 1)).2.1).trans t3, (pI_md hm2 (a3 2)).trans t4, (pI_md hm2 (a3 3)).trans t5, t6, t7, fun e => (pI_md hm2 (a3 9)).trans (t8 ((pI_md hm2 (a3 8)).symm.trans e))⟩, u1, (pI_md hm2 (a3 4)).trans u2, (pI_md hm2 (a3 5)).trans u3, fun e => (pI_md hm2 (a3 6)).trans (u4 e), fun e => (pI_md hm2 (a3 7)).trans (u5 e)⟩
      · rw [g2 c hc]
        exact pI_md hm1 rfl
  · refine fnA (d := d + 3) hP hz ⟨rfl, hi1, fun KF KO W => ?_⟩
    rcases hw KF KO W with ⟨c, p, h1, c1, c2, f1⟩ | ⟨q', W', f0, T'⟩
    · exact Or.inl ⟨hm1, c, p, h1, c1, c2, f1⟩
    · exact absurd (deq (by rw [show (0 : Int32).toInt = 0 from by decide]; exact f0)) hz
theorem adE29 : spqB swC sT0 [(29, 3, 4)] 100 1 49 [(0, .inr (.inl 29))] sA0 [(29, (none, 3), (0, 8 - 1))] [] 39 [] [(none, sA0, [(29, 3, 0, 1)])] = true := by decide +kernel
def adM29 (r : Nat) : sM := [(29, 3, 4), (30, r * 6, r * 6 + 6)]
theorem zAdd29 {l : Launch} {Γ : zG} {d : Nat} {h : zH} (hi : sInv swC h) {r : Nat} (hr : pI h 29 3 = (r : Int)) (hlt : r < 8) : zSem l Γ false (d + 2) (zhd 49) [.ref 29, .ref 8] h (fun rr h' => rr = none ∧ sInv swC h' ∧ sMd (adM29 r) h h' ∧ pI h' 29 3 = (r : Int) + 1 ∧ ∀ c, c < 6 → pI h' 30 (r * 6 + c) = pI h 8 c) := by
  obtain ⟨s, I, Lg, P⟩ := h
  have es : s = zshC := hi.1
  subst es
  have hP : P 29 2 = some 30 := hi.r1 (q := 29) (k := 2) (r := 30) (by decide +kernel)
  have hr : (I 29 3).toInt = (r : Int) := hr
  have hm : (I 29 0).toInt = 8 := by
    have g := hi.2.2.1 29 0
    rw [show sIv swC 29 0 = (8, 8) from by decide +kernel] at g
    have g : 8 ≤ (I 29 0).toInt ∧ (I 29 0).toInt ≤ 8 := g
    omega
  have hw : (I 29 1).toInt = 6 := by
    have g := hi.2.2.1 29 1
    rw [show sIv swC 29 1 = (6, 6) from by decide +kernel] at g
    have g : 6 ≤ (I 29 1).toInt ∧ (I 29 1).toInt ≤ 6 := g
    omega
  have er : I 29 3 = Int32.ofNat r := iN (by omega) hr
  have ew : I 29 1 = Int32.ofNat 6 := iN (by decide) hw
  have e1 : I 29 3 * I 29 1 = Int32.ofNat (r * 6) := by rw [er, ew, ofN_mul]
  have e3 : (Int32.ofNat (r * 6)).toNatClampNeg = r * 6 := ofN_cl (by omega)
  have e4 : (I 29 1).toNatClampNeg = 6 := by rw [ew]; exact ofN_cl (by decide)
  show zSem l Γ false (d + 1 + 1) zh49 _ _ _
  refine zbody (by decide +kernel) (by decide) ?_
  refine adC29 hP e1 (dlt (by omega)) (dle (by rw [hw]; decide)) ⟨by decide, rfl, by decide, dltn (by rw [oN (by omega), show (0 : Int32).toInt = 0 from by decide]; omega), dltn (by rw [hw]; decide), by rw [e4]; decide, by rw [e3, e4]; omega⟩ ?_
  rw [e3, e4, show (Int32.ofInt 0).toNatClampNeg = 0 from by decide]
  have g : ∀ q k, smem [(30, r * 6, r * 6 + 6)] q k = false → zur I 30 (va_cpy (I 8) (I 30) 0 (r * 6) 6) q k = I q k := fun q k hm => by
    have hn := smem1f hm
    unfold zur
    split
    · rename_i e
      unfold va_cpy
      rw [if_neg (by omega), e]
    · rfl
  have gi : sInv swC (zcp (zshC, I, Lg, P) 8 30 0 (r * 6) 6) := sInv_set hi rfl rfl (md := [(30, r * 6, r * 6 + 6)]) g (fun q k hm => by
    obtain ⟨rfl, g1, g2⟩ := smem1 hm
    have e : sIv swC 30 k = (-2147483648, 2147483647) := by
      show sgAt [(48, -2147483648, 2147483647)] k = _
      simp only [sgAt]
      rw [if_pos (by omega)]
    rw [e]
    exact i32bd _) (fun m hmem k => nomatch hmem)
  have gm : sMd [(30, r * 6, r * 6 + 6)] (zshC, I, Lg, P) (zcp (zshC, I, Lg, P) 8 30 0 (r * 6) 6) := fun q k hm => ⟨g q k hm, rfl, rfl⟩
  have e5 : pI (zcp (zshC, I, Lg, P) 8 30 0 (r * 6) 6) 29 3 = (r : Int) := (pI_md gm (smem1n (by omega))).trans hr
  refine spq_ok (mi := 49) (fun _ => (r : Int)) adE29 (fun mi c h => nomatch h) (by omega) (sfm ⟨.ref 29, rfl, rfl⟩ (fun _ h => nomatch h)) (sA0_ok _) ⟨⟨e5, by show (0 : Int) ≤ r; omega, by show (r : Int) ≤ 8 - 1; omega⟩, trivial⟩ gi rfl (fun e he => nomatch he) ?_
  intro e he r' h' hp hi' hm'
  have e := List.mem_singleton.mp he
  subst e
  have hr' : r' = none := hp.1
  have m3 : pI h' 29 3 = (r : Int) + 1 := hp.2.2 (29, 3, 0, 1) List.mem_cons_self
  refine ⟨hr', hi', fun q k hm => ?_, m3, fun c hc => ?_⟩
  · have s1 : smem [(30, r * 6, r * 6 + 6)] q k = false := smem1n (fun g => by
      have : smem (adM29 r) q k = true := List.any_eq_true.mpr ⟨(30, r * 6, r * 6 + 6), List.mem_cons_of_mem _ List.mem_cons_self, by
        simp only [Bool.and_eq_true, beq_iff_eq, decide_eq_true_eq]
        exact ⟨g.1.symm, g.2⟩⟩
      rw [this] at hm
      cases hm)
    have s2 : smem [(29, 3, 4)] q k = false := smem1n (fun g => by
      have : smem (adM29 r) q k = true := List.any_eq_true.mpr ⟨(29, 3, 4), List.mem_cons_self, by
        simp only [Bool.and_eq_true, beq_iff_eq, decide_eq_true_eq]
        exact ⟨g.1.symm, g.2⟩⟩
      rw [this] at hm
      cases hm)
    have a := hm' q k s2
    have b := gm q k s1
    exact ⟨a.1.trans b.1, a.2.1.trans b.2.1, a.2.2.trans b.2.2⟩
  · rw [pI_md hm' (smem1n (by omega))]
    show (zur I 30 (va_cpy (I 8) (I 30) 0 (r * 6) 6) 30 (r * 6 + c)).toInt = (I 8 c).toInt
    rw [zur_at]
    unfold va_cpy
    rw [if_pos (by omega), show 0 + (r * 6 + c - r * 6) = c from by omega]
theorem zFin29 {l : Launch} {Γ : zG} {d : Nat} {D : zD} {q : Nat} {h : zH} (hi : sInv swC h) (hT : cTk D q h) (h0 : pI h 3 8 = 0) {r : Nat} (hr : pI h 29 3 = (r : Int)) (hlt : r < 8) : zSem l Γ false (d + 5) (zhd 47) [.ref 2, .ref 29] h (fun rr h' => rr = none ∧ sInv swC h' ∧ ∀ (KF : zKF) (KO : Nat → Prop), wEnd D q KF KO → (sMd [(3, 3, 10)] h h' ∧ ∃ c p, KF c p ∧ 1 ≤ c ∧ c ≤ 5 ∧ fC c p h') ∨ (sMd ((3, 3, 10) :: adM29 r) h h' ∧ (∃ q', KO q' ∧ pI h' 3 8 = 0 ∧ cTk D q' h') ∧ pI h' 29 3 = (r : Int) + 1 ∧ ∀ c, c < 6 → pI h' 30 (r * 6 + c) = pI h 8 c)) := by
  have es := hi.1
  obtain ⟨s, I, Lg, P⟩ := h
  have es : s = zshC := es
  subst es
  show zSem l Γ false (d + 4 + 1) zh47 _ _ _
  refine zbody (by decide +kernel) (by decide) ?_
  refine fnA0 (d := d + 3) ?_
  refine zcallR (mi := 47) (as := []) (rest := []) (q0 := 2) zv_fn0 rfl (by decide) (by rfl) ?_
  refine (zClsC (d := d) hi hT h0).mono ?_
  rintro rr h1 ⟨rfl, hi1, hm1, hw⟩
  have e8 : ∃ f : Bool, True := ⟨true, trivial⟩
  obtain ⟨s1, I1, Lg1, P1⟩ := h1
  have es1 : s1 = zshC := hi1.1
  subst es1
  have hP : P1 2 0 = some 3 := hi1.r1 (q := 2) (k := 0) (r := 3) (by decide +kernel)
  have hP2 : P1 2 2 = some 8 := hi1.r1 (q := 2) (k := 2) (r := 8) (by decide +kernel)
  have r1 : pI (zshC, I1, Lg1, P1) 29 3 = (r : Int) := (pI_md hm1 rfl).trans hr
  by_cases hz : I1 3 8 = 0
  · have z8 : pI (zshC, I1, Lg1, P1) 3 8 = 0 := by
      show (I1 3 8).toInt = 0
      rw [hz]
      decide
    refine fnB (d := d + 3) hP hP2 hz ?_
    refine zcallR (mi := 47) (as := [.ref 8]) (rest := []) (q0 := 29) zv_fn1 rfl (by decide) (by rfl) ?_
    refine (zAdd29 (d := d + 2) hi1 r1 hlt).mono ?_
    rintro rr2 h2 ⟨rfl, hi2, hm2, g1, g2⟩
    obtain ⟨s2, I2, Lg2, P2⟩ := h2
    have es2 : s2 = zshC := hi2.1
    subst es2
    refine fnC (d := d + 3) ⟨rfl, hi2, fun KF KO W => ?_⟩
    rcases hw KF KO W with ⟨c, p, _, c1, c2, f1, f2⟩ | ⟨q', W', f0, T'⟩
    · omega
    · have hs : ∀ q k, smem (adM29 r) q k = true → smem ((3, 3, 10) :: adM29 r) q k = true := fun q k hm => by
        obtain ⟨t, ht, hc⟩ := List.any_eq_true.mp hm
        exact List.any_eq_true.mpr ⟨t, List.mem_cons_of_mem _ ht, hc⟩
      have hs1 : ∀ q k, smem [(3, 3, 10)] q k = true → smem ((3, 3, 10) :: adM29 r) q k = true := fun q k hm => by
        obtain ⟨t, ht, hc⟩ := List.any_eq_true.mp hm
        have ht := List.mem_singleton.mp ht
        subst ht
        exact List.any_eq_true.mpr ⟨_, List.mem_cons_self, hc⟩
      have a3 : ∀ k, smem (adM29 r) 3 k = false := fun k => rfl
      have a1' : ∀ k, smem (adM29 r) 1 k = false := fun k => rfl
      refine Or.inr ⟨(sMd.rf.tr hm1 hs1).tr hm2 hs, ⟨q', W', (pI_md hm2 (a3 8)).trans f0, ?_⟩, g1, fun c hc => ?_⟩
      · obtain ⟨⟨t1, t2, t3, t4, t5, t6, t7, t8⟩, u1, u2, u3, u4, u5⟩ := T'
        refine ⟨⟨fun j hj => (pI_md hm2 (a1' j)).trans (t1 j hj), t2, ((hm2 3 1 (a3 1)).2.1).trans t3, (pI_md hm2 (a3 2)).trans t4, (pI_md hm2 (a3 3)).trans t5, t6, t7, fun e => (pI_md hm2 (a3 9)).trans (t8 ((pI_md hm2 (a3 8)).symm.trans e))⟩, u1, (pI_md hm2 (a3 4)).trans u2, (pI_md hm2 (a3 5)).trans u3, fun e => (pI_md hm2 (a3 6)).trans (u4 e), fun e => (pI_md hm2 (a3 7)).trans (u5 e)⟩
      · rw [g2 c hc]
        exact pI_md hm1 rfl
  · refine fnA (d := d + 3) hP hz ⟨rfl, hi1, fun KF KO W => ?_⟩
    rcases hw KF KO W with ⟨c, p, h1, c1, c2, f1⟩ | ⟨q', W', f0, T'⟩
    · exact Or.inl ⟨hm1, c, p, h1, c1, c2, f1⟩
    · exact absurd (deq (by rw [show (0 : Int32).toInt = 0 from by decide]; exact f0)) hz
theorem adE31 : spqB swC sT0 [(31, 3, 4)] 100 1 49 [(0, .inr (.inl 31))] sA0 [(31, (none, 3), (0, 10 - 1))] [] 39 [] [(none, sA0, [(31, 3, 0, 1)])] = true := by decide +kernel
def adM31 (r : Nat) : sM := [(31, 3, 4), (32, r * 2, r * 2 + 2)]
theorem zAdd31 {l : Launch} {Γ : zG} {d : Nat} {h : zH} (hi : sInv swC h) {r : Nat} (hr : pI h 31 3 = (r : Int)) (hlt : r < 10) : zSem l Γ false (d + 2) (zhd 49) [.ref 31, .ref 8] h (fun rr h' => rr = none ∧ sInv swC h' ∧ sMd (adM31 r) h h' ∧ pI h' 31 3 = (r : Int) + 1 ∧ ∀ c, c < 2 → pI h' 32 (r * 2 + c) = pI h 8 c) := by
  obtain ⟨s, I, Lg, P⟩ := h
  have es : s = zshC := hi.1
  subst es
  have hP : P 31 2 = some 32 := hi.r1 (q := 31) (k := 2) (r := 32) (by decide +kernel)
  have hr : (I 31 3).toInt = (r : Int) := hr
  have hm : (I 31 0).toInt = 10 := by
    have g := hi.2.2.1 31 0
    rw [show sIv swC 31 0 = (10, 10) from by decide +kernel] at g
    have g : 10 ≤ (I 31 0).toInt ∧ (I 31 0).toInt ≤ 10 := g
    omega
  have hw : (I 31 1).toInt = 2 := by
    have g := hi.2.2.1 31 1
    rw [show sIv swC 31 1 = (2, 2) from by decide +kernel] at g
    have g : 2 ≤ (I 31 1).toInt ∧ (I 31 1).toInt ≤ 2 := g
    omega
  have er : I 31 3 = Int32.ofNat r := iN (by omega) hr
  have ew : I 31 1 = Int32.ofNat 2 := iN (by decide) hw
  have e1 : I 31 3 * I 31 1 = Int32.ofNat (r * 2) := by rw [er, ew, ofN_mul]
  have e3 : (Int32.ofNat (r * 2)).toNatClampNeg = r * 2 := ofN_cl (by omega)
  have e4 : (I 31 1).toNatClampNeg = 2 := by rw [ew]; exact ofN_cl (by decide)
  show zSem l Γ false (d + 1 + 1) zh49 _ _ _
  refine zbody (by decide +kernel) (by decide) ?_
  refine adC31 hP e1 (dlt (by omega)) (dle (by rw [hw]; decide)) ⟨by decide, rfl, by decide, dltn (by rw [oN (by omega), show (0 : Int32).toInt = 0 from by decide]; omega), dltn (by rw [hw]; decide), by rw [e4]; decide, by rw [e3, e4]; omega⟩ ?_
  rw [e3, e4, show (Int32.ofInt 0).toNatClampNeg = 0 from by decide]
  have g : ∀ q k, smem [(32, r * 2, r * 2 + 2)] q k = false → zur I 32 (va_cpy (I 8) (I 32) 0 (r * 2) 2) q k = I q k := fun q k hm => by
    have hn := smem1f hm
    unfold zur
    split
    · rename_i e
      unfold va_cpy
      rw [if_neg (by omega), e]
    · rfl
  have gi : sInv swC (zcp (zshC, I, Lg, P) 8 32 0 (r * 2) 2) := sInv_set hi rfl rfl (md := [(32, r * 2, r * 2 + 2)]) g (fun q k hm => by
    obtain ⟨rfl, g1, g2⟩ := smem1 hm
    have e : sIv swC 32 k = (-2147483648, 2147483647) := by
      show sgAt [(20, -2147483648, 2147483647)] k = _
      simp only [sgAt]
      rw [if_pos (by omega)]
    rw [e]
    exact i32bd _) (fun m hmem k => nomatch hmem)
  have gm : sMd [(32, r * 2, r * 2 + 2)] (zshC, I, Lg, P) (zcp (zshC, I, Lg, P) 8 32 0 (r * 2) 2) := fun q k hm => ⟨g q k hm, rfl, rfl⟩
  have e5 : pI (zcp (zshC, I, Lg, P) 8 32 0 (r * 2) 2) 31 3 = (r : Int) := (pI_md gm (smem1n (by omega))).trans hr
  refine spq_ok (mi := 49) (fun _ => (r : Int)) adE31 (fun mi c h => nomatch h) (by omega) (sfm ⟨.ref 31, rfl, rfl⟩ (fun _ h => nomatch h)) (sA0_ok _) ⟨⟨e5, by show (0 : Int) ≤ r; omega, by show (r : Int) ≤ 10 - 1; omega⟩, trivial⟩ gi rfl (fun e he => nomatch he) ?_
  intro e he r' h' hp hi' hm'
  have e := List.mem_singleton.mp he
  subst e
  have hr' : r' = none := hp.1
  have m3 : pI h' 31 3 = (r : Int) + 1 := hp.2.2 (31, 3, 0, 1) List.mem_cons_self
  refine ⟨hr', hi', fun q k hm => ?_, m3, fun c hc => ?_⟩
  · have s1 : smem [(32, r * 2, r * 2 + 2)] q k = false := smem1n (fun g => by
      have : smem (adM31 r) q k = true := List.any_eq_true.mpr ⟨(32, r * 2, r * 2 + 2), List.mem_cons_of_mem _ List.mem_cons_self, by
        simp only [Bool.and_eq_true, beq_iff_eq, decide_eq_true_eq]
        exact ⟨g.1.symm, g.2⟩⟩
      rw [this] at hm
      cases hm)
    have s2 : smem [(31, 3, 4)] q k = false := smem1n (fun g => by
      have : smem (adM31 r) q k = true := List.any_eq_true.mpr ⟨(31, 3, 4), List.mem_cons_self, by
        simp only [Bool.and_eq_true, beq_iff_eq, decide_eq_true_eq]
        exact ⟨g.1.symm, g.2⟩⟩
      rw [this] at hm
      cases hm)
    have a := hm' q k s2
    have b := gm q k s1
    exact ⟨a.1.trans b.1, a.2.1.trans b.2.1, a.2.2.trans b.2.2⟩
  · rw [pI_md hm' (smem1n (by omega))]
    show (zur I 32 (va_cpy (I 8) (I 32) 0 (r * 2) 2) 32 (r * 2 + c)).toInt = (I 8 c).toInt
    rw [zur_at]
    unfold va_cpy
    rw [if_pos (by omega), show 0 + (r * 2 + c - r * 2) = c from by omega]
theorem zFin31 {l : Launch} {Γ : zG} {d : Nat} {D : zD} {q : Nat} {h : zH} (hi : sInv swC h) (hT : cTk D q h) (h0 : pI h 3 8 = 0) {r : Nat} (hr : pI h 31 3 = (r : Int)) (hlt : r < 10) : zSem l Γ false (d + 5) (zhd 47) [.ref 2, .ref 31] h (fun rr h' => rr = none ∧ sInv swC h' ∧ ∀ (KF : zKF) (KO : Nat → Prop), wEnd D q KF KO → (sMd [(3, 3, 10)] h h' ∧ ∃ c p, KF c p ∧ 1 ≤ c ∧ c ≤ 5 ∧ fC c p h') ∨ (sMd ((3, 3, 10) :: adM31 r) h h' ∧ (∃ q', KO q' ∧ pI h' 3 8 = 0 ∧ cTk D q' h') ∧ pI h' 31 3 = (r : Int) + 1 ∧ ∀ c, c < 2 → pI h' 32 (r * 2 + c) = pI h 8 c)) := by
  have es := hi.1
  obtain ⟨s, I, Lg, P⟩ := h
  have es : s = zshC := es
  subst es
  show zSem l Γ false (d + 4 + 1) zh47 _ _ _
  refine zbody (by decide +kernel) (by decide) ?_
  refine fnA0 (d := d + 3) ?_
  refine zcallR (mi := 47) (as := []) (rest := []) (q0 := 2) zv_fn0 rfl (by decide) (by rfl) ?_
  refine (zClsC (d := d) hi hT h0).mono ?_
  rintro rr h1 ⟨rfl, hi1, hm1, hw⟩
  have e8 : ∃ f : Bool, True := ⟨true, trivial⟩
  obtain ⟨s1, I1, Lg1, P1⟩ := h1
  have es1 : s1 = zshC := hi1.1
  subst es1
  have hP : P1 2 0 = some 3 := hi1.r1 (q := 2) (k := 0) (r := 3) (by decide +kernel)
  have hP2 : P1 2 2 = some 8 := hi1.r1 (q := 2) (k := 2) (r := 8) (by decide +kernel)
  have r1 : pI (zshC, I1, Lg1, P1) 31 3 = (r : Int) := (pI_md hm1 rfl).trans hr
  by_cases hz : I1 3 8 = 0
  · have z8 : pI (zshC, I1, Lg1, P1) 3 8 = 0 := by
      show (I1 3 8).toInt = 0
      rw [hz]
      decide
    refine fnB (d := d + 3) hP hP2 hz ?_
    refine zcallR (mi := 47) (as := [.ref 8]) (rest := []) (q0 := 31) zv_fn1 rfl (by decide) (by rfl) ?_
    refine (zAdd31 (d := d + 2) hi1 r1 hlt).mono ?_
    rintro rr2 h2 ⟨rfl, hi2, hm2, g1, g2⟩
    obtain ⟨s2, I2, Lg2, P2⟩ := h2
    have es2 : s2 = zshC := hi2.1
    subst es2
    refine fnC (d := d + 3) ⟨rfl, hi2, fun KF KO W => ?_⟩
    rcases hw KF KO W with ⟨c, p, _, c1, c2, f1, f2⟩ | ⟨q', W', f0, T'⟩
    · omega
    · have hs : ∀ q k, smem (adM31 r) q k = true → smem ((3, 3, 10) :: adM31 r) q k = true := fun q k hm => by
        obtain ⟨t, ht, hc⟩ := List.any_eq_true.mp hm
        exact List.any_eq_true.mpr ⟨t, List.mem_cons_of_mem _ ht, hc⟩
      have hs1 : ∀ q k, smem [(3, 3, 10)] q k = true → smem ((3, 3, 10) :: adM31 r) q k = true := fun q k hm => by
        obtain ⟨t, ht, hc⟩ := List.any_eq_true.mp hm
        have ht := List.mem_singleton.mp ht
        subst ht
        exact List.any_eq_true.mpr ⟨_, List.mem_cons_self, hc⟩
      have a3 : ∀ k, smem (adM31 r) 3 k = false := fun k => rfl
      have a1' : ∀ k, smem (adM31 r) 1 k = false := fun k => rfl
      refine Or.inr ⟨(sMd.rf.tr hm1 hs1).tr hm2 hs, ⟨q', W', (pI_md hm2 (a3 8)).trans f0, ?_⟩, g1, fun c hc => ?_⟩
      · obtain ⟨⟨t1, t2, t3, t4, t5, t6, t7, t8⟩, u1, u2, u3, u4, u5⟩ := T'
        refine ⟨⟨fun j hj => (pI_md hm2 (a1' j)).trans (t1 j hj), t2, ((hm2 3 1 (a3 1)).2.1).trans t3, (pI_md hm2 (a3 2)).trans t4, (pI_md hm2 (a3 3)).trans t5, t6, t7, fun e => (pI_md hm2 (a3 9)).trans (t8 ((pI_md hm2 (a3 8)).symm.trans e))⟩, u1, (pI_md hm2 (a3 4)).trans u2, (pI_md hm2 (a3 5)).trans u3, fun e => (pI_md hm2 (a3 6)).trans (u4 e), fun e => (pI_md hm2 (a3 7)).trans (u5 e)⟩
      · rw [g2 c hc]
        exact pI_md hm1 rfl
  · refine fnA (d := d + 3) hP hz ⟨rfl, hi1, fun KF KO W => ?_⟩
    rcases hw KF KO W with ⟨c, p, h1, c1, c2, f1⟩ | ⟨q', W', f0, T'⟩
    · exact Or.inl ⟨hm1, c, p, h1, c1, c2, f1⟩
    · exact absurd (deq (by rw [show (0 : Int32).toInt = 0 from by decide]; exact f0)) hz
theorem adE33 : spqB swC sT0 [(33, 3, 4)] 100 1 49 [(0, .inr (.inl 33))] sA0 [(33, (none, 3), (0, 10 - 1))] [] 39 [] [(none, sA0, [(33, 3, 0, 1)])] = true := by decide +kernel
def adM33 (r : Nat) : sM := [(33, 3, 4), (34, r * 4, r * 4 + 4)]
theorem zAdd33 {l : Launch} {Γ : zG} {d : Nat} {h : zH} (hi : sInv swC h) {r : Nat} (hr : pI h 33 3 = (r : Int)) (hlt : r < 10) : zSem l Γ false (d + 2) (zhd 49) [.ref 33, .ref 8] h (fun rr h' => rr = none ∧ sInv swC h' ∧ sMd (adM33 r) h h' ∧ pI h' 33 3 = (r : Int) + 1 ∧ ∀ c, c < 4 → pI h' 34 (r * 4 + c) = pI h 8 c) := by
  obtain ⟨s, I, Lg, P⟩ := h
  have es : s = zshC := hi.1
  subst es
  have hP : P 33 2 = some 34 := hi.r1 (q := 33) (k := 2) (r := 34) (by decide +kernel)
  have hr : (I 33 3).toInt = (r : Int) := hr
  have hm : (I 33 0).toInt = 10 := by
    have g := hi.2.2.1 33 0
    rw [show sIv swC 33 0 = (10, 10) from by decide +kernel] at g
    have g : 10 ≤ (I 33 0).toInt ∧ (I 33 0).toInt ≤ 10 := g
    omega
  have hw : (I 33 1).toInt = 4 := by
    have g := hi.2.2.1 33 1
    rw [show sIv swC 33 1 = (4, 4) from by decide +kernel] at g
    have g : 4 ≤ (I 33 1).toInt ∧ (I 33 1).toInt ≤ 4 := g
    omega
  have er : I 33 3 = Int32.ofNat r := iN (by omega) hr
  have ew : I 33 1 = Int32.ofNat 4 := iN (by decide) hw
  have e1 : I 33 3 * I 33 1 = Int32.ofNat (r * 4) := by rw [er, ew, ofN_mul]
  have e3 : (Int32.ofNat (r * 4)).toNatClampNeg = r * 4 := ofN_cl (by omega)
  have e4 : (I 33 1).toNatClampNeg = 4 := by rw [ew]; exact ofN_cl (by decide)
  show zSem l Γ false (d + 1 + 1) zh49 _ _ _
  refine zbody (by decide +kernel) (by decide) ?_
  refine adC33 hP e1 (dlt (by omega)) (dle (by rw [hw]; decide)) ⟨by decide, rfl, by decide, dltn (by rw [oN (by omega), show (0 : Int32).toInt = 0 from by decide]; omega), dltn (by rw [hw]; decide), by rw [e4]; decide, by rw [e3, e4]; omega⟩ ?_
  rw [e3, e4, show (Int32.ofInt 0).toNatClampNeg = 0 from by decide]
  have g : ∀ q k, smem [(34, r * 4, r * 4 + 4)] q k = false → zur I 34 (va_cpy (I 8) (I 34) 0 (r * 4) 4) q k = I q k := fun q k hm => by
    have hn := smem1f hm
    unfold zur
    split
    · rename_i e
      unfold va_cpy
      rw [if_neg (by omega), e]
    · rfl
  have gi : sInv swC (zcp (zshC, I, Lg, P) 8 34 0 (r * 4) 4) := sInv_set hi rfl rfl (md := [(34, r * 4, r * 4 + 4)]) g (fun q k hm => by
    obtain ⟨rfl, g1, g2⟩ := smem1 hm
    have e : sIv swC 34 k = (-2147483648, 2147483647) := by
      show sgAt [(40, -2147483648, 2147483647)] k = _
      simp only [sgAt]
      rw [if_pos (by omega)]
    rw [e]
    exact i32bd _) (fun m hmem k => nomatch hmem)
  have gm : sMd [(34, r * 4, r * 4 + 4)] (zshC, I, Lg, P) (zcp (zshC, I, Lg, P) 8 34 0 (r * 4) 4) := fun q k hm => ⟨g q k hm, rfl, rfl⟩
  have e5 : pI (zcp (zshC, I, Lg, P) 8 34 0 (r * 4) 4) 33 3 = (r : Int) := (pI_md gm (smem1n (by omega))).trans hr
  refine spq_ok (mi := 49) (fun _ => (r : Int)) adE33 (fun mi c h => nomatch h) (by omega) (sfm ⟨.ref 33, rfl, rfl⟩ (fun _ h => nomatch h)) (sA0_ok _) ⟨⟨e5, by show (0 : Int) ≤ r; omega, by show (r : Int) ≤ 10 - 1; omega⟩, trivial⟩ gi rfl (fun e he => nomatch he) ?_
  intro e he r' h' hp hi' hm'
  have e := List.mem_singleton.mp he
  subst e
  have hr' : r' = none := hp.1
  have m3 : pI h' 33 3 = (r : Int) + 1 := hp.2.2 (33, 3, 0, 1) List.mem_cons_self
  refine ⟨hr', hi', fun q k hm => ?_, m3, fun c hc => ?_⟩
  · have s1 : smem [(34, r * 4, r * 4 + 4)] q k = false := smem1n (fun g => by
      have : smem (adM33 r) q k = true := List.any_eq_true.mpr ⟨(34, r * 4, r * 4 + 4), List.mem_cons_of_mem _ List.mem_cons_self, by
        simp only [Bool.and_eq_true, beq_iff_eq, decide_eq_true_eq]
        exact ⟨g.1.symm, g.2⟩⟩
      rw [this] at hm
      cases hm)
    have s2 : smem [(33, 3, 4)] q k = false := smem1n (fun g => by
      have : smem (adM33 r) q k = true := List.any_eq_true.mpr ⟨(33, 3, 4), List.mem_cons_self, by
        simp only [Bool.and_eq_true, beq_iff_eq, decide_eq_true_eq]
        exact ⟨g.1.symm, g.2⟩⟩
      rw [this] at hm
      cases hm)
    have a := hm' q k s2
    have b := gm q k s1
    exact ⟨a.1.trans b.1, a.2.1.trans b.2.1, a.2.2.trans b.2.2⟩
  · rw [pI_md hm' (smem1n (by omega))]
    show (zur I 34 (va_cpy (I 8) (I 34) 0 (r * 4) 4) 34 (r * 4 + c)).toInt = (I 8 c).toInt
    rw [zur_at]
    unfold va_cpy
    rw [if_pos (by omega), show 0 + (r * 4 + c - r * 4) = c from by omega]
theorem zFin33 {l : Launch} {Γ : zG} {d : Nat} {D : zD} {q : Nat} {h : zH} (hi : sInv swC h) (hT : cTk D q h) (h0 : pI h 3 8 = 0) {r : Nat} (hr : pI h 33 3 = (r : Int)) (hlt : r < 10) : zSem l Γ false (d + 5) (zhd 47) [.ref 2, .ref 33] h (fun rr h' => rr = none ∧ sInv swC h' ∧ ∀ (KF : zKF) (KO : Nat → Prop), wEnd D q KF KO → (sMd [(3, 3, 10)] h h' ∧ ∃ c p, KF c p ∧ 1 ≤ c ∧ c ≤ 5 ∧ fC c p h') ∨ (sMd ((3, 3, 10) :: adM33 r) h h' ∧ (∃ q', KO q' ∧ pI h' 3 8 = 0 ∧ cTk D q' h') ∧ pI h' 33 3 = (r : Int) + 1 ∧ ∀ c, c < 4 → pI h' 34 (r * 4 + c) = pI h 8 c)) := by
  have es := hi.1
  obtain ⟨s, I, Lg, P⟩ := h
  have es : s = zshC := es
  subst es
  show zSem l Γ false (d + 4 + 1) zh47 _ _ _
  refine zbody (by decide +kernel) (by decide) ?_
  refine fnA0 (d := d + 3) ?_
  refine zcallR (mi := 47) (as := []) (rest := []) (q0 := 2) zv_fn0 rfl (by decide) (by rfl) ?_
  refine (zClsC (d := d) hi hT h0).mono ?_
  rintro rr h1 ⟨rfl, hi1, hm1, hw⟩
  have e8 : ∃ f : Bool, True := ⟨true, trivial⟩
  obtain ⟨s1, I1, Lg1, P1⟩ := h1
  have es1 : s1 = zshC := hi1.1
  subst es1
  have hP : P1 2 0 = some 3 := hi1.r1 (q := 2) (k := 0) (r := 3) (by decide +kernel)
  have hP2 : P1 2 2 = some 8 := hi1.r1 (q := 2) (k := 2) (r := 8) (by decide +kernel)
  have r1 : pI (zshC, I1, Lg1, P1) 33 3 = (r : Int) := (pI_md hm1 rfl).trans hr
  by_cases hz : I1 3 8 = 0
  · have z8 : pI (zshC, I1, Lg1, P1) 3 8 = 0 := by
      show (I1 3 8).toInt = 0
      rw [hz]
      decide
    refine fnB (d := d + 3) hP hP2 hz ?_
    refine zcallR (mi := 47) (as := [.ref 8]) (rest := []) (q0 := 33) zv_fn1 rfl (by decide) (by rfl) ?_
    refine (zAdd33 (d := d + 2) hi1 r1 hlt).mono ?_
    rintro rr2 h2 ⟨rfl, hi2, hm2, g1, g2⟩
    obtain ⟨s2, I2, Lg2, P2⟩ := h2
    have es2 : s2 = zshC := hi2.1
    subst es2
    refine fnC (d := d + 3) ⟨rfl, hi2, fun KF KO W => ?_⟩
    rcases hw KF KO W with ⟨c, p, _, c1, c2, f1, f2⟩ | ⟨q', W', f0, T'⟩
    · omega
    · have hs : ∀ q k, smem (adM33 r) q k = true → smem ((3, 3, 10) :: adM33 r) q k = true := fun q k hm => by
        obtain ⟨t, ht, hc⟩ := List.any_eq_true.mp hm
        exact List.any_eq_true.mpr ⟨t, List.mem_cons_of_mem _ ht, hc⟩
      have hs1 : ∀ q k, smem [(3, 3, 10)] q k = true → smem ((3, 3, 10) :: adM33 r) q k = true := fun q k hm => by
        obtain ⟨t, ht, hc⟩ := List.any_eq_true.mp hm
        have ht := List.mem_singleton.mp ht
        subst ht
        exact List.any_eq_true.mpr ⟨_, List.mem_cons_self, hc⟩
      have a3 : ∀ k, smem (adM33 r) 3 k = false := fun k => rfl
      have a1' : ∀ k, smem (adM33 r) 1 k = false := fun k => rfl
      refine Or.inr ⟨(sMd.rf.tr hm1 hs1).tr hm2 hs, ⟨q', W', (pI_md hm2 (a3 8)).trans f0, ?_⟩, g1, fun c hc => ?_⟩
      · obtain ⟨⟨t1, t2, t3, t4, t5, t6, t7, t8⟩, u1, u2, u3, u4, u5⟩ := T'
        refine ⟨⟨fun j hj => (pI_md hm2 (a1' j)).trans (t1 j hj), t2, ((hm2 3 1 (a3 1)).2.1).trans t3, (pI_md hm2 (a3 2)).trans t4, (pI_md hm2 (a3 3)).trans t5, t6, t7, fun e => (pI_md hm2 (a3 9)).trans (t8 ((pI_md hm2 (a3 8)).symm.trans e))⟩, u1, (pI_md hm2 (a3 4)).trans u2, (pI_md hm2 (a3 5)).trans u3, fun e => (pI_md hm2 (a3 6)).trans (u4 e), fun e => (pI_md hm2 (a3 7)).trans (u5 e)⟩
      · rw [g2 c hc]
        exact pI_md hm1 rfl
  · refine fnA (d := d + 3) hP hz ⟨rfl, hi1, fun KF KO W => ?_⟩
    rcases hw KF KO W with ⟨c, p, h1, c1, c2, f1⟩ | ⟨q', W', f0, T'⟩
    · exact Or.inl ⟨hm1, c, p, h1, c1, c2, f1⟩
    · exact absurd (deq (by rw [show (0 : Int32).toInt = 0 from by decide]; exact f0)) hz
theorem adE35 : spqB swC sT0 [(35, 3, 4)] 100 1 49 [(0, .inr (.inl 35))] sA0 [(35, (none, 3), (0, 6 - 1))] [] 39 [] [(none, sA0, [(35, 3, 0, 1)])] = true := by decide +kernel
def adM35 (r : Nat) : sM := [(35, 3, 4), (36, r * 1, r * 1 + 1)]
theorem zAdd35 {l : Launch} {Γ : zG} {d : Nat} {h : zH} (hi : sInv swC h) {r : Nat} (hr : pI h 35 3 = (r : Int)) (hlt : r < 6) : zSem l Γ false (d + 2) (zhd 49) [.ref 35, .ref 8] h (fun rr h' => rr = none ∧ sInv swC h' ∧ sMd (adM35 r) h h' ∧ pI h' 35 3 = (r : Int) + 1 ∧ ∀ c, c < 1 → pI h' 36 (r * 1 + c) = pI h 8 c) := by
  obtain ⟨s, I, Lg, P⟩ := h
  have es : s = zshC := hi.1
  subst es
  have hP : P 35 2 = some 36 := hi.r1 (q := 35) (k := 2) (r := 36) (by decide +kernel)
  have hr : (I 35 3).toInt = (r : Int) := hr
  have hm : (I 35 0).toInt = 6 := by
    have g := hi.2.2.1 35 0
    rw [show sIv swC 35 0 = (6, 6) from by decide +kernel] at g
    have g : 6 ≤ (I 35 0).toInt ∧ (I 35 0).toInt ≤ 6 := g
    omega
  have hw : (I 35 1).toInt = 1 := by
    have g := hi.2.2.1 35 1
    rw [show sIv swC 35 1 = (1, 1) from by decide +kernel] at g
    have g : 1 ≤ (I 35 1).toInt ∧ (I 35 1).toInt ≤ 1 := g
    omega
  have er : I 35 3 = Int32.ofNat r := iN (by omega) hr
  have ew : I 35 1 = Int32.ofNat 1 := iN (by decide) hw
  have e1 : I 35 3 * I 35 1 = Int32.ofNat (r * 1) := by rw [er, ew, ofN_mul]
  have e3 : (Int32.ofNat (r * 1)).toNatClampNeg = r * 1 := ofN_cl (by omega)
  have e4 : (I 35 1).toNatClampNeg = 1 := by rw [ew]; exact ofN_cl (by decide)
  show zSem l Γ false (d + 1 + 1) zh49 _ _ _
  refine zbody (by decide +kernel) (by decide) ?_
  refine adC35 hP e1 (dlt (by omega)) (dle (by rw [hw]; decide)) ⟨by decide, rfl, by decide, dltn (by rw [oN (by omega), show (0 : Int32).toInt = 0 from by decide]; omega), dltn (by rw [hw]; decide), by rw [e4]; decide, by rw [e3, e4]; omega⟩ ?_
  rw [e3, e4, show (Int32.ofInt 0).toNatClampNeg = 0 from by decide]
  have g : ∀ q k, smem [(36, r * 1, r * 1 + 1)] q k = false → zur I 36 (va_cpy (I 8) (I 36) 0 (r * 1) 1) q k = I q k := fun q k hm => by
    have hn := smem1f hm
    unfold zur
    split
    · rename_i e
      unfold va_cpy
      rw [if_neg (by omega), e]
    · rfl
  have gi : sInv swC (zcp (zshC, I, Lg, P) 8 36 0 (r * 1) 1) := sInv_set hi rfl rfl (md := [(36, r * 1, r * 1 + 1)]) g (fun q k hm => by
    obtain ⟨rfl, g1, g2⟩ := smem1 hm
    have e : sIv swC 36 k = (-2147483648, 2147483647) := by
      show sgAt [(6, -2147483648, 2147483647)] k = _
      simp only [sgAt]
      rw [if_pos (by omega)]
    rw [e]
    exact i32bd _) (fun m hmem k => nomatch hmem)
  have gm : sMd [(36, r * 1, r * 1 + 1)] (zshC, I, Lg, P) (zcp (zshC, I, Lg, P) 8 36 0 (r * 1) 1) := fun q k hm => ⟨g q k hm, rfl, rfl⟩
  have e5 : pI (zcp (zshC, I, Lg, P) 8 36 0 (r * 1) 1) 35 3 = (r : Int) := (pI_md gm (smem1n (by omega))).trans hr
  refine spq_ok (mi := 49) (fun _ => (r : Int)) adE35 (fun mi c h => nomatch h) (by omega) (sfm ⟨.ref 35, rfl, rfl⟩ (fun _ h => nomatch h)) (sA0_ok _) ⟨⟨e5, by show (0 : Int) ≤ r; omega, by show (r : Int) ≤ 6 - 1; omega⟩, trivial⟩ gi rfl (fun e he => nomatch he) ?_
  intro e he r' h' hp hi' hm'
  have e := List.mem_singleton.mp he
  subst e
  have hr' : r' = none := hp.1
  have m3 : pI h' 35 3 = (r : Int) + 1 := hp.2.2 (35, 3, 0, 1) List.mem_cons_self
  refine ⟨hr', hi', fun q k hm => ?_, m3, fun c hc => ?_⟩
  · have s1 : smem [(36, r * 1, r * 1 + 1)] q k = false := smem1n (fun g => by
      have : smem (adM35 r) q k = true := List.any_eq_true.mpr ⟨(36, r * 1, r * 1 + 1), List.mem_cons_of_mem _ List.mem_cons_self, by
        simp only [Bool.and_eq_true, beq_iff_eq, decide_eq_true_eq]
        exact ⟨g.1.symm, g.2⟩⟩
      rw [this] at hm
      cases hm)
    have s2 : smem [(35, 3, 4)] q k = false := smem1n (fun g => by
      have : smem (adM35 r) q k = true := List.any_eq_true.mpr ⟨(35, 3, 4), List.mem_cons_self, by
        simp only [Bool.and_eq_true, beq_iff_eq, decide_eq_true_eq]
        exact ⟨g.1.symm, g.2⟩⟩
      rw [this] at hm
      cases hm)
    have a := hm' q k s2
    have b := gm q k s1
    exact ⟨a.1.trans b.1, a.2.1.trans b.2.1, a.2.2.trans b.2.2⟩
  · rw [pI_md hm' (smem1n (by omega))]
    show (zur I 36 (va_cpy (I 8) (I 36) 0 (r * 1) 1) 36 (r * 1 + c)).toInt = (I 8 c).toInt
    rw [zur_at]
    unfold va_cpy
    rw [if_pos (by omega), show 0 + (r * 1 + c - r * 1) = c from by omega]
theorem zFin35 {l : Launch} {Γ : zG} {d : Nat} {D : zD} {q : Nat} {h : zH} (hi : sInv swC h) (hT : cTk D q h) (h0 : pI h 3 8 = 0) {r : Nat} (hr : pI h 35 3 = (r : Int)) (hlt : r < 6) : zSem l Γ false (d + 5) (zhd 47) [.ref 2, .ref 35] h (fun rr h' => rr = none ∧ sInv swC h' ∧ ∀ (KF : zKF) (KO : Nat → Prop), wEnd D q KF KO → (sMd [(3, 3, 10)] h h' ∧ ∃ c p, KF c p ∧ 1 ≤ c ∧ c ≤ 5 ∧ fC c p h') ∨ (sMd ((3, 3, 10) :: adM35 r) h h' ∧ (∃ q', KO q' ∧ pI h' 3 8 = 0 ∧ cTk D q' h') ∧ pI h' 35 3 = (r : Int) + 1 ∧ ∀ c, c < 1 → pI h' 36 (r * 1 + c) = pI h 8 c)) := by
  have es := hi.1
  obtain ⟨s, I, Lg, P⟩ := h
  have es : s = zshC := es
  subst es
  show zSem l Γ false (d + 4 + 1) zh47 _ _ _
  refine zbody (by decide +kernel) (by decide) ?_
  refine fnA0 (d := d + 3) ?_
  refine zcallR (mi := 47) (as := []) (rest := []) (q0 := 2) zv_fn0 rfl (by decide) (by rfl) ?_
  refine (zClsC (d := d) hi hT h0).mono ?_
  rintro rr h1 ⟨rfl, hi1, hm1, hw⟩
  have e8 : ∃ f : Bool, True := ⟨true, trivial⟩
  obtain ⟨s1, I1, Lg1, P1⟩ := h1
  have es1 : s1 = zshC := hi1.1
  subst es1
  have hP : P1 2 0 = some 3 := hi1.r1 (q := 2) (k := 0) (r := 3) (by decide +kernel)
  have hP2 : P1 2 2 = some 8 := hi1.r1 (q := 2) (k := 2) (r := 8) (by decide +kernel)
  have r1 : pI (zshC, I1, Lg1, P1) 35 3 = (r : Int) := (pI_md hm1 rfl).trans hr
  by_cases hz : I1 3 8 = 0
  · have z8 : pI (zshC, I1, Lg1, P1) 3 8 = 0 := by
      show (I1 3 8).toInt = 0
      rw [hz]
      decide
    refine fnB (d := d + 3) hP hP2 hz ?_
    refine zcallR (mi := 47) (as := [.ref 8]) (rest := []) (q0 := 35) zv_fn1 rfl (by decide) (by rfl) ?_
    refine (zAdd35 (d := d + 2) hi1 r1 hlt).mono ?_
    rintro rr2 h2 ⟨rfl, hi2, hm2, g1, g2⟩
    obtain ⟨s2, I2, Lg2, P2⟩ := h2
    have es2 : s2 = zshC := hi2.1
    subst es2
    refine fnC (d := d + 3) ⟨rfl, hi2, fun KF KO W => ?_⟩
    rcases hw KF KO W with ⟨c, p, _, c1, c2, f1, f2⟩ | ⟨q', W', f0, T'⟩
    · omega
    · have hs : ∀ q k, smem (adM35 r) q k = true → smem ((3, 3, 10) :: adM35 r) q k = true := fun q k hm => by
        obtain ⟨t, ht, hc⟩ := List.any_eq_true.mp hm
        exact List.any_eq_true.mpr ⟨t, List.mem_cons_of_mem _ ht, hc⟩
      have hs1 : ∀ q k, smem [(3, 3, 10)] q k = true → smem ((3, 3, 10) :: adM35 r) q k = true := fun q k hm => by
        obtain ⟨t, ht, hc⟩ := List.any_eq_true.mp hm
        have ht := List.mem_singleton.mp ht
        subst ht
        exact List.any_eq_true.mpr ⟨_, List.mem_cons_self, hc⟩
      have a3 : ∀ k, smem (adM35 r) 3 k = false := fun k => rfl
      have a1' : ∀ k, smem (adM35 r) 1 k = false := fun k => rfl
      refine Or.inr ⟨(sMd.rf.tr hm1 hs1).tr hm2 hs, ⟨q', W', (pI_md hm2 (a3 8)).trans f0, ?_⟩, g1, fun c hc => ?_⟩
      · obtain ⟨⟨t1, t2, t3, t4, t5, t6, t7, t8⟩, u1, u2, u3, u4, u5⟩ := T'
        refine ⟨⟨fun j hj => (pI_md hm2 (a1' j)).trans (t1 j hj), t2, ((hm2 3 1 (a3 1)).2.1).trans t3, (pI_md hm2 (a3 2)).trans t4, (pI_md hm2 (a3 3)).trans t5, t6, t7, fun e => (pI_md hm2 (a3 9)).trans (t8 ((pI_md hm2 (a3 8)).symm.trans e))⟩, u1, (pI_md hm2 (a3 4)).trans u2, (pI_md hm2 (a3 5)).trans u3, fun e => (pI_md hm2 (a3 6)).trans (u4 e), fun e => (pI_md hm2 (a3 7)).trans (u5 e)⟩
      · rw [g2 c hc]
        exact pI_md hm1 rfl
  · refine fnA (d := d + 3) hP hz ⟨rfl, hi1, fun KF KO W => ?_⟩
    rcases hw KF KO W with ⟨c, p, h1, c1, c2, f1⟩ | ⟨q', W', f0, T'⟩
    · exact Or.inl ⟨hm1, c, p, h1, c1, c2, f1⟩
    · exact absurd (deq (by rw [show (0 : Int32).toInt = 0 from by decide]; exact f0)) hz
