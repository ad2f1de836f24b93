/-! the class: numbers, names, the ends of lines, as calls -/
theorem cfl {D : zD} {p : Nat} {I : zHI} {Lg : zHL} {P : zHP} {c : Int32} (hi : sInv swC (zshC, I, Lg, P)) (hA : cA D p (zshC, I, Lg, P)) (hc : 1 ≤ c.toInt ∧ c.toInt ≤ 5) : sInv swC (zshC, flI I c, Lg, P) ∧ cA D p (zshC, flI I c, Lg, P) ∧ sMd [(3, 8, 10)] (zshC, I, Lg, P) (zshC, flI I c, Lg, P) ∧ fC c.toInt (I 3 5).toInt (zshC, flI I c, Lg, P) := by
  have g : ∀ q k, smem [(3, 8, 10)] q k = false → flI I c q k = I q k := fun q k hm => by
    have hn := smem1f hm
    show zu2 (zu2 I 3 8 c) 3 9 (zu2 I 3 8 c 3 5) q k = _
    rw [zu2_off (by omega), zu2_off (by omega)]
  have e8 : flI I c 3 8 = c := by
    show zu2 (zu2 I 3 8 c) 3 9 (zu2 I 3 8 c 3 5) 3 8 = _
    rw [zu2_off (by decide), zu2_at]
  have e9 : flI I c 3 9 = I 3 5 := by
    show zu2 (zu2 I 3 8 c) 3 9 (zu2 I 3 8 c 3 5) 3 9 = _
    rw [zu2_at, zu2_off (by decide)]
  have h5 : 0 ≤ (I 3 5).toInt ∧ (I 3 5).toInt ≤ 700 := by
    have := hi.2.2.1 3 5
    rw [show sIv swC 3 5 = (0, 700) from by decide +kernel] at this
    exact this
  obtain ⟨a1, a2, a3, a4, a5, a6, a7, a8⟩ := hA
  refine ⟨sInv_set hi rfl rfl (md := [(3, 8, 10)]) g (fun q k hm => ?_) (fun m hmem k => nomatch hmem), ⟨fun j hj => ?_, a2, a3, ?_, ?_, a6, a7, ?_⟩, fun q k hm => ⟨g q k hm, rfl, rfl⟩, ?_, ?_⟩
  · obtain ⟨rfl, g1, g2⟩ := smem1 hm
    have hk : k = 8 ∨ k = 9 := by omega
    rcases hk with rfl | rfl
    · rw [show sIv swC 3 8 = (0, 5) from by decide +kernel]
      show 0 ≤ (flI I c 3 8).toInt ∧ (flI I c 3 8).toInt ≤ 5
      rw [e8]
      omega
    · rw [show sIv swC 3 9 = (-1, 700) from by decide +kernel]
      show -1 ≤ (flI I c 3 9).toInt ∧ (flI I c 3 9).toInt ≤ 700
      rw [e9]
      omega
  · show (flI I c 1 j).toInt = _
    rw [g 1 j (smem1n (fun g => nomatch g.1))]
    exact a1 j hj
  · show (flI I c 3 2).toInt = _
    rw [g 3 2 (smem1n (by omega))]
    exact a4
  · show (flI I c 3 3).toInt = _
    rw [g 3 3 (smem1n (by omega))]
    exact a5
  · show (flI I c 3 8).toInt = 0 → _
    rw [e8]
    intro e0
    omega
  · show (flI I c 3 8).toInt = _
    rw [e8]
  · show (flI I c 3 9).toInt = _
    rw [e9]
theorem znx {l : Launch} {Γ : zG} {d mi pc : Nat} {D : zD} {p : Nat} {Kp : Option Value → zH → Prop} {lo : zL} {rest : List Value} {h : zH} (hv : zcvB mi pc 2 0 34 = true) (hz : zwd rest ≤ 8) (hi : sInv swC h) (hA : cA D p h) (hX : ∀ h', sInv swC h' → cTk D (pF D p) h' → sMd [(3, 3, 8)] h h' → zX l Γ false (d + 4) (zhd mi) (zMQ' Γ false (zhd mi) Kp) 0 0 (pc + 3) lo rest h') : zX l Γ false (d + 4) (zhd mi) (zMQ' Γ false (zhd mi) Kp) 0 0 pc lo (.ref 3 :: rest) h := by
  refine zcallR (as := []) (q0 := 3) hv rfl hz (by rw [hi.1]; rfl) ?_
  refine (znextR (d := d) hi hA).mono ?_
  rintro r h' ⟨rfl, a, b, c⟩
  exact hX h' a b c
/-- what comes of a step: a fault, or it goes on -/
def cOut (D : zD) (KF : zKF) (KO : Int → Nat → Prop) (h' : zH) (x : Int32) : Prop := (∃ c p, KF c p ∧ 1 ≤ c ∧ c ≤ 5 ∧ fC c p h') ∨ (∃ v q', KO v q' ∧ x.toInt = v ∧ pI h' 3 8 = 0 ∧ cTk D q' h')
theorem fC.md {c p : Int} {h h' : zH} {md : sM} (hf : fC c p h) (hm : sMd md h h') (h8 : smem md 3 8 = false) (h9 : smem md 3 9 = false) : fC c p h' := ⟨(pI_md hm h8).trans hf.1, (pI_md hm h9).trans hf.2⟩
theorem zv_nm : zcvB 52 52 2 0 34 = true := by decide +kernel
theorem zv_nw : zcvB 44 51 2 0 34 = true := by decide +kernel
theorem zv_nwF : zcvB 44 32 5 1 45 = true := by decide +kernel
theorem zv_tn : zcvB 51 66 2 0 34 = true := by decide +kernel
theorem zv_tnF : zcvB 51 19 5 1 45 = true := by decide +kernel
theorem zv_cl : zcvB 48 23 2 0 34 = true := by decide +kernel
theorem zv_bg : zcvB 41 19 2 0 34 = true := by decide +kernel
theorem zNumC {l : Launch} {Γ : zG} {d : Nat} {D : zD} {q : Nat} {h : zH} (hi : sInv swC h) (hT : cTk D q h) (h0 : pI h 3 8 = 0) {a b : Int32} {L H : Int} (ha : a.toInt = L) (hb : b.toInt = H) : zSem l Γ false (d + 4) (zhd 52) [.ref 2, .int a, .int b] h (fun r h' => sInv swC h' ∧ sMd [(3, 3, 10)] h h' ∧ ∃ x : Int32, r = some (.int x) ∧ ∀ KF KO, wNum D L H q KF KO → cOut D KF KO h' x) := by
  obtain ⟨s, I, Lg, P⟩ := h
  have es : s = zshC := hi.1
  subst es
  have hP : P 2 0 = some 3 := hi.r1 (q := 2) (k := 0) (r := 3) (by decide +kernel)
  obtain ⟨tA1, tq, tk, t5, t6, t7⟩ := id hT
  have tk : (I 3 4).toInt = kF D q := tk
  have t5 : (I 3 5).toInt = (q : Int) := t5
  have z0 : I 3 8 = 0 := deq (by rw [show (0 : Int32).toInt = 0 from by decide]; exact h0)
  show zSem l Γ false (d + 3 + 1) zh52 _ _ _
  have hs : sTL [.inr (.inl 2), .inl sf32, .inl sf32] [.ref 2, .int a, .int b] := ⟨_, _, rfl, rfl, _, _, rfl, ⟨_, rfl, i32bd _⟩, _, _, rfl, ⟨_, rfl, i32bd _⟩, rfl⟩
  refine zbody (by decide +kernel) (by rw [sslen_ok _ _ hs]; decide +kernel) ?_
  have bad : ∀ (c : Int32), c.toInt = 1 ∨ c.toInt = 2 → (∀ KF KO, wNum D L H q KF KO → KF c.toInt q) → zX l Γ false (d + 4) zh52 (zMQ' Γ false zh52 (fun r h' => sInv swC h' ∧ sMd [(3, 3, 10)] (zshC, I, Lg, P) h' ∧ ∃ x : Int32, r = some (.int x) ∧ ∀ KF KO, wNum D L H q KF KO → cOut D KF KO h' x)) 0 0 52 [(3, .int (I 3 7)), (0, .ref 2), (1, .int a), (2, .int b)] [.ref 3] (zshC, flI I c, Lg, P) := fun c hc hW => by
    obtain ⟨f1, f2, f3, f4⟩ := cfl (c := c) hi tA1 (by omega)
    refine znx (mi := 52) zv_nm (by decide) f1 f2 (fun h' hi' hT' hm' => nmC5 ⟨hi', (f3.sub rfl).seq (hm'.sub rfl), _, rfl, fun KF KO hw => Or.inl ⟨_, _, hW KF KO hw, by omega, by omega, ?_⟩⟩)
    rw [← t5]
    exact f4.md hm' rfl rfl
  by_cases h3 : kF D q = 3
  · have hk : I 3 4 = Int32.ofInt 3 := deq (by rw [tk, h3]; decide)
    have ev := t7 h3
    have ev : (I 3 7).toInt = vF D q := ev
    by_cases hlo : vF D q < L
    · refine nmC2 hP hk (dlt (by omega)) z0 (bad (Int32.ofInt 2) (Or.inr (by decide)) (fun KF KO hw => ?_))
      unfold wNum at hw
      rw [if_pos h3, if_neg (by omega)] at hw
      exact hw
    by_cases hhi : H < vF D q
    · refine nmC3 hP hk (dltn (by omega)) (dlen (by omega)) z0 (bad (Int32.ofInt 2) (Or.inr (by decide)) (fun KF KO hw => ?_))
      unfold wNum at hw
      rw [if_pos h3, if_neg (by omega)] at hw
      exact hw
    · refine nmC4 hP hk (dltn (by omega)) (dle (by omega)) ?_
      refine znx (mi := 52) (d := d) zv_nm (by decide) hi tA1 (fun h' hi' hT' hm' => nmC5 ⟨hi', hm'.sub rfl, _, rfl, fun KF KO hw => Or.inr ⟨vF D q, qF D q, ?_, ev, ?_, hT'⟩⟩)
      · unfold wNum at hw
        rw [if_pos h3, if_pos (by omega)] at hw
        exact hw
      · rw [pI_md hm' rfl]
        exact h0
  · refine nmC1 hP (den (by rw [tk]; exact h3)) z0 (bad (Int32.ofInt 1) (Or.inl (by decide)) (fun KF KO hw => ?_))
    unfold wNum at hw
    rw [if_neg h3] at hw
    exact hw
theorem zNewC {l : Launch} {Γ : zG} {d : Nat} {D : zD} {q : Nat} {h : zH} {R : Nat} {f : Nat → Int} {r : Nat} (hi : sInv swC h) (hT : cTk D q h) (h0 : pI h 3 8 = 0) (hc : h.1[R]? = some (0, 5)) (hf : ∀ v : Int32, zSem l Γ false (d + 3) (zhd 45) [.ref R, .int v] h (fun rr h' => h' = h ∧ ∃ x : Int32, rr = some (.int x) ∧ x.toInt = fIx f r v.toInt)) : zSem l Γ false (d + 4) (zhd 44) [.ref 2, .ref R] h (fun rr h' => sInv swC h' ∧ sMd [(3, 3, 10)] h h' ∧ ∃ x : Int32, rr = some (.int x) ∧ ∀ KF KO, wNew D f r q KF KO → cOut D KF KO h' x) := by
  obtain ⟨s, I, Lg, P⟩ := h
  have es : s = zshC := hi.1
  subst es
  have hP : P 2 0 = some 3 := hi.r1 (q := 2) (k := 0) (r := 3) (by decide +kernel)
  obtain ⟨tA1, tq, tk, t5, t6, t7⟩ := id hT
  have tk : (I 3 4).toInt = kF D q := tk
  have t5 : (I 3 5).toInt = (q : Int) := t5
  have z0 : I 3 8 = 0 := deq (by rw [show (0 : Int32).toInt = 0 from by decide]; exact h0)
  show zSem l Γ false (d + 3 + 1) zh44 _ _ _
  have hs : sTL [.inr (.inl 2), .inr (.inl R)] [.ref 2, .ref R] := ⟨_, _, rfl, rfl, _, _, rfl, rfl, rfl⟩
  refine zbody (by decide +kernel) (by rw [sslen_ok _ _ hs]; show 2 ≤ zh44.2.2.1; decide +kernel) ?_
  have bad : ∀ (c : Int32), c.toInt = 1 ∨ c.toInt = 3 → (∀ KF KO, wNew D f r q KF KO → KF c.toInt q) → zX l Γ false (d + 4) zh44 (zMQ' Γ false zh44 (fun r' h' => sInv swC h' ∧ sMd [(3, 3, 10)] (zshC, I, Lg, P) h' ∧ ∃ x : Int32, r' = some (.int x) ∧ ∀ KF KO, wNew D f r q KF KO → cOut D KF KO h' x)) 0 0 51 [(2, .int (I 3 6)), (0, .ref 2), (1, .ref R)] [.ref 3] (zshC, flI I c, Lg, P) := fun c hc hW => by
    obtain ⟨f1, f2, f3, f4⟩ := cfl (c := c) hi tA1 (by omega)
    refine znx (mi := 44) zv_nw (by decide) f1 f2 (fun h' hi' hT' hm' => nwC5 ⟨hi', (f3.sub rfl).seq (hm'.sub rfl), _, rfl, fun KF KO hw => Or.inl ⟨_, _, hW KF KO hw, by omega, by omega, ?_⟩⟩)
    rw [← t5]
    exact f4.md hm' rfl rfl
  by_cases h2 : kF D q = 2
  · have hk : I 3 4 = Int32.ofInt 2 := deq (by rw [tk, h2]; decide)
    have ev := t6 h2
    have ev : (I 3 6).toInt = lF D q := ev
    refine nwC2 hP hk ?_
    refine zcallR (mi := 44) (as := [.int (I 3 6)]) (rest := []) (q0 := R) zv_nwF rfl (by decide) hc ?_
    refine (hf (I 3 6)).mono ?_
    rintro rr h' ⟨rfl, x, rfl, hx⟩
    rw [ev] at hx
    show zX l Γ false (d + 3 + 1) zh44 _ 0 0 35 [(2, .int (I 3 6)), (0, .ref 2), (1, .ref R)] [.int x] (zshC, I, Lg, P)
    have xb := fIx_bd f r (lF D q)
    by_cases hneg : fIx f r (lF D q) < 0
    · refine nwC4 hP (deq (by rw [hx]; show _ = (-1 : Int); omega)) ?_
      refine znx (mi := 44) (d := d) zv_nw (by decide) hi tA1 (fun h' hi' hT' hm' => nwC5 ⟨hi', hm'.sub rfl, _, rfl, fun KF KO hw => Or.inr ⟨lF D q, qF D q, ?_, ev, ?_, hT'⟩⟩)
      · unfold wNew at hw
        rw [if_pos h2, if_pos hneg] at hw
        exact hw
      · rw [pI_md hm' rfl]
        exact h0
    · refine nwC3 hP (den (by rw [hx]; show _ ≠ (-1 : Int); omega)) z0 (bad (Int32.ofInt 3) (Or.inr (by decide)) (fun KF KO hw => ?_))
      unfold wNew at hw
      rw [if_pos h2, if_neg hneg] at hw
      exact hw
  · refine nwC1 hP (den (by rw [tk]; exact h2)) z0 (bad (Int32.ofInt 1) (Or.inl (by decide)) (fun KF KO hw => ?_))
    unfold wNew at hw
    rw [if_neg h2] at hw
    exact hw
theorem zThrC {l : Launch} {Γ : zG} {d : Nat} {D : zD} {q : Nat} {h : zH} {R : Nat} {f : Nat → Int} {r : Nat} (hi : sInv swC h) (hT : cTk D q h) (h0 : pI h 3 8 = 0) (hc : h.1[R]? = some (0, 5)) (hf : ∀ v : Int32, zSem l Γ false (d + 3) (zhd 45) [.ref R, .int v] h (fun rr h' => h' = h ∧ ∃ x : Int32, rr = some (.int x) ∧ x.toInt = fIx f r v.toInt)) : zSem l Γ false (d + 4) (zhd 51) [.ref 2, .ref R] h (fun rr h' => sInv swC h' ∧ sMd [(3, 3, 10)] h h' ∧ ∃ x : Int32, rr = some (.int x) ∧ ∀ KF KO, wThr D f r q KF KO → cOut D KF KO h' x) := by
  obtain ⟨s, I, Lg, P⟩ := h
  have es : s = zshC := hi.1
  subst es
  have hP : P 2 0 = some 3 := hi.r1 (q := 2) (k := 0) (r := 3) (by decide +kernel)
  obtain ⟨tA1, tq, tk, t5, t6, t7⟩ := id hT
  have tk : (I 3 4).toInt = kF D q := tk
  have t5 : (I 3 5).toInt = (q : Int) := t5
  have z0 : I 3 8 = 0 := deq (by rw [show (0 : Int32).toInt = 0 from by decide]; exact h0)
  show zSem l Γ false (d + 3 + 1) zh51 _ _ _
  have hs : sTL [.inr (.inl 2), .inr (.inl R)] [.ref 2, .ref R] := ⟨_, _, rfl, rfl, _, _, rfl, rfl, rfl⟩
  refine zbody (by decide +kernel) (by rw [sslen_ok _ _ hs]; show 2 ≤ zh51.2.2.1; decide +kernel) ?_
  have bad : ∀ (c v : Int32), c.toInt = 1 ∨ c.toInt = 4 → (∀ KF KO, wThr D f r q KF KO → KF c.toInt q) → zX l Γ false (d + 4) zh51 (zMQ' Γ false zh51 (fun r' h' => sInv swC h' ∧ sMd [(3, 3, 10)] (zshC, I, Lg, P) h' ∧ ∃ x : Int32, r' = some (.int x) ∧ ∀ KF KO, wThr D f r q KF KO → cOut D KF KO h' x)) 0 0 66 [(2, .int v), (0, .ref 2), (1, .ref R)] [.ref 3] (zshC, flI I c, Lg, P) := fun c v hc hW => by
    obtain ⟨f1, f2, f3, f4⟩ := cfl (c := c) hi tA1 (by omega)
    refine znx (mi := 51) zv_tn (by decide) f1 f2 (fun h' hi' hT' hm' => tnC5 ⟨hi', (f3.sub rfl).seq (hm'.sub rfl), _, rfl, fun KF KO hw => Or.inl ⟨_, _, hW KF KO hw, by omega, by omega, ?_⟩⟩)
    rw [← t5]
    exact f4.md hm' rfl rfl
  by_cases h2 : kF D q = 2
  · have hk : I 3 4 = Int32.ofInt 2 := deq (by rw [tk, h2]; decide)
    have ev := t6 h2
    have ev : (I 3 6).toInt = lF D q := ev
    refine tnC2 hP hk ?_
    refine zcallR (mi := 51) (as := [.int (I 3 6)]) (rest := []) (q0 := R) zv_tnF rfl (by decide) hc ?_
    refine (hf (I 3 6)).mono ?_
    rintro rr h' ⟨rfl, x, rfl, hx⟩
    rw [ev] at hx
    show zX l Γ false (d + 3 + 1) zh51 _ 0 0 22 [(0, .ref 2), (1, .ref R)] [.int x] (zshC, I, Lg, P)
    have xb := fIx_bd f r (lF D q)
    by_cases hneg : fIx f r (lF D q) < 0
    · refine tnC3 hP hk (deq (by rw [hx]; show _ = (-1 : Int); omega)) z0 (bad (Int32.ofInt 4) _ (Or.inr (by decide)) (fun KF KO hw => ?_))
      unfold wThr at hw
      rw [if_pos h2, if_pos hneg] at hw
      exact hw
    · refine tnC4 hP hk (den (by rw [hx]; show _ ≠ (-1 : Int); omega)) ?_
      refine znx (mi := 51) (d := d) zv_tn (by decide) hi tA1 (fun h' hi' hT' hm' => tnC5 ⟨hi', hm'.sub rfl, _, rfl, fun KF KO hw => Or.inr ⟨fIx f r (lF D q), qF D q, ?_, hx, ?_, hT'⟩⟩)
      · unfold wThr at hw
        rw [if_pos h2, if_neg hneg] at hw
        exact hw
      · rw [pI_md hm' rfl]
        exact h0
  · refine tnC1 hP (den (by rw [tk]; exact h2)) z0 (bad (Int32.ofInt 1) _ (Or.inl (by decide)) (fun KF KO hw => ?_))
    unfold wThr at hw
    rw [if_neg h2] at hw
    exact hw
theorem zClsC {l : Launch} {Γ : zG} {d : Nat} {D : zD} {q : Nat} {h : zH} (hi : sInv swC h) (hT : cTk D q h) (h0 : pI h 3 8 = 0) : zSem l Γ false (d + 4) (zhd 48) [.ref 2] h (fun rr h' => rr = none ∧ sInv swC h' ∧ sMd [(3, 3, 10)] h h' ∧ ∀ (KF : zKF) (KO : Nat → Prop), wEnd D q KF KO → (∃ c p, KF c p ∧ 1 ≤ c ∧ c ≤ 5 ∧ fC c p h') ∨ (∃ q', KO q' ∧ pI h' 3 8 = 0 ∧ cTk D q' h')) := by
  obtain ⟨s, I, Lg, P⟩ := h
  have es : s = zshC := hi.1
  subst es
  have hP : P 2 0 = some 3 := hi.r1 (q := 2) (k := 0) (r := 3) (by decide +kernel)
  obtain ⟨tA1, tq, tk, t5, t6, t7⟩ := id hT
  have tk : (I 3 4).toInt = kF D q := tk
  have t5 : (I 3 5).toInt = (q : Int) := t5
  have z0 : I 3 8 = 0 := deq (by rw [show (0 : Int32).toInt = 0 from by decide]; exact h0)
  show zSem l Γ false (d + 3 + 1) zh48 _ _ _
  refine zbody (by decide +kernel) (by decide) ?_
  by_cases h4 : kF D q = 4
  · refine clC2 hP (deq (by rw [tk, h4]; decide)) ?_
    refine znx (mi := 48) (d := d) zv_cl (by decide) hi tA1 (fun h' hi' hT' hm' => clC3 (R := 0) ⟨rfl, hi', hm'.sub rfl, fun KF KO hw => Or.inr ⟨qF D q, ?_, ?_, hT'⟩⟩)
    · unfold wEnd at hw
      rw [if_pos h4] at hw
      exact hw
    · rw [pI_md hm' rfl]
      exact h0
  · refine clC1 hP (den (by rw [tk]; exact h4)) z0 ?_
    obtain ⟨f1, f2, f3, f4⟩ := cfl (c := Int32.ofInt 1) hi tA1 (by decide)
    refine znx (mi := 48) (d := d) zv_cl (by decide) f1 f2 (fun h' hi' hT' hm' => clC3 (R := 0) ⟨rfl, hi', (f3.sub rfl).seq (hm'.sub rfl), fun KF KO hw => Or.inl ⟨1, q, ?_, by decide, by decide, ?_⟩⟩)
    · unfold wEnd at hw
      rw [if_neg h4] at hw
      exact hw
    · rw [← t5]
      exact f4.md hm' rfl rfl
