/-! the reference: payments -/
theorem zPn {P : zHP} {a b r : Nat} (h : P a b = some r) : P = (fun x y => if x = a ∧ y = b then some r else P x y : zHP) := by
  funext x y
  split
  · rename_i e
    rw [e.1, e.2, h]
  · rfl
set_option maxRecDepth 100000 in
set_option maxHeartbeats 4000000 in
theorem zpayA {l : Launch} {Γ : zG} {d : Nat} {Kp : Option Value → zH → Prop} {h : zH} {x : Int32} (hs : h.1 = zshM) (hP : h.2.2.2 0 27 = some 6) (hx : ¬ x = 0) (hX : zX l Γ false (d + 1) zh211 (zMQ' Γ false zh211 Kp) 0 0 59 [(2, .int (h.2.1 0 10)), (1, .int (h.2.1 0 11)), (0, .ref 0)] [.int (h.2.1 0 19), .int (Int8.ofInt 8).toInt32, .ref 6, .ref 0] h) : zX l Γ false (d + 1) zh211 (zMQ' Γ false zh211 Kp) 0 0 33 [(0, .ref 0)] [.int x] h := by
  obtain ⟨s, I, Lg, P⟩ := h
  have hs : s = zshM := hs
  subst hs
  have eP := zPn (P := P) hP
  have hX : zX l Γ false (d + 1) zh211 (zMQ' Γ false zh211 Kp) 0 0 59 [(2, .int (I 0 10)), (1, .int (I 0 11)), (0, .ref 0)] [.int (I 0 19), .int (Int8.ofInt 8).toInt32, .ref 6, .ref 0] (zshM, I, Lg, P) := hX
  rw [eP] at hX ⊢
  refine zpcF (M := (zh211, zc211)) 211 59 rfl zckm211 (fun _ _ _ _ h => h) ?_
  refine zdecF hx (fun _ => ?_)
  exact hX
set_option maxRecDepth 100000 in
set_option maxHeartbeats 4000000 in
theorem zpayB {l : Launch} {Γ : zG} {d : Nat} {Kp : Option Value → zH → Prop} {h : zH} {x A B : Int32} (hs : h.1 = zshM) (hx : ¬ x = 0) (he : h.2.1 0 11 = A) (hK : Kp (some (.int (Int32.ofInt 0))) (zshM, zu2 (zu2 (zu2 h.2.1 0 10 B) 0 4 (Int32.ofInt 5)) 0 5 B, h.2.2)) : zX l Γ false (d + 2) zh211 (zMQ' Γ false zh211 Kp) 0 0 62 [(2, .int B), (1, .int A), (0, .ref 0)] [.int x] h := by
  obtain ⟨s, I, Lg, P⟩ := h
  have hs : s = zshM := hs
  subst hs
  have hK : Kp (some (.int (Int32.ofInt 0))) (zshM, zu2 (zu2 (zu2 I 0 10 B) 0 4 (Int32.ofInt 5)) 0 5 B, Lg, P) := hK
  have he : I 0 11 = A := he
  refine zpcF (M := (zh211, zc211)) 211 1000 rfl zckm211 (fun _ _ _ _ h => h) ?_
  refine zdecF hx (fun _ => ?_)
  refine zdecT he (fun _ => ?_)
  exact hK
theorem zpayB_i {h : zH} {B : Int32} (hi : sInv swM h) (hb : 0 ≤ B.toInt ∧ B.toInt ≤ 700) : sInv swM (zshM, zu2 (zu2 (zu2 h.2.1 0 10 B) 0 4 (Int32.ofInt 5)) 0 5 B, h.2.2) ∧ sMd [(0, 4, 6), (0, 10, 11)] h (zshM, zu2 (zu2 (zu2 h.2.1 0 10 B) 0 4 (Int32.ofInt 5)) 0 5 B, h.2.2) ∧ fM 5 B.toInt (zshM, zu2 (zu2 (zu2 h.2.1 0 10 B) 0 4 (Int32.ofInt 5)) 0 5 B, h.2.2) := by
  have f : ∀ q k, smem [(0, 4, 6), (0, 10, 11)] q k = true ↔ (q = 0 ∧ (k = 4 ∨ k = 5 ∨ k = 10)) := fun q k => by
    simp only [smem, List.any_cons, List.any_nil, Bool.or_eq_true, Bool.and_eq_true, beq_iff_eq, decide_eq_true_eq, Bool.or_false]
    omega
  have g : ∀ q k, smem [(0, 4, 6), (0, 10, 11)] q k = false → zu2 (zu2 (zu2 h.2.1 0 10 B) 0 4 (Int32.ofInt 5)) 0 5 B q k = h.2.1 q k := fun q k hm => by
    have hn : ¬ (q = 0 ∧ (k = 4 ∨ k = 5 ∨ k = 10)) := fun e => by
      rw [(f q k).mpr e] at hm
      cases hm
    rw [zu2_off (by omega), zu2_off (by omega), zu2_off (by omega)]
  refine ⟨sInv_set hi hi.1.symm rfl (md := [(0, 4, 6), (0, 10, 11)]) g (fun q k hm => ?_) (fun m hmem k => ?_), fun q k hm => ⟨g q k hm, rfl, rfl⟩, ?_, ?_⟩
  · obtain ⟨rfl, hk⟩ := (f q k).mp hm
    rcases hk with rfl | rfl | rfl
    · rw [show sIv swM 0 4 = (0, 5) from by decide +kernel]
      show 0 ≤ (zu2 (zu2 (zu2 h.2.1 0 10 B) 0 4 (Int32.ofInt 5)) 0 5 B 0 4).toInt ∧ (zu2 (zu2 (zu2 h.2.1 0 10 B) 0 4 (Int32.ofInt 5)) 0 5 B 0 4).toInt ≤ 5
      rw [zu2_off (by decide), zu2_at]
      decide
    · rw [show sIv swM 0 5 = (-1, 700) from by decide +kernel]
      show -1 ≤ (zu2 (zu2 (zu2 h.2.1 0 10 B) 0 4 (Int32.ofInt 5)) 0 5 B 0 5).toInt ∧ (zu2 (zu2 (zu2 h.2.1 0 10 B) 0 4 (Int32.ofInt 5)) 0 5 B 0 5).toInt ≤ 700
      rw [zu2_at]
      omega
    · rw [show sIv swM 0 10 = (0, 700) from by decide +kernel]
      show 0 ≤ (zu2 (zu2 (zu2 h.2.1 0 10 B) 0 4 (Int32.ofInt 5)) 0 5 B 0 10).toInt ∧ (zu2 (zu2 (zu2 h.2.1 0 10 B) 0 4 (Int32.ofInt 5)) 0 5 B 0 10).toInt ≤ 700
      rw [zu2_off (by decide), zu2_off (by decide), zu2_at]
      exact hb
  · rcases (swM_imp m).mp hmem with rfl | rfl | rfl | rfl | rfl <;> exact ⟨rfl, rfl⟩
  · show (zu2 (zu2 (zu2 h.2.1 0 10 B) 0 4 (Int32.ofInt 5)) 0 5 B 0 4).toInt = 5
    rw [zu2_off (by decide), zu2_at]
    decide
  · show (zu2 (zu2 (zu2 h.2.1 0 10 B) 0 4 (Int32.ofInt 5)) 0 5 B 0 5).toInt = B.toInt
    rw [zu2_at]
theorem PayB0 : spmB swM sT0 [(0, 4, 6)] 100 1 211 [] [sr0] ([(0, 21, (10, 10))], [], [], []) fP [] [fR 2] = true := by decide +kernel
theorem PayB1 : spmB swM sT0 [] 100 1 211 [] [sr0] ([(0, 21, (0, 9))], [], [], []) [] [(16, [sr0], [(0, sr0)], sA0, [], [])] [] = true := by decide +kernel
theorem PayB2 : spqB swM sT0 [] 100 1 211 [(0, sr0)] sA0 [(0, (none, 19), (0, 8))] [] 19 [(30, [sI1 0 8, sI1 8 8, .inr (.inl 6), sr0], [(0, sr0)], sA0, [], [(0, 0, 0)])] [] = true := by decide +kernel
theorem PayB3 : [33, 62, 118, 140].all (fun p => spqB swM sT0 [] 100 1 211 [(0, sr0)] sA0 [] [0] p [] [rI 0 sA0 []]) = true := by decide +kernel
theorem PayB4 : (List.range 8).all (fun a => (List.range 8).all (fun b => decide (a = b) || spqB swM sT0 [] 100 1 211 [(0, sr0), (1, sI1 a a), (2, sI1 0 700)] ([(0, 11, (b, b))], [], [], []) [] [1] 62 [(86, [], [(0, sr0), (1, sI1 a a)], sA0, [], [])] [])) = true := by decide +kernel
def PayE (r : Nat) : sEv := (115, [sI1 99 99, sI1 0 0, sr0], [(0, sr0), (3, sI1 ((10 + r : Nat) : Int) ((10 + r : Nat) : Int))], sA0, ([(14, (none, ((10 + r : Nat) : Int)), ([(0, 1)], 0)), (15, (none, ((10 + r : Nat) : Int)), ([(1, 1)], 0))], [], [], []))
theorem PayB7 : (List.range 10).all (fun r => speB swM sT0 [(14, 10 + r, 10 + r + 1), (15, 10 + r, 10 + r + 1)] 100 1 211 [(0, sr0), (1, .inl (0, 7))] [] ([(0, 21, ((r : Int), (r : Int)))], [], [], []) [(0, (none, 11), (0, 7))] 86 [PayE r] []) = true := by decide +kernel
theorem PayB5 : (List.range 10).all (fun r => spqB swM sT0 [(16, 10 + r, 10 + r + 1)] 100 1 211 [(0, sr0), (3, sI1 ((10 + r : Nat) : Int) ((10 + r : Nat) : Int))] sA0 [(0, (none, 11), (0, 99))] [1] 118 [(137, [sI1 99 99, sI1 1 1, sr0], [(0, sr0), (3, sI1 ((10 + r : Nat) : Int) ((10 + r : Nat) : Int))], sA0, [(16, 10 + r, 0, 0)], [])] []) = true := by decide +kernel
theorem PayB6 : (List.range 10).all (fun r => spqB swM sT0 [(0, 21, 22), (17, 10 + r, 10 + r + 1)] 100 1 211 [(0, sr0), (3, sI1 ((10 + r : Nat) : Int) ((10 + r : Nat) : Int))] ([(0, 21, (((r : Nat) : Int), ((r : Nat) : Int)))], [], [], []) [(0, (none, 21), (0, 9)), (0, (none, 11), (1, 99))] [1] 140 [] [rI 1 sA0 [(0, 21, 0, 1), (17, 10 + r, 1, 0)]]) = true := by decide +kernel
theorem mdR3 {c1 c2 o n r : Nat} {h h' : zH} (hr : r < n) (hm : sMd [(c1, o + r, o + r + 1), (c2, o + r, o + r + 1)] h h') : sMd [(c1, o, o + n), (c2, o, o + n)] h h' := fun q k hq => hm q k (by
  cases hc : smem [(c1, o + r, o + r + 1), (c2, o + r, o + r + 1)] q k with
  | false => rfl
  | true =>
    have : smem [(c1, o, o + n), (c2, o, o + n)] q k = true := by
      simp only [smem, List.any_cons, List.any_nil, Bool.or_eq_true, Bool.and_eq_true, beq_iff_eq, decide_eq_true_eq, Bool.or_false] at hc ⊢
      omega
    rw [this] at hq
    cases hq)
theorem zv_Pay16 : zcvB 211 16 12 0 195 = true := by decide +kernel
theorem zv_Pay30 : zcvB 211 30 12 3 207 = true := by decide +kernel
theorem zv_Pay59 : zcvB 211 59 12 3 207 = true := by decide +kernel
theorem zv_Pay115 : zcvB 211 115 12 2 208 = true := by decide +kernel
theorem zv_Pay137 : zcvB 211 137 12 2 208 = true := by decide +kernel
theorem zPayR {l : Launch} {Γ : zG} {d : Nat} {D : zD} {N : zN} {S : zS} {q : Nat} {h : zH} (hi : sInv swM h) (hT : tTk D q h) (hR : RM N S h) {KF : zKF} {KO : zKO} (W : wPay D N S q KF KO) : zSem l Γ false (d + 4) (zhd 211) [.ref 0] h (zLP D KF KO h) := by
  have M0 : sMd lnMd h h := sMd.rf
  unfold wPay at W
  have s0 : pI h 0 21 = (S 3 : Int) := hR.1 3 (by decide)
  have sb0 : 0 ≤ pI h 0 21 ∧ pI h 0 21 ≤ 10 := pbd (iv := (0, 10)) hi (by decide +kernel)
  by_cases hfull : S 3 = 10
  · rw [if_pos hfull] at W
    refine spm_f PayB0 (by omega) ⟨_, _, rfl, rfl, rfl⟩ (sAok.of (iB (by omega) (by omega) iE)) hi ?_
    intro x h' hx hi' hm' hf
    exact ⟨hi', hm'.sub rfl, x, rfl, Or.inl ⟨2, q, W, hx, by rw [← hT.2.2.1]; exact hf⟩⟩
  rw [if_neg hfull] at W
  refine spm_c (fun _ => 0) PayB1 (by omega) ⟨_, _, rfl, rfl, rfl⟩ (sAok.of (iB (by omega) (by omega) iE)) trivial hi ?_
  intro lo1 st1 h1 hp hi1 hm1
  obtain ⟨p1, L1, p3, p4, p5⟩ := hp
  obtain ⟨u0, _, rfl, u0r, hn⟩ := p1
  have u0r : u0 = .ref 0 := u0r
  subst u0r
  have hn : _ = [] := hn
  subst hn
  have M1 := M0.seq (hm1.sub rfl)
  have R1 := hR.md hm1 rfl
  refine zcallV (as := []) zv_Pay16 rfl (by rw [hi1.1]; rfl) ?_
  refine (ztokR (d := d + 1) hi1 (hT.1.md hm1 rfl rfl rfl)).mono ?_
  rintro r2 h2 ⟨rfl, hi2, T2, hm2⟩
  have M2 := M1.seq (hm2.sub rfl)
  have R2 := R1.md hm2 rfl
  have bb : 0 ≤ pI h2 0 19 ∧ pI h2 0 19 ≤ 8 := pbd (iv := (0, 8)) hi2 (by decide +kernel)
  refine spq_c (pc := 19) (fun _ => pI h2 0 19) PayB2 (by omega) L1 (sA0_ok _) ⟨⟨rfl, bb.1, bb.2⟩, trivial⟩ hi2 rfl ?_
  intro lo3 st3 h3 hp hi3 hm3
  obtain ⟨p1, L3, p3, p4, p5⟩ := hp
  obtain ⟨_, _, rfl, ⟨u0, rfl, u0a, u0b⟩, _, _, rfl, ⟨u1, rfl, u1a, u1b⟩, u2, _, rfl, u2r, u3, _, rfl, u3r, hn⟩ := p1
  have u1a : 8 ≤ u1.toInt := u1a
  have u1b : u1.toInt ≤ 8 := u1b
  have u2r : u2 = .ref 6 := u2r
  subst u2r
  have u3r : u3 = .ref 0 := u3r
  subst u3r
  have hn : _ = [] := hn
  subst hn
  have M3 := M2.seq (hm3.sub rfl)
  have R3 := R2.md hm3 rfl
  have T3 := T2.md hm3 rfl
  refine zcallV (as := [.int u0, .int u1, .ref 6]) zv_Pay30 rfl (by rw [hi3.1]; rfl) ?_
  have eS : pI h2 0 19 = (S 1 : Int) := R2.1 1 (by decide)
  obtain ⟨y, ey, hy⟩ := p5 (0, 0, 0) List.mem_cons_self
  cases ey
  have hy : u0.toInt = pI h2 0 19 + 0 := hy
  have sS : S 1 ≤ 8 := by omega
  refine (zThr6 (d := d) hi3 T3 (f := N 1) (r := S 1) (by omega) R3.nm1 (F := u1) (R := u0) (by omega) (by omega)).mono ?_
  rintro rr h4 ⟨hi4, hm4, x4, rfl, hw⟩
  rcases hw _ _ W with ⟨c, p, hF, hx, hf⟩ | ⟨v4, q4, W, hx, T4, g4⟩
  · refine spq_r (pc := 33) (fun _ => 0) (List.all_eq_true.mp PayB3 33 (by decide)) (by omega) L3 (sA0_ok _) trivial hi4 ⟨x4, [], rfl, hx, rfl⟩ ?_
    intro x h' hx hi' hm' _ _
    exact ⟨hi', (M3.seq (hm4.sub rfl)).seq (hm'.sub rfl), x, rfl, Or.inl ⟨c, p, hF, hx, by unfold fM; rw [pI_md hm' rfl, pI_md hm' rfl]; exact hf⟩⟩
  have M4 := M3.seq (hm4.sub rfl)
  have R4 := R3.md hm4 rfl
  have z0 : zget lo3 0 = some (.ref 0) := by
    obtain ⟨v, e, hv⟩ := L3 (0, sr0) List.mem_cons_self
    have hv : v = .ref 0 := hv
    rw [e, hv]
  refine zX_sub (lo2 := [(0, .ref 0)]) (fun t ht => ?_) ?_
  · have ht := List.mem_singleton.mp ht
    subst ht
    exact zget_mem _ _ _ z0
  have hx4 : ¬ x4 = 0 := den (by rw [hx]; decide)
  show zX l Γ false (d + 3 + 1) zh211 _ 0 0 33 [(0, .ref 0)] [.int x4] h4
  refine zpayA hi4.1 (hi4.r1 (q := 0) (k := 27) (r := 6) (by decide +kernel)) hx4 ?_
  have eS4 : pI h4 0 19 = (S 1 : Int) := R4.1 1 (by decide)
  refine zcallV (as := [.int (h4.2.1 0 19), .int (Int8.ofInt 8).toInt32, .ref 6]) (mi := 211) zv_Pay59 rfl (by rw [hi4.1]; rfl) ?_
  refine (zThr6 (d := d) hi4 T4 (f := N 1) (r := S 1) (by omega) R4.nm1 (F := (Int8.ofInt 8).toInt32) (R := h4.2.1 0 19) (by decide) eS4).mono ?_
  rintro rr h5 ⟨hi5, hm5, x5, rfl, hw⟩
  have L5 : ∀ t ∈ [(0, sr0)], ∃ v, zget ([(2, .int (h4.2.1 0 10)), (1, .int (h4.2.1 0 11)), (0, .ref 0)] : zL) t.1 = some v ∧ sTok t.2 v := sfm ⟨.ref 0, rfl, rfl⟩ (fun _ h => nomatch h)
  rcases hw _ _ W with ⟨c, p, hF, hx, hf⟩ | ⟨v5, q5, W, hx, T5, g5⟩
  · refine spq_r (pc := 62) (fun _ => 0) (List.all_eq_true.mp PayB3 62 (by decide)) (by omega) L5 (sA0_ok _) trivial hi5 ⟨x5, [], rfl, hx, rfl⟩ ?_
    intro x h' hx hi' hm' _ _
    exact ⟨hi', (M4.seq (hm5.sub rfl)).seq (hm'.sub rfl), x, rfl, Or.inl ⟨c, p, hF, hx, by unfold fM; rw [pI_md hm' rfl, pI_md hm' rfl]; exact hf⟩⟩
  have M5 := M4.seq (hm5.sub rfl)
  have R5 := R4.md hm5 rfl
  have e10 : (h4.2.1 0 10).toInt = (q4 : Int) := T4.2.2.1
  have qb := T4.2.1
  have qn := T4.1.2.2.2.1
  have e11 : (h4.2.1 0 11).toInt = v4 := g4.1
  by_cases hab : v5 = v4
  · rw [if_pos hab] at W
    obtain ⟨j1, j2, j3⟩ := zpayB_i (B := h4.2.1 0 10) hi5 (by omega)
    refine zpayB (d := d + 2) (A := h4.2.1 0 11) (B := h4.2.1 0 10) hi5.1 (den (by rw [hx]; decide)) (deq (by rw [e11, ← hab]; exact g5.1)) ⟨j1, M5.seq (j2.sub rfl), _, rfl, Or.inl ⟨5, q4, W, by decide, by rw [← e10]; exact j3⟩⟩
  rw [if_neg hab] at W
  have ea : ∃ a : Nat, a < 8 ∧ v4 = (a : Int) := ⟨v4.toNat, by omega, by omega⟩
  have eb : ∃ b : Nat, b < 8 ∧ v5 = (b : Int) := ⟨v5.toNat, by omega, by omega⟩
  obtain ⟨a, ha, ea⟩ := ea
  obtain ⟨b, hb, eb⟩ := eb
  have B4 := List.all_eq_true.mp (List.all_eq_true.mp PayB4 a (List.mem_range.mpr ha)) b (List.mem_range.mpr hb)
  rw [decide_eq_false (by omega : ¬ a = b), Bool.false_or] at B4
  have eT : pI h5 0 21 = (S 3 : Int) := R5.1 3 (by decide)
  have hlt : S 3 < 10 := by omega
  refine spq_c (pc := 62) (fun _ => 0) B4 (by omega) (sfm ⟨.ref 0, rfl, rfl⟩ (sfm ⟨.int (h4.2.1 0 11), rfl, _, rfl, by show (a : Int) ≤ _; omega, by show _ ≤ (a : Int); omega⟩ (sfm ⟨.int (h4.2.1 0 10), rfl, _, rfl, by show 0 ≤ (h4.2.1 0 10).toInt; omega, by show (h4.2.1 0 10).toInt ≤ 700; omega⟩ (fun _ h => nomatch h)))) (sAok.of (iB (by omega) (by omega) iE)) trivial hi5 ⟨x5, [], rfl, hx, rfl⟩ ?_
  intro lo5 st5 h5' hp hi5' hm5'
  obtain ⟨p1, L5', p3, p4, p5⟩ := hp
  have p1 : st5 = [] := p1
  subst p1
  have z0' : zget lo5 0 = some (.ref 0) := by
    obtain ⟨v, e, hv⟩ := L5' (0, sr0) List.mem_cons_self
    rw [e, show v = .ref 0 from hv]
  obtain ⟨wa, ea1, ⟨xa, exa, xa1, xa2⟩⟩ := L5' (1, sI1 a a) (List.mem_cons_of_mem _ List.mem_cons_self)
  subst exa
  have xa1 : (a : Int) ≤ xa.toInt := xa1
  have xa2 : xa.toInt ≤ (a : Int) := xa2
  have M5' := M5.seq (hm5'.sub rfl)
  have R5' := R5.md hm5' rfl
  have T5' := T5.md hm5' rfl
  have g11 : pI h5' 0 11 = v5 := (pI_md hm5' rfl).trans g5.1
  have g21 : pI h5' 0 21 = (S 3 : Int) := (pI_md hm5' rfl).trans eT
  refine spe_ok (mi := 211) (pc := 86) (fun i => [xa.toInt, pI h5' 0 11].getD i 0) (List.all_eq_true.mp PayB7 (S 3) (List.mem_range.mpr hlt)) (fun mi c h => nomatch h) (by omega) ⟨z0', ⟨xa, ea1, rfl, by show 0 ≤ xa.toInt; omega, by show xa.toInt ≤ 7; omega⟩, trivial⟩ rfl (sAok.of (iB (by omega) (by omega) iE)) ⟨⟨rfl, by show 0 ≤ pI h5' 0 11; omega, by show pI h5' 0 11 ≤ 7; omega⟩, trivial⟩ hi5' ?_ (fun e he => nomatch he)
  intro e he lo6 st6 h6 hp hi6 hm6
  have he := List.mem_singleton.mp he
  subst he
  obtain ⟨p1, L6, p3, pE⟩ := hp
  obtain ⟨_, _, rfl, ⟨u0, rfl, u0a, u0b⟩, _, _, rfl, ⟨u1, rfl, u1a, u1b⟩, u2, _, rfl, u2r, hn⟩ := p1
  have u0a : 99 ≤ u0.toInt := u0a
  have u0b : u0.toInt ≤ 99 := u0b
  have u1a : 0 ≤ u1.toInt := u1a
  have u1b : u1.toInt ≤ 0 := u1b
  have u2r : u2 = .ref 0 := u2r
  subst u2r
  have hn : _ = [] := hn
  subst hn
  have c14_6 : pI h6 14 (10 + S 3) = v4 := by
    have z : (h6.2.1 14 (((10 + S 3 : Nat) : Int)).toNat).toInt = 1 * xa.toInt + 0 + 0 := pE.1 (14, (none, ((10 + S 3 : Nat) : Int)), ([(0, 1)], 0)) List.mem_cons_self
    rw [Int.toNat_natCast] at z
    show (h6.2.1 14 (10 + S 3)).toInt = _
    omega
  have c15_6 : pI h6 15 (10 + S 3) = v5 := by
    have z : (h6.2.1 15 (((10 + S 3 : Nat) : Int)).toNat).toInt = 1 * pI h5' 0 11 + 0 + 0 := pE.1 (15, (none, ((10 + S 3 : Nat) : Int)), ([(1, 1)], 0)) (List.mem_cons_of_mem _ List.mem_cons_self)
    rw [Int.toNat_natCast] at z
    show (h6.2.1 15 (10 + S 3)).toInt = _
    omega
  have M6 := M5'.seq ((mdR3 (n := 10) hlt hm6).sub rfl)
  have R6 := R5'.col hm6 (fun u hu => by
    rcases List.mem_cons.mp hu with e | hu
    · exact ⟨(9, 14, 10, 3), by decide, e⟩
    · exact ⟨(10, 15, 10, 3), by decide, List.mem_singleton.mp hu⟩)
  have T6 := T5'.md hm6 rfl
  have L60 : ∀ t ∈ [(0, sr0)], ∃ v, zget lo6 t.1 = some v ∧ sTok t.2 v := sfm (L6 (0, sr0) List.mem_cons_self) (fun _ h => nomatch h)
  refine zcallV (as := [.int u0, .int u1]) zv_Pay115 rfl (by rw [hi6.1]; rfl) ?_
  refine (zNumR (d := d) hi6 T6 (a := u1) (b := u0) (L := 0) (H := 99) (by omega) (by omega) (by decide)).mono ?_
  rintro rr h7 ⟨hi7, hm7, x7, rfl, hw⟩
  rcases hw _ _ W with ⟨c, p, hF, hx, hf⟩ | ⟨v7, q7, W, hx, T7, g7⟩
  · refine spq_r (pc := 118) (fun _ => 0) (List.all_eq_true.mp PayB3 118 (by decide)) (by omega) L60 (sA0_ok _) trivial hi7 ⟨x7, [], rfl, hx, rfl⟩ ?_
    intro x h' hx hi' hm' _ _
    exact ⟨hi', (M6.seq (hm7.sub rfl)).seq (hm'.sub rfl), x, rfl, Or.inl ⟨c, p, hF, hx, by unfold fM; rw [pI_md hm' rfl, pI_md hm' rfl]; exact hf⟩⟩
  have M7 := M6.seq (hm7.sub rfl)
  have R7 := R6.md hm7 rfl
  have c14_7 : pI h7 14 (10 + S 3) = v4 := (pI_md hm7 (smem_q rfl _)).trans c14_6
  have c15_7 : pI h7 15 (10 + S 3) = v5 := (pI_md hm7 (smem_q rfl _)).trans c15_6
  refine spq_c (pc := 118) (fun _ => pI h7 0 11) (List.all_eq_true.mp PayB5 (S 3) (List.mem_range.mpr hlt)) (by omega) L6 (sA0_ok _) ⟨⟨rfl, by show 0 ≤ pI h7 0 11; omega, by show pI h7 0 11 ≤ 99; omega⟩, trivial⟩ hi7 ⟨x7, [], rfl, hx, rfl⟩ ?_
  intro lo8 st8 h8 hp hi8 hm8
  obtain ⟨p1, L8, p3, p4, p5⟩ := hp
  obtain ⟨_, _, rfl, ⟨u0, rfl, u0a, u0b⟩, _, _, rfl, ⟨u1, rfl, u1a, u1b⟩, u2, _, rfl, u2r, hn⟩ := p1
  have u0a : 99 ≤ u0.toInt := u0a
  have u0b : u0.toInt ≤ 99 := u0b
  have u1a : 1 ≤ u1.toInt := u1a
  have u1b : u1.toInt ≤ 1 := u1b
  have u2r : u2 = .ref 0 := u2r
  subst u2r
  have hn : _ = [] := hn
  subst hn
  have c16_8 : pI h8 16 (10 + S 3) = v7 := by
    have z : pI h8 16 (10 + S 3) = pI h7 0 11 + 0 := p4 (16, 10 + S 3, 0, 0) List.mem_cons_self
    omega
  have c14_8 : pI h8 14 (10 + S 3) = v4 := (pI_md hm8 (smem_q rfl _)).trans c14_7
  have c15_8 : pI h8 15 (10 + S 3) = v5 := (pI_md hm8 (smem_q rfl _)).trans c15_7
  have M8 := M7.seq ((mdR (n := 10) hlt hm8).sub rfl)
  have R8 := R7.col hm8 (fun u hu => ⟨(11, 16, 10, 3), by decide, List.mem_singleton.mp hu⟩)
  have T8 := T7.md hm8 rfl
  have L80 : ∀ t ∈ [(0, sr0)], ∃ v, zget lo8 t.1 = some v ∧ sTok t.2 v := sfm (L8 (0, sr0) List.mem_cons_self) (fun _ h => nomatch h)
  refine zcallV (as := [.int u0, .int u1]) zv_Pay137 rfl (by rw [hi8.1]; rfl) ?_
  refine (zNumR (d := d) hi8 T8 (a := u1) (b := u0) (L := 1) (H := 99) (by omega) (by omega) (by decide)).mono ?_
  rintro rr h9 ⟨hi9, hm9, x9, rfl, hw⟩
  rcases hw _ _ W with ⟨c, p, hF, hx, hf⟩ | ⟨v9, q9, W, hx, T9, g9⟩
  · refine spq_r (pc := 140) (fun _ => 0) (List.all_eq_true.mp PayB3 140 (by decide)) (by omega) L80 (sA0_ok _) trivial hi9 ⟨x9, [], rfl, hx, rfl⟩ ?_
    intro x h' hx hi' hm' _ _
    exact ⟨hi', (M8.seq (hm9.sub rfl)).seq (hm'.sub rfl), x, rfl, Or.inl ⟨c, p, hF, hx, by unfold fM; rw [pI_md hm' rfl, pI_md hm' rfl]; exact hf⟩⟩
  have M9 := M8.seq (hm9.sub rfl)
  have R9 := R8.md hm9 rfl
  have c14_9 : pI h9 14 (10 + S 3) = v4 := (pI_md hm9 (smem_q rfl _)).trans c14_8
  have c15_9 : pI h9 15 (10 + S 3) = v5 := (pI_md hm9 (smem_q rfl _)).trans c15_8
  have c16_9 : pI h9 16 (10 + S 3) = v7 := (pI_md hm9 (smem_q rfl _)).trans c16_8
  have eS9 : pI h9 0 21 = (S 3 : Int) := R9.1 3 (by decide)
  refine spq_r (pc := 140) (fun i => [pI h9 0 21, pI h9 0 11].getD i 0) (List.all_eq_true.mp PayB6 (S 3) (List.mem_range.mpr hlt)) (by omega) L8 (sAok.of (iB (by omega) (by omega) iE)) ⟨⟨rfl, by show 0 ≤ pI h9 0 21; omega, by show pI h9 0 21 ≤ 9; omega⟩, ⟨rfl, by show 1 ≤ pI h9 0 11; omega, by show pI h9 0 11 ≤ 99; omega⟩, trivial⟩ hi9 ⟨x9, [], rfl, hx, rfl⟩ ?_
  intro x h' hx hi' hm' hA' hr'
  refine ⟨hi', M9.seq ((mdR2 (n := 10) hlt hm').sub rfl), x, rfl, Or.inr ⟨_, _, _, W, hx, T9.md hm' rfl, ?_⟩⟩
  have c14_F : pI h' 14 (10 + S 3) = v4 := (pI_md hm' (smem_q rfl _)).trans c14_9
  have c15_F : pI h' 15 (10 + S 3) = v5 := (pI_md hm' (smem_q rfl _)).trans c15_9
  have c16_F : pI h' 16 (10 + S 3) = v7 := (pI_md hm' (smem_q rfl _)).trans c16_9
  have e1 : pI h' 0 21 = pI h9 0 21 + 1 := hr' (0, 21, 0, 1) List.mem_cons_self
  have cL : pI h' 17 (10 + S 3) = v9 := by
    have z : pI h' 17 (10 + S 3) = pI h9 0 11 + 0 := hr' (17, 10 + S 3, 1, 0) (List.mem_cons_of_mem _ List.mem_cons_self)
    omega
  refine R9.fin hm' (j0 := 3) (by decide) (by show pI h' 0 21 = _; omega) (fun u hu => ?_) (fun t ht et => ?_) (fun c i hc => ?_)
  · rcases List.mem_cons.mp hu with e | hu
    · exact Or.inl e
    · exact Or.inr ⟨(12, 17, 10, 3), by decide, rfl, List.mem_singleton.mp hu⟩
  · simp only [colsA, List.mem_cons, List.not_mem_nil, or_false] at ht
    rcases ht with rfl | rfl | rfl | rfl | rfl | rfl | rfl | rfl | rfl | rfl | rfl | rfl | rfl | rfl
    · exact absurd et (by decide)
    · exact absurd et (by decide)
    · exact absurd et (by decide)
    · exact absurd et (by decide)
    · exact absurd et (by decide)
    · exact absurd et (by decide)
    · exact absurd et (by decide)
    · exact absurd et (by decide)
    · exact absurd et (by decide)
    · show pI h' 14 (10 + S 3) = _
      rw [c14_F]
      simp only [nG, nT, nPy]
      rw [nU_ne (by omega)]
      rw [nU_ne (by omega)]
      rw [nU_ne (by omega)]
      rw [nU_at]
    · show pI h' 15 (10 + S 3) = _
      rw [c15_F]
      simp only [nG, nT, nPy]
      rw [nU_ne (by omega)]
      rw [nU_ne (by omega)]
      rw [nU_at]
    · show pI h' 16 (10 + S 3) = _
      rw [c16_F]
      simp only [nG, nT, nPy]
      rw [nU_ne (by omega)]
      rw [nU_at]
    · show pI h' 17 (10 + S 3) = _
      rw [cL]
      simp only [nG, nT, nPy]
      rw [nU_at]
    · exact absurd et (by decide)
  · simp only [nG, nT, nPy]
    rw [nU_ne (fun g => hc ⟨g.2, (12, 17, 10, 3), by decide, rfl, g.1⟩)]
    rw [nU_ne (fun g => hc ⟨g.2, (11, 16, 10, 3), by decide, rfl, g.1⟩)]
    rw [nU_ne (fun g => hc ⟨g.2, (10, 15, 10, 3), by decide, rfl, g.1⟩)]
    rw [nU_ne (fun g => hc ⟨g.2, (9, 14, 10, 3), by decide, rfl, g.1⟩)]
/-! lineRead behind a line -/
def lnP : List Nat := [72, 80, 88, 96, 104, 115, 126]
def lnL : List (Nat × sT) := [(0, sr0)]
theorem lnB0 : lnP.all (fun p => spqB swM sT0 [] 100 1 201 lnL sA0 [] [0] p [] [rI 0 sA0 []]) = true := by decide +kernel
def lnF : List sAs := [([(0, 8, (0, 3))], [], [], []), ([(0, 8, (5, 6))], [], [], []), ([(0, 8, (4, 4)), (0, 9, (-2147483648, 58))], [], [], []), ([(0, 8, (4, 4)), (0, 9, (60, 2147483647))], [], [], [])]
theorem lnB1 : lnP.all (fun p => lnF.all (fun A => spqB swM sT0 [(0, 4, 6)] 100 1 201 lnL A fP [1] p [] [fR 1])) = true := by decide +kernel
theorem lnB2 : lnP.all (fun p => spqB swM sT0 [] 100 1 201 lnL ([(0, 8, (4, 4)), (0, 9, (59, 59))], [], [], []) [] [1] p [(249, [sr0], lnL, sA0, [], [])] []) = true := by decide +kernel
theorem lnB3 : spqB swM sT0 [] 100 1 201 lnL sA0 [] [] 252 [] [rI 1 sA0 []] = true := by decide +kernel
theorem zv_ln : zcvB 201 249 12 0 195 = true := by decide +kernel
theorem lnF_in {D : zD} {q : Nat} {h : zH} (hT : tTk D q h) (h4 : kF D q ≠ 4) : ∃ A ∈ lnF, sAok A h := by
  have f := tkB_f hT.2.2.2
  have w9 : -2147483648 ≤ pI h 0 9 ∧ pI h 0 9 ≤ 2147483647 := i32bd (h.2.1 0 9)
  by_cases c1 : pI h 0 8 ≤ 3
  · exact ⟨_, List.mem_cons_self, sAok.of (iB (by omega) c1 iE)⟩
  by_cases c2 : 5 ≤ pI h 0 8
  · exact ⟨_, List.mem_cons_of_mem _ List.mem_cons_self, sAok.of (iB c2 (by omega) iE)⟩
  by_cases c3 : pI h 0 9 ≤ 58
  · exact ⟨_, List.mem_cons_of_mem _ (List.mem_cons_of_mem _ List.mem_cons_self), sAok.of (iB (by omega) (by omega) (iB (by omega) c3 iE))⟩
  · exact ⟨_, List.mem_cons_of_mem _ (List.mem_cons_of_mem _ (List.mem_cons_of_mem _ List.mem_cons_self)), sAok.of (iB (by omega) (by omega) (iB (by omega) (by omega) iE))⟩
theorem zlnE {l : Launch} {Γ : zG} {d : Nat} {D : zD} {h0 h : zH} {p : Nat} (hp : p ∈ lnP) {KF : zKF} {KO : zKO} {lo : zL} {st : Option Value} (hL : ∀ t ∈ lnL, ∃ v, zget lo t.1 = some v ∧ sTok t.2 v) (hZ : zLP D KF (fun N S q => wEnd D q KF (KO N S)) h0 st h) : zX l Γ false (d + 4) (zhd 201) (zMQ' Γ false (zhd 201) (zLP D KF KO h0)) 0 0 p lo st.toList h := by
  obtain ⟨hi, hm, x, rfl, ⟨c, q, hF, hx, hf⟩ | ⟨N, S, q, W, hx, T, R⟩⟩ := hZ
  · refine spq_r (pc := p) (fun _ => 0) (List.all_eq_true.mp lnB0 p hp) (by omega) hL (sA0_ok _) trivial hi ⟨x, [], rfl, hx, rfl⟩ ?_
    intro x h' hx hi' hm' _ _
    exact ⟨hi', hm.seq (hm'.sub rfl), x, rfl, Or.inl ⟨c, q, hF, hx, by unfold fM; rw [pI_md hm' rfl, pI_md hm' rfl]; exact hf⟩⟩
  · unfold wEnd at W
    by_cases h4 : kF D q = 4
    · rw [if_pos h4] at W
      have f := tkB_f T.2.2.2
      refine spq_c (pc := p) (fun _ => 0) (List.all_eq_true.mp lnB2 p hp) (by omega) hL (sAok.of (iB (by omega) (by omega) (iB (by omega) (by omega) iE))) trivial hi ⟨x, [], rfl, hx, rfl⟩ ?_
      intro lo1 st1 h1 hp1 hi1 hm1
      obtain ⟨p1, L1, p3, p4, p5⟩ := hp1
      obtain ⟨u0, _, rfl, u0r, hn⟩ := p1
      have u0r : u0 = .ref 0 := u0r
      subst u0r
      have hn : _ = [] := hn
      subst hn
      refine zcallV (as := []) zv_ln rfl (by rw [hi1.1]; rfl) ?_
      refine (ztokR (d := d + 1) hi1 (T.1.md hm1 rfl rfl rfl)).mono ?_
      rintro r2 h2 ⟨rfl, hi2, T2, hm2⟩
      refine spq_r (pc := 252) (fun _ => 0) lnB3 (by omega) L1 (sA0_ok _) trivial hi2 rfl ?_
      intro x h' hx hi' hm' _ _
      exact ⟨hi', ((hm.seq (hm1.sub rfl)).seq (hm2.sub rfl)).seq (hm'.sub rfl), x, rfl, Or.inr ⟨N, S, qF D q, W, hx, T2.md hm' rfl, ((R.md hm1 rfl).md hm2 rfl).md hm' rfl⟩⟩
    · rw [if_neg h4] at W
      obtain ⟨A, hA, ok⟩ := lnF_in T h4
      refine spq_f (pc := p) (List.all_eq_true.mp (List.all_eq_true.mp lnB1 p hp) A hA) (by omega) hL ok hi ⟨x, [], rfl, hx, rfl⟩ ?_
      intro x h' hx hi' hm' hf
      exact ⟨hi', hm.seq (hm'.sub rfl), x, rfl, Or.inl ⟨1, q, W, hx, by rw [← T.2.2.1]; exact hf⟩⟩
