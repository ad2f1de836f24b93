/-! the class: ')' and signs -/
theorem wPop_hd (a : Int) : ∀ s, wPop a s = [] ∨ ∃ x t, wPop a s = x :: t ∧ ¬ (x ≠ 5 ∧ a ≤ tgt x)
  | [] => Or.inl rfl
  | x :: s => by
    simp only [wPop]
    split
    · exact wPop_hd a s
    · rename_i e
      exact Or.inr ⟨x, s, rfl, e⟩
theorem lcM_s {L : Nat} (hL : rL L) : ssubB (rlM L) (lcM L) = true ∧ ssubB [(6, 1, 3)] (lcM L) = true ∧ (rlM L).all (fun t => !(t.1 == 1)) = true ∧ (rlM L).all (fun t => !(t.1 == 3)) = true ∧ smem (rlM L) 6 2 = false ∧ smem (rlM L) 6 3 = false ∧ smem (rlM L) 6 4 = false ∧ smem (rlM L) L 2 = false := by
  rcases hL with rfl | rfl <;> exact ⟨rfl, rfl, rfl, rfl, rfl, rfl, rfl, rfl⟩
def cl7 (L : Nat) : List (Nat × sT) := [(0, .inr (.inl 6)), (1, .inr (.inl L))]
theorem cl71 : LLs.all (fun L => spmB swC sT0 [] 200 1 67 [] [.inr (.inl 6), .inr (.inl L)] sA0 [] [(3, [sI1 0 0, .inr (.inl L), .inr (.inl 6)], cl7 L, sA0, [], [])] [] && spqB swC sT0 [(6, 1, 3)] 200 1 67 (cl7 L) sA0 [(6, (none, 1), (1, 72)), (6, (none, 2), (1, 8))] [] 6 [] [(none, sA0, [(6, 1, 0, -1), (6, 2, 1, -1)])]) = true := by decide +kernel
theorem zv_cl7 : zcvB 67 3 3 2 68 = true := by decide +kernel
theorem zclF {l : Launch} {Γ : zG} {d L : Nat} (hL : rL L) {D : zD} {h : zH} {b : Nat} {g : Nat → Int} {s e : List Int} {o cN q : Nat} {nm : Bool} (hi : sInv swC h) (hT : cTk D q h) (h0 : pI h 3 8 = 0) (hS : LC L b g s o false nm cN e h) (h6 : kF D q = 6 ∧ 0 < o) : zSem l Γ false (d + 4) (zhd 67) [.ref 6, .ref L] h (LCO D L b g h s o false nm cN e q) := by
  obtain ⟨e2, e3, e4, eL, e5, bc, bo, c, e1, es, hk, hle, hX⟩ := hS
  have L67 : L ≠ 6 ∧ L ≠ 7 ∧ L ≠ 3 ∧ L ≠ 1 ∧ 19 < L := by rcases hL with rfl | rfl <;> decide
  have B := List.all_eq_true.mp cl71 L (rL_in hL)
  simp only [Bool.and_eq_true] at B
  obtain ⟨ms1, ms2, ms3, ms4, ms5, ms6, ms7, ms8⟩ := lcM_s hL
  refine spm_c (fun _ => 0) B.1 (by omega) ⟨_, _, rfl, rfl, _, _, rfl, rfl, rfl⟩ (sA0_ok _) trivial hi ?_
  intro lo1 st1 h1 hp hi1 hm1
  obtain ⟨p1, L1, p3, p4, p5⟩ := hp
  obtain ⟨_, _, rfl, ⟨v, rfl, va, vb⟩, u1, _, rfl, u1r, u2, _, rfl, u2r, hn⟩ := p1
  have va : 0 ≤ v.toInt := va
  have vb : v.toInt ≤ 0 := vb
  have u1r : u1 = .ref L := u1r
  subst u1r
  have u2r : u2 = .ref 6 := u2r
  subst u2r
  have hn : _ = [] := hn
  subst hn
  have w1 : ∀ a b, pI h1 a b = pI h a b := fun a b => pI_md hm1 rfl
  refine zcallR (as := [.int v, .ref L]) (rest := []) (q0 := 6) zv_cl7 rfl (by decide) (by rw [hi1.1]; rfl) ?_
  have es1 : stK (pI h1 7) c = s := (stK_eq c (fun i _ => w1 7 i)).trans es.symm
  refine (zRel (d := d) hL hi1 ((w1 6 1).trans e1) (fun i hlt => by rw [w1]; exact hk i hlt) (hX.md hm1 rfl (fun _ => rfl)) (by rw [es1, e5]; omega) (a := 0) (by decide) (x := v) (by omega)).mono ?_
  rintro rr h2 ⟨rfl, hi2, hm2, c2, f1, f2, f3, X2, n2⟩
  rw [es1] at X2 n2
  have f3 : stK (pI h2 7) c2 = wPop 0 s := by rw [f3, es1]
  have k7 : ∀ i, pI h2 7 i = pI h 7 i := fun i => (pI_md hm2 (by rcases hL with rfl | rfl <;> rfl)).trans (w1 7 i)
  have g2 : pI h2 6 2 = (o : Int) := (pI_md hm2 ms5).trans ((w1 6 2).trans e2)
  have b72 : pI h2 6 1 ≤ 72 := by
    have g := hi2.2.2.1 6 1
    rw [show sIv swC 6 1 = (0, 72) from by decide +kernel] at g
    exact g.2
  have cp := c5_pop 0 s
  match c2, f1, f2, f3 with
  | 0, f1, f2, f3 =>
    rw [← f3] at cp
    simp only [stK, c5] at cp
    omega
  | c2 + 1, f1, f2, f3 =>
    have f3' : pI h2 7 c2 :: stK (pI h2 7) c2 = wPop 0 s := f3
    have top : pI h2 7 c2 = 5 := by
      rcases wPop_hd 0 s with e | ⟨x, t, e, hx⟩
      · rw [e] at f3'
        cases f3'
      · rw [e] at f3'
        injection f3' with e1 e2
        have := tgt_0 x
        have hx5 : x = 5 := by
          by_cases g : x = 5
          · exact g
          · exact absurd ⟨g, this.1⟩ hx
        omega
    refine spq_ok (pc := 6) (fun i => match i with
      | 0 => pI h2 6 1
      | _ => pI h2 6 2) B.2 (fun mi c h => nomatch h) (by omega) L1 (sA0_ok _) ⟨⟨rfl, by show 1 ≤ pI h2 6 1; omega, b72⟩, ⟨rfl, by show 1 ≤ pI h2 6 2; omega, by show pI h2 6 2 ≤ 8; omega⟩, trivial⟩ hi2 rfl (fun e he => nomatch he) ?_
    intro e0 he r' h3 hp3 hi3 hm3
    have e0 := List.mem_singleton.mp he
    subst e0
    have q1 : pI h3 6 1 = pI h2 6 1 + -1 := hp3.2.2 (6, 1, 0, -1) List.mem_cons_self
    have q2 : pI h3 6 2 = pI h2 6 2 + -1 := hp3.2.2 (6, 2, 1, -1) (List.mem_cons_of_mem _ List.mem_cons_self)
    have m3 : ∀ i, pI h3 7 i = pI h2 7 i := fun i => pI_md hm3 rfl
    have et : (wPop 0 s).tail = stK (pI h3 7) c2 := by
      rw [← f3']
      exact stK_eq c2 (fun i _ => (m3 i).symm)
    have e5' : c5 (wPop 0 s).tail = o - 1 := by
      rw [← f3'] at cp ⊢
      simp only [c5] at cp
      rw [if_pos top] at cp
      show c5 (stK (pI h2 7) c2) = o - 1
      omega
    refine ⟨hp3.1, hi3, ((hm1.sub rfl).seq (hm2.sub ms1)).seq (hm3.sub ms2), fun m KF KO g => Or.inr ⟨(wPop 0 s).tail, o - 1, false, nm, cN, wRl 0 s e, ?_, by omega, ?_, ?_, ⟨by omega, ?_, ?_, ?_, e5', bc, by omega, c2, by omega, et, fun i hlt => ?_, by omega, X2.md hm3 (by rcases hL with rfl | rfl <;> rfl) (fun i => by rcases hL with rfl | rfl <;> rfl)⟩⟩⟩
    · rw [wSum, if_neg (by decide), if_pos h6] at g
      exact g
    · rw [pI_md hm3 rfl, pI_md hm2 (smem_q ms4 8), w1]
      exact h0
    · exact ((hT.mdo hm1 rfl (fun j _ => rfl)).mdo hm2 ms3 (fun j _ => smem_q ms4 j)).mdo hm3 rfl (fun j _ => rfl)
    · rw [pI_md hm3 rfl, pI_md hm2 ms6, w1]
      exact e3
    · rw [pI_md hm3 rfl, pI_md hm2 ms7, w1]
      exact e4
    · rw [pI_md hm3 (by rcases hL with rfl | rfl <;> rfl), pI_md hm2 ms8, w1]
      exact eL
    · rw [m3 i, k7 i]
      exact hk i (by omega)
/-! signs -/
def tC : List Int := [29, 30, 31, 32, 33, 34, 35, 36, 37, 38, 39, 40]
def rC : List Int := [1, 2, 4, 5, 6]
def tsA (r : Int) : Int := if r = 4 then 5 else r
def tsK (L : Nat) (r : Int) : List (Nat × sT) := [(0, .inr (.inl 6)), (1, .inr (.inl 3)), (2, .inr (.inl L)), (3, sI1 r r)]
theorem tC_ok : tC.all (fun t => decide (tgt t ∈ rC) && (decide (t ∈ kC) && decide (tsA (tgt t) ∈ aC))) = true := by decide +kernel
theorem ts1 : LLs.all (fun L => tC.all (fun t => spmB swC sT0 [] 300 2 71 [] (oA L) (a1 [(3, 4, (t, t))]) [] [(22, [sI1 (tsA (tgt t)) (tsA (tgt t)), .inr (.inl L), .inr (.inl 6)], tsK L (tgt t), sA0, [], [])] [])) = true := by decide +kernel
def tsM (L : Nat) : sM := [(3, 8, 10), (6, 1, 2), (6, 3, 5), (7, 0, 72), (L, 2, 3)]
theorem ts2 : LLs.all (fun L => kC.all (fun u => if tgt u = 4 then spqB swC sT0 (tsM L) 400 3 71 (tsK L 4) (a1 [(3, 8, (0, 0))]) [(3, (none, 5), (0, 700)), (6, (none, 1), (1, 72)), (7, (some 1, -1), (u, u))] [] 25 [] [cfR 1] else true)) = true := by decide +kernel
def tsE (L : Nat) (r : Int) : sEd := (63, [.inr (.inl L), .inr (.inl 3), .inr (.inl 6)], tsK L r, sA0, [], [])
theorem ts3 : LLs.all (fun L => rC.all (fun r => spqB swC sT0 [] 200 2 71 (tsK L r) (a1 [(6, 1, (0, 0))]) [] [] 25 [tsE L r] [] && kC.all (fun u => if r = 4 ∧ tgt u = 4 then true else spqB swC sT0 [] 200 2 71 (tsK L r) sA0 [(6, (none, 1), (1, 72)), (7, (some 0, -1), (u, u))] [] 25 [tsE L r] []))) = true := by decide +kernel
theorem ck1 : LLs.all (fun L => spmB swC sT0 [(3, 8, 10)] 100 1 65 [] (oA L) (a1 [(3, 8, (0, 0)), (L, 2, (64, 64))]) cfP [] [cfR 2] && spmB swC sT0 [(L, 2, 3)] 100 1 65 [] (oA L) sA0 [(L, (none, 2), (0, 63))] [] [(none, sA0, [(L, 2, 0, 1)])]) = true := by decide +kernel
theorem ts4 : LLs.all (fun L => rC.all (fun r => spqB swC sT0 [(6, 1, 2), (6, 3, 5), (7, 0, 72)] 300 3 71 (tsK L r) (a1 [(3, 8, (1, 5))]) [] [] 66 [] [(none, sA0, [])] && spqB swC sT0 [(6, 3, 5)] 100 1 71 (tsK L r) sA0 [] [] 74 [] [(none, a1 [(6, 3, (1, 1)), (6, 4, (if r < 4 then (1, 1) else (0, 0)))], [])])) = true := by decide +kernel
theorem ts5 : LLs.all (fun L => tC.all (fun t => spqB swC sT0 [] 100 1 71 (tsK L (tgt t)) (a1 [(3, 4, (t, t))]) [] [] 66 [(71, [sI1 t t, .inr (.inl 6)], tsK L (tgt t), sA0, [], [])] [])) = true := by decide +kernel
theorem pu1 : (List.range 72).all (fun c => tC.all (fun t => spmB swC sT0 [(6, 1, 2), (7, c, c + 1)] 100 1 64 [] [.inr (.inl 6), sI1 t t] (a1 [(6, 1, ((c : Int), (c : Int)))]) [] [] [(none, a1 [(6, 1, ((c : Int) + 1, (c : Int) + 1)), (7, c, (t, t))], [])])) = true := by decide +kernel
theorem zv_ts22 : zcvB 71 22 3 2 68 = true := by decide +kernel
theorem zv_ts63 : zcvB 71 63 3 2 65 = true := by decide +kernel
theorem zv_ts71 : zcvB 71 71 3 1 64 = true := by decide +kernel
theorem zsgC {l : Launch} {Γ : zG} {d L : Nat} (hL : rL L) {D : zD} {h : zH} {b : Nat} {g : Nat → Int} {s e : List Int} {o cN q : Nat} {nm : Bool} (hi : sInv swC h) (hT : cTk D q h) (h0 : pI h 3 8 = 0) (hS : LC L b g s o false nm cN e h) (hs : 29 ≤ kF D q ∧ kF D q ≤ 40) : zSem l Γ false (d + 4) (zhd 71) [.ref 6, .ref 3, .ref L] h (LCO D L b g h s o false nm cN e q) := by
  obtain ⟨e2, e3, e4, eL, e5, bc, bo, c, e1, es, hk, hle, hX⟩ := hS
  have L67 : L ≠ 6 ∧ L ≠ 7 ∧ L ≠ 3 ∧ L ≠ 1 ∧ 19 < L := by rcases hL with rfl | rfl <;> decide
  have tk := hT.2.2.1
  have t5 := hT.2.2.2.1
  obtain ⟨t, et⟩ : ∃ t, t = kF D q := ⟨_, rfl⟩
  have tin : t ∈ tC := by
    simp only [tC, List.mem_cons, List.not_mem_nil, or_false]
    omega
  have TC := List.all_eq_true.mp tC_ok t tin
  simp only [Bool.and_eq_true, decide_eq_true_eq] at TC
  obtain ⟨rin, kin, ain⟩ := TC
  have hLi := rL_in hL
  obtain ⟨ms1, ms2, ms3, ms4, ms5, ms6, ms7, ms8⟩ := lcM_s hL
  have B1 := List.all_eq_true.mp (List.all_eq_true.mp ts1 L hLi) t tin
  have B3 := List.all_eq_true.mp (List.all_eq_true.mp ts3 L hLi) _ rin
  have B4 := List.all_eq_true.mp (List.all_eq_true.mp ts4 L hLi) _ rin
  have B5 := List.all_eq_true.mp (List.all_eq_true.mp ts5 L hLi) t tin
  have CK := List.all_eq_true.mp ck1 L hLi
  simp only [Bool.and_eq_true] at B3 B4 CK
  have n6 : ¬ (kF D q = 6 ∧ 0 < o) := by omega
  have sa : (if tgt (kF D q) = 4 then 5 else tgt (kF D q)) = tsA (tgt t) := by rw [et]; rfl
  have args : sTL (oA L) [.ref 6, .ref 3, .ref L] := ⟨_, _, rfl, rfl, _, _, rfl, rfl, _, _, rfl, rfl, rfl⟩
  refine spm_c (fun _ => 0) B1 (by omega) args (sAok.of (iB (by omega) (by omega) iE)) trivial hi ?_
  intro lo1 st1 h1 hp hi1 hm1
  obtain ⟨p1, L1, p3, p4, p5⟩ := hp
  obtain ⟨_, _, rfl, ⟨v, rfl, va, vb⟩, u1, _, rfl, u1r, u2, _, rfl, u2r, hn⟩ := p1
  have va : tsA (tgt t) ≤ v.toInt := va
  have vb : v.toInt ≤ tsA (tgt t) := vb
  have u1r : u1 = .ref L := u1r
  subst u1r
  have u2r : u2 = .ref 6 := u2r
  subst u2r
  have hn : _ = [] := hn
  subst hn
  have w1 : ∀ a b, pI h1 a b = pI h a b := fun a b => pI_md hm1 rfl
  refine zcallR (as := [.int v, .ref L]) (rest := []) (q0 := 6) zv_ts22 rfl (by decide) (by rw [hi1.1]; rfl) ?_
  have es1 : stK (pI h1 7) c = s := (stK_eq c (fun i _ => w1 7 i)).trans es.symm
  refine (zRel (d := d) hL hi1 ((w1 6 1).trans e1) (fun i hlt => by rw [w1]; exact hk i hlt) (hX.md hm1 rfl (fun _ => rfl)) (by rw [es1, e5]; omega) ain (x := v) (by omega)).mono ?_
  rintro rr h2 ⟨rfl, hi2, hm2, c2, f1, f2, f3, X2, n2⟩
  rw [es1] at X2 n2
  have f3 : wPop (tsA (tgt t)) s = stK (pI h2 7) c2 := by rw [f3, es1]
  have k7 : ∀ i, pI h2 7 i = pI h 7 i := fun i => (pI_md hm2 (by rcases hL with rfl | rfl <;> rfl)).trans (w1 7 i)
  have hk2 : ∀ i, i < c2 → pI h2 7 i ∈ kC := fun i hlt => by rw [k7 i]; exact hk i (by omega)
  have b72 : 0 ≤ pI h2 6 1 ∧ pI h2 6 1 ≤ 72 := by
    have g := hi2.2.2.1 6 1
    rw [show sIv swC 6 1 = (0, 72) from by decide +kernel] at g
    exact g
  have cp := c5_pop (tsA (tgt t)) s
  rw [f3] at cp
  have M2 : sMd (lcM L) h h2 := (hm1.sub rfl).seq (hm2.sub ms1)
  have z2 : pI h2 3 8 = 0 := (pI_md hm2 (smem_q ms4 8)).trans ((w1 3 8).trans h0)
  have T2 : cTk D q h2 := (hT.mdo hm1 rfl (fun j _ => rfl)).mdo hm2 ms3 (fun j _ => smem_q ms4 j)
  have L2 : pI h2 L 2 = (cN : Int) := (pI_md hm2 ms8).trans ((w1 L 2).trans eL)
  have O2 : pI h2 6 2 = (o : Int) := (pI_md hm2 ms5).trans ((w1 6 2).trans e2)
  have t52 : pI h2 3 5 = (q : Int) := T2.2.2.2.1
  have b35 : 0 ≤ pI h2 3 5 ∧ pI h2 3 5 ≤ 700 := by
    have g := hi2.2.2.1 3 5
    rw [show sIv swC 3 5 = (0, 700) from by decide +kernel] at g
    exact g
  have gs : ∀ m KF KO, wSum D (m + 1) s o false nm cN e q KF KO → (if tgt t = 4 ∧ tgt (wTop (stK (pI h2 7) c2)) = 4 then KF 1 q else if cN = 64 then KF 2 q else wSum D m (t :: stK (pI h2 7) c2) o true (decide (tgt t < 4)) (cN + 1) (wRl (tsA (tgt t)) s e) (qF D q) KF KO) := fun m KF KO g => by
    rw [wSum, if_neg (by decide), if_neg n6, if_pos hs, sa, f3, ← et] at g
    exact g
  -- behind the look at what waits
  have cont : ∀ (lo3 : zL) (h3 : zH), ¬ (tgt t = 4 ∧ tgt (wTop (stK (pI h2 7) c2)) = 4) → (∀ q ∈ tsK L (tgt t), ∃ v, zget lo3 q.1 = some v ∧ sTok q.2 v) → sInv swC h3 → sMd [] h2 h3 → zX l Γ false (d + 4) (zhd 71) (zMQ' Γ false (zhd 71) (LCO D L b g h s o false nm cN e q)) 0 0 63 lo3 [.ref L, .ref 3, .ref 6] h3 := by
    intro lo3 h3 hno L3 hi3 hm3
    have w3 : ∀ a b, pI h3 a b = pI h2 a b := fun a b => pI_md hm3 rfl
    refine zcallR (as := [.ref L, .ref 3]) (rest := []) (q0 := 6) zv_ts63 rfl (by decide) (by rw [hi3.1]; rfl) ?_
    by_cases hc : cN = 64
    · refine spm_ok (d := d + 2) (fun _ => pI h3 3 5) CK.1 (fun mi c h => nomatch h) (by omega) args (sAok.of (iB (by rw [w3]; omega) (by rw [w3]; omega) (iB (by rw [w3]; omega) (by rw [w3]; omega) iE))) (cfP_ok hi3) hi3 (fun e he => nomatch he) ?_
      intro e0 he r' h4 hp4 hi4 hm4
      have e0 := List.mem_singleton.mp he
      subst e0
      obtain ⟨hr, hf⟩ := cfR_ok hp4
      subst hr
      have f8 := hf.1
      refine spq_ok (pc := 66) (fun _ => 0) B4.1 (fun mi c h => nomatch h) (by omega) L3 (sAok.of (iB (by omega) (by omega) iE)) trivial hi4 rfl (fun e he => nomatch he) ?_
      intro e0 he r' h5 hp5 hi5 hm5
      have e0 := List.mem_singleton.mp he
      subst e0
      refine ⟨hp5.1, hi5, ((M2.seq (hm3.sub rfl)).seq (sMd.sub hm4 (by rcases hL with rfl | rfl <;> rfl))).seq (sMd.sub hm5 (by rcases hL with rfl | rfl <;> rfl)), fun m KF KO g => Or.inl ⟨2, q, ?_, by decide, by decide, ?_⟩⟩
      · have g := gs m KF KO g
        rw [if_neg hno, if_pos hc] at g
        exact g
      · rw [w3, t52] at hf
        exact hf.md hm5 rfl rfl
    · refine spm_ok (d := d + 2) (fun _ => pI h3 L 2) CK.2 (fun mi c h => nomatch h) (by omega) args (sA0_ok _) ⟨⟨rfl, by show 0 ≤ pI h3 L 2; rw [w3]; omega, by show pI h3 L 2 ≤ 63; rw [w3]; omega⟩, trivial⟩ hi3 (fun e he => nomatch he) ?_
      intro e0 he r' h4 hp4 hi4 hm4
      have e0 := List.mem_singleton.mp he
      subst e0
      have hr : r' = none := hp4.1
      subst hr
      have q4 : pI h4 L 2 = pI h3 L 2 + 1 := hp4.2.2 (L, 2, 0, 1) List.mem_cons_self
      have w4 : ∀ a b, a ≠ L → pI h4 a b = pI h3 a b := fun a b hne => pI_md hm4 (smem1n (by omega))
      have k4 : pI h4 3 4 = t := by rw [w4 3 4 (by omega), w3, T2.2.2.1, et]
      refine spq_c (pc := 66) (fun _ => 0) B5 (by omega) L3 (sAok.of (iB (by omega) (by omega) iE)) trivial hi4 rfl ?_
      intro lo5 st5 h5 hp5 hi5 hm5
      obtain ⟨p1, L5, p3, p4, p5⟩ := hp5
      obtain ⟨_, _, rfl, ⟨y, rfl, ya, yb⟩, u1, _, rfl, u1r, hn⟩ := p1
      have ya : t ≤ y.toInt := ya
      have yb : y.toInt ≤ t := yb
      have u1r : u1 = .ref 6 := u1r
      subst u1r
      have hn : _ = [] := hn
      subst hn
      have w5 : ∀ a b, pI h5 a b = pI h4 a b := fun a b => pI_md hm5 rfl
      refine zcallR (as := [.int y]) (rest := []) (q0 := 6) zv_ts71 rfl (by decide) (by rw [hi5.1]; rfl) ?_
      have e61 : pI h5 6 1 = (c2 : Int) := by rw [w5, w4 6 1 (by omega), w3]; exact f1
      refine spm_ok (d := d + 2) (fun _ => 0) (List.all_eq_true.mp (List.all_eq_true.mp pu1 c2 (List.mem_range.mpr (by omega))) t tin) (fun mi c h => nomatch h) (by omega) ⟨_, _, rfl, rfl, _, _, rfl, ⟨y, rfl, ya, yb⟩, rfl⟩ (sAok.of (iB (by omega) (by omega) iE)) trivial hi5 (fun e he => nomatch he) ?_
      intro e0 he r' h6 hp6 hi6 hm6
      have e0 := List.mem_singleton.mp he
      subst e0
      have hr : r' = none := hp6.1
      subst hr
      have q1 : (c2 : Int) + 1 ≤ pI h6 6 1 ∧ pI h6 6 1 ≤ (c2 : Int) + 1 := hp6.2.1.1 (6, 1, ((c2 : Int) + 1, (c2 : Int) + 1)) List.mem_cons_self
      have q2 : t ≤ pI h6 7 c2 ∧ pI h6 7 c2 ≤ t := hp6.2.1.1 (7, c2, (t, t)) (List.mem_cons_of_mem _ List.mem_cons_self)
      refine spq_ok (pc := 74) (fun _ => 0) B4.2 (fun mi c h => nomatch h) (by omega) L5 (sA0_ok _) trivial hi6 rfl (fun e he => nomatch he) ?_
      intro e0 he r' h7 hp7 hi7 hm7
      have e0 := List.mem_singleton.mp he
      subst e0
      have q3 : 1 ≤ pI h7 6 3 ∧ pI h7 6 3 ≤ 1 := hp7.2.1.1 (6, 3, (1, 1)) List.mem_cons_self
      have q5 := hp7.2.1.1 (6, 4, (if tgt t < 4 then (1, 1) else (0, 0))) (List.mem_cons_of_mem _ List.mem_cons_self)
      have q5 : (if tgt t < 4 then ((1, 1) : Int × Int) else (0, 0)).1 ≤ pI h7 6 4 ∧ pI h7 6 4 ≤ (if tgt t < 4 then ((1, 1) : Int × Int) else (0, 0)).2 := q5
      have off : ∀ a i, ¬ ((a = 6 ∧ i = 1) ∨ (a = 7 ∧ i = c2)) → smem [(6, 1, 2), (7, c2, c2 + 1)] a i = false := fun a i hne => by
        cases hb : smem [(6, 1, 2), (7, c2, c2 + 1)] a i with
        | false => rfl
        | true =>
          simp only [smem, List.any_cons, List.any_nil, Bool.or_eq_true, Bool.and_eq_true, beq_iff_eq, decide_eq_true_eq, Bool.or_false] at hb
          omega
      have tr : ∀ a i, a ≠ L → ¬ ((a = 6 ∧ (i = 1 ∨ i = 3 ∨ i = 4)) ∨ (a = 7 ∧ i = c2)) → pI h7 a i = pI h2 a i := fun a i hne hn => by
        rw [pI_md hm7 (smem1n (by omega)), pI_md hm6 (off a i (by omega)), w5, w4 a i hne, w3]
      have P := LCpush (L := L) (h := h2) (h3 := h7) (c := c2) (t := t) kin hk2 (fun i hlt => tr 7 i (by omega) (by omega)) (by rw [pI_md hm7 (smem1n (by omega))]; omega)
      have qL : pI h7 L 2 = (cN : Int) + 1 := by
        rw [pI_md hm7 (smem1n (by omega)), pI_md hm6 (off L 2 (by omega)), w5, q4, w3, L2]
      refine ⟨hp7.1, hi7, ?_, fun m KF KO g => Or.inr ⟨t :: stK (pI h2 7) c2, o, true, decide (tgt t < 4), cN + 1, wRl (tsA (tgt t)) s e, ?_, by omega, (tr 3 8 (by omega) (by omega)).trans z2, ?_, ⟨(tr 6 2 (by omega) (by omega)).trans O2, by show pI h7 6 3 = 1; omega, ?_, qL, ?_, by omega, bo, c2 + 1, ?_, P.1.symm, P.2, by omega, ((((X2.md hm3 rfl (fun _ => rfl)).md hm4 (smem1n (by omega)) (fun i => smem1n (by omega))).md hm5 rfl (fun _ => rfl)).md hm6 (off L 1 (by omega)) (fun i => off (L + 1) i (by omega))).md hm7 (smem1n (by omega)) (fun i => smem1n (by omega))⟩⟩⟩
      · refine (((M2.seq (hm3.sub rfl)).seq (sMd.sub hm4 (by rcases hL with rfl | rfl <;> rfl))).seq (hm5.sub rfl)).tr hm6 (fun a b hb => ?_) |>.seq (sMd.sub hm7 (by rcases hL with rfl | rfl <;> rfl))
        obtain ⟨x, hx, hc'⟩ := List.any_eq_true.mp hb
        simp only [List.mem_cons, List.not_mem_nil, or_false] at hx
        simp only [Bool.and_eq_true, beq_iff_eq, decide_eq_true_eq] at hc'
        rcases hx with rfl | rfl
        · exact List.any_eq_true.mpr ⟨(6, 1, 5), List.mem_cons_of_mem _ List.mem_cons_self, by
            simp only [Bool.and_eq_true, beq_iff_eq, decide_eq_true_eq]
            simp only at hc'
            exact ⟨hc'.1, by omega, by omega⟩⟩
        · exact List.any_eq_true.mpr ⟨(7, 0, 72), List.mem_cons_of_mem _ (List.mem_cons_of_mem _ List.mem_cons_self), by
            simp only [Bool.and_eq_true, beq_iff_eq, decide_eq_true_eq]
            simp only at hc'
            exact ⟨hc'.1, by omega, by omega⟩⟩
      · have g := gs m KF KO g
        rw [if_neg hno, if_neg hc] at g
        exact g
      · exact ((((T2.mdo hm3 rfl (fun j _ => rfl)).mdo hm4 (by rcases hL with rfl | rfl <;> rfl) (fun j _ => smem1n (by omega))).mdo hm5 rfl (fun j _ => rfl)).mdo hm6 rfl (fun j _ => off 3 j (by omega))).mdo hm7 rfl (fun j _ => smem1n (by omega))
      · unfold bN
        by_cases e : tgt t < 4
        · rw [if_pos e] at q5
          rw [decide_eq_true e, if_pos rfl]
          simp only at q5
          omega
        · rw [if_neg e] at q5
          rw [decide_eq_false e, if_neg (by decide)]
          simp only at q5
          omega
      · show (if t = 5 then 1 else 0) + c5 (stK (pI h2 7) c2) = o
        rw [if_neg (by omega)]
        omega
      · rw [pI_md hm7 (smem1n (by omega))]
        show pI h6 6 1 = ((c2 + 1 : Nat) : Int)
        omega
  match c2, f1, f2, f3, hk2, gs, cont with
  | 0, f1, f2, f3, hk2, gs, cont =>
    refine spq_c (pc := 25) (fun _ => 0) B3.1 (by omega) L1 (sAok.of (iB (by rw [f1]; exact Int.le_refl _) (by rw [f1]; exact Int.le_refl _) iE)) trivial hi2 rfl ?_
    intro lo3 st3 h3 hp3 hi3 hm3
    obtain ⟨p1, L3, p3, p4, p5⟩ := hp3
    obtain ⟨u0, _, rfl, u0r, u1, _, rfl, u1r, u2, _, rfl, u2r, hn⟩ := p1
    have u0r : u0 = .ref L := u0r
    subst u0r
    have u1r : u1 = .ref 3 := u1r
    subst u1r
    have u2r : u2 = .ref 6 := u2r
    subst u2r
    have hn : _ = [] := hn
    subst hn
    exact cont lo3 h3 (fun g => absurd g.2 (by show ¬ tgt 0 = 4; decide)) L3 hi3 hm3
  | c2 + 1, f1, f2, f3, hk2, gs, cont =>
    have uin := hk2 c2 (by omega)
    have e7 : (h2.2.1 7 (pI h2 6 1 + -1).toNat).toInt = pI h2 7 c2 := by
      have e : pI h2 6 1 + -1 = (c2 : Int) := by omega
      rw [e, Int.toNat_natCast]
      rfl
    have wt : tgt (wTop (stK (pI h2 7) (c2 + 1))) = tgt (pI h2 7 c2) := rfl
    rw [wt] at gs cont
    by_cases h44 : tgt t = 4 ∧ tgt (pI h2 7 c2) = 4
    · have B2 := List.all_eq_true.mp (List.all_eq_true.mp ts2 L hLi) _ uin
      rw [if_pos h44.2] at B2
      rw [h44.1] at L1
      refine spq_ok (pc := 25) (fun i => match i with
        | 0 => pI h2 3 5
        | 1 => pI h2 6 1
        | _ => pI h2 7 c2) B2 (fun mi c h => nomatch h) (by omega) L1 (sAok.of (iB (by omega) (by omega) iE)) ⟨⟨rfl, b35⟩, ⟨rfl, by show 1 ≤ pI h2 6 1; omega, b72.2⟩, ⟨e7, Int.le_refl _, Int.le_refl _⟩, trivial⟩ hi2 rfl (fun e he => nomatch he) ?_
      intro e0 he r' h' hp' hi' hm'
      have e0 := List.mem_singleton.mp he
      subst e0
      obtain ⟨p1, p2, p3⟩ := hp'
      have q1 : (1 : Int) ≤ pI h' 3 8 ∧ pI h' 3 8 ≤ 1 := p2.1 (3, 8, (1, 1)) List.mem_cons_self
      have q2 : pI h' 3 9 = pI h2 3 5 + 0 := p3 (3, 9, 0, 0) List.mem_cons_self
      refine ⟨p1, hi', M2.seq (sMd.sub hm' (by rcases hL with rfl | rfl <;> rfl)), fun m KF KO g => Or.inl ⟨1, q, ?_, by decide, by decide, by omega, by omega⟩⟩
      have g := gs m KF KO g
      rw [if_pos h44] at g
      exact g
    · have B3' := List.all_eq_true.mp B3.2 _ uin
      rw [if_neg h44] at B3'
      refine spq_c (pc := 25) (fun i => match i with
        | 0 => pI h2 6 1
        | _ => pI h2 7 c2) B3' (by omega) L1 (sA0_ok _) ⟨⟨rfl, by show 1 ≤ pI h2 6 1; omega, b72.2⟩, ⟨e7, Int.le_refl _, Int.le_refl _⟩, trivial⟩ hi2 rfl ?_
      intro lo3 st3 h3 hp3 hi3 hm3
      obtain ⟨p1, L3, p3, p4, p5⟩ := hp3
      obtain ⟨u0, _, rfl, u0r, u1, _, rfl, u1r, u2, _, rfl, u2r, hn⟩ := p1
      have u0r : u0 = .ref L := u0r
      subst u0r
      have u1r : u1 = .ref 3 := u1r
      subst u1r
      have u2r : u2 = .ref 6 := u2r
      subst u2r
      have hn : _ = [] := hn
      subst hn
      exact cont lo3 h3 h44 L3 hi3 hm3
