/-! named: find from the row's head, on both sides -/
theorem rfZ5 {l : Launch} {Γ : zG} {d : Nat} {Kp : Option Value → zH → Prop} {I : zHI} {Lg : zHL} {P : zHP} {F R v : Int32} {r : Nat} (hF : F.toInt = 0) (hR : R.toInt = (r : Int)) (hr : r ≤ 5) : ∀ (m k : Nat) (K : Int32), K.toInt = (k : Int) → k + m = r → (∀ x : Int32, x.toInt = fFd (fun i => (I 5 (0 + i)).toInt) v.toInt m k → Kp (some (.int x)) (zshM, I, Lg, P)) → zX l Γ false (d + 1) zh205 (zMQ' Γ false zh205 Kp) 0 0 3 [(4, .int K), (0, .ref 5), (1, .int F), (2, .int R), (3, .int v)] [] (zshM, I, Lg, P)
  | 0, k, K, hK, hm, h => rfX5 (by omega) (h _ (by show (Int32.ofInt (-1)).toInt = -1; decide))
  | m + 1, k, K, hK, hm, h => by
    have eF : F = Int32.ofNat 0 := iN (by decide) hF
    have eK : K = Int32.ofNat k := iN (by omega) hK
    have e1 : F + K = Int32.ofNat (0 + k) := by
      rw [eF, eK]
      exact ofN_add 0 k
    have e2 : K + Int32.ofInt 1 = Int32.ofNat (k + 1) := by
      rw [eK]
      exact ofN_add k 1
    have e3 : (Int32.ofNat (0 + k)).toNatClampNeg = 0 + k := ofN_cl (by omega)
    refine rfS5 e1 e2 (ofN_ix (by omega) (by decide)) (by omega) (fun ne => ?_) (fun e => h K ?_)
    · rw [e3] at ne
      refine rfZ5 hF hR hr m (k + 1) _ (oN (by omega)) (by omega) (fun x hx => h x ?_)
      simp only [fFd]
      rw [if_neg (fun g => ne (Int32.toInt_inj.mp g))]
      exact hx
    · rw [e3] at e
      simp only [fFd]
      rw [if_pos (by rw [e])]
      exact hK
theorem zfZ5 {l : Launch} {Γ : zG} {d : Nat} {h : zH} (hi : sInv swM h) {F R v : Int32} {r : Nat} (hF : F.toInt = 0) (hR : R.toInt = (r : Int)) (hr : r ≤ 5) : zSem l Γ false (d + 1) (zhd 205) [.ref 5, .int F, .int R, .int v] h (fun rr h' => h' = h ∧ ∃ x : Int32, rr = some (.int x) ∧ x.toInt = fIx (fun i => pI h 5 (0 + i)) r v.toInt) := by
  obtain ⟨s, I, Lg, P⟩ := h
  have es : s = zshM := hi.1
  subst es
  show zSem l Γ false (d + 1) zh205 _ _ _
  have ha : sTL [.inr (.inl 5), .inl sf32, .inl sf32, .inl sf32] [.ref 5, .int F, .int R, .int v] := ⟨_, _, rfl, rfl, _, _, rfl, ⟨_, rfl, i32bd _⟩, _, _, rfl, ⟨_, rfl, i32bd _⟩, _, _, rfl, ⟨_, rfl, i32bd _⟩, rfl⟩
  refine zbody (by decide +kernel) (by rw [sslen_ok _ _ ha]; decide +kernel) ?_
  refine zpcF (M := (zh205, zc205)) 205 3 rfl zckm205 (fun _ _ _ _ h => h) ?_
  show zX l Γ false (d + 1) zh205 (zMQ' Γ false zh205 _) 0 0 3 [(4, .int (Int32.ofInt 0)), (0, .ref 5), (1, .int F), (2, .int R), (3, .int v)] [] (zshM, I, Lg, P)
  exact rfZ5 hF hR hr r 0 _ (by decide) (by omega) (fun x hx => ⟨rfl, x, rfl, hx⟩)
theorem rfZ6 {l : Launch} {Γ : zG} {d : Nat} {Kp : Option Value → zH → Prop} {I : zHI} {Lg : zHL} {P : zHP} {F R v : Int32} {r : Nat} (hF : F.toInt = 0) (hR : R.toInt = (r : Int)) (hr : r ≤ 8) : ∀ (m k : Nat) (K : Int32), K.toInt = (k : Int) → k + m = r → (∀ x : Int32, x.toInt = fFd (fun i => (I 6 (0 + i)).toInt) v.toInt m k → Kp (some (.int x)) (zshM, I, Lg, P)) → zX l Γ false (d + 1) zh205 (zMQ' Γ false zh205 Kp) 0 0 3 [(4, .int K), (0, .ref 6), (1, .int F), (2, .int R), (3, .int v)] [] (zshM, I, Lg, P)
  | 0, k, K, hK, hm, h => rfX6 (by omega) (h _ (by show (Int32.ofInt (-1)).toInt = -1; decide))
  | m + 1, k, K, hK, hm, h => by
    have eF : F = Int32.ofNat 0 := iN (by decide) hF
    have eK : K = Int32.ofNat k := iN (by omega) hK
    have e1 : F + K = Int32.ofNat (0 + k) := by
      rw [eF, eK]
      exact ofN_add 0 k
    have e2 : K + Int32.ofInt 1 = Int32.ofNat (k + 1) := by
      rw [eK]
      exact ofN_add k 1
    have e3 : (Int32.ofNat (0 + k)).toNatClampNeg = 0 + k := ofN_cl (by omega)
    refine rfS6 e1 e2 (ofN_ix (by omega) (by decide)) (by omega) (fun ne => ?_) (fun e => h K ?_)
    · rw [e3] at ne
      refine rfZ6 hF hR hr m (k + 1) _ (oN (by omega)) (by omega) (fun x hx => h x ?_)
      simp only [fFd]
      rw [if_neg (fun g => ne (Int32.toInt_inj.mp g))]
      exact hx
    · rw [e3] at e
      simp only [fFd]
      rw [if_pos (by rw [e])]
      exact hK
theorem zfZ6 {l : Launch} {Γ : zG} {d : Nat} {h : zH} (hi : sInv swM h) {F R v : Int32} {r : Nat} (hF : F.toInt = 0) (hR : R.toInt = (r : Int)) (hr : r ≤ 8) : zSem l Γ false (d + 1) (zhd 205) [.ref 6, .int F, .int R, .int v] h (fun rr h' => h' = h ∧ ∃ x : Int32, rr = some (.int x) ∧ x.toInt = fIx (fun i => pI h 6 (0 + i)) r v.toInt) := by
  obtain ⟨s, I, Lg, P⟩ := h
  have es : s = zshM := hi.1
  subst es
  show zSem l Γ false (d + 1) zh205 _ _ _
  have ha : sTL [.inr (.inl 6), .inl sf32, .inl sf32, .inl sf32] [.ref 6, .int F, .int R, .int v] := ⟨_, _, rfl, rfl, _, _, rfl, ⟨_, rfl, i32bd _⟩, _, _, rfl, ⟨_, rfl, i32bd _⟩, _, _, rfl, ⟨_, rfl, i32bd _⟩, rfl⟩
  refine zbody (by decide +kernel) (by rw [sslen_ok _ _ ha]; decide +kernel) ?_
  refine zpcF (M := (zh205, zc205)) 205 3 rfl zckm205 (fun _ _ _ _ h => h) ?_
  show zX l Γ false (d + 1) zh205 (zMQ' Γ false zh205 _) 0 0 3 [(4, .int (Int32.ofInt 0)), (0, .ref 6), (1, .int F), (2, .int R), (3, .int v)] [] (zshM, I, Lg, P)
  exact rfZ6 hF hR hr r 0 _ (by decide) (by omega) (fun x hx => ⟨rfl, x, rfl, hx⟩)
def nmA (N : zN) (S : zS) (w v : Int) : Int := if w = 0 then fIx (N 0) (S 0) v else if w = 1 then fIx (N 1) (S 1) v else -1
def nmT : sRv := (some (.inl sF32), sA0, ([], [(0, ([(0, 1)], 0))], [], []))
def nmE (d0 o pc : Nat) : sEv := (pc, [.inl sF32, .inr (.inl (d0 + o))], [], sA0, ([], [(0, ([(1, 1)], 0))], [], []))
def nmQ (d0 : Nat) : sAs := ([], [(0, 5, d0)], [], [])
theorem nm_c0 : dLs.all (fun d0 => spfB swC sT0 [] 100 0 77 [.inr (.inl 0), .inl (0, 0), .inl sF32] (nmQ d0) [] [nmE d0 1 12] []) = true := by decide +kernel
theorem nm_c1 : dLs.all (fun d0 => spfB swC sT0 [] 100 0 77 [.inr (.inl 0), .inl (1, 1), .inl sF32] (nmQ d0) [] [nmE d0 3 29] []) = true := by decide +kernel
theorem nm_r0 : speB swC sT0 [] 100 0 77 [] [.inl sF32] sA0 [] 15 [] [nmT] = true := by decide +kernel
theorem nm_r1 : speB swC sT0 [] 100 0 77 [] [.inl sF32] sA0 [] 32 [] [nmT] = true := by decide +kernel
theorem nm_n0 : spfB swC sT0 [] 100 0 77 [.inr (.inl 0), .inl (-2147483648, -1), .inl sF32] sA0 [] [] [rK (-1)] = true := by decide +kernel
theorem nm_n1 : spfB swC sT0 [] 100 0 77 [.inr (.inl 0), .inl (2, 2147483647), .inl sF32] sA0 [] [] [rK (-1)] = true := by decide +kernel
def nmF (c m pc : Nat) : sEv := (pc, [.inl sF32, .inl (0, (m : Int)), .inl (0, 0), .inr (.inl c)], [], sA0, ([], [(0, ([(1, 1)], 0)), (1, ([(2, 1)], 0))], [], []))
theorem nm_m0 : spfB swM sT0 [(0, 2, 3)] 100 0 227 [.inr (.inl 0), .inl (0, 0), .inl sF32] sA0 [(0, (none, 12), (0, 5))] [nmF 5 5 19] [] = true := by decide +kernel
theorem nm_m1 : spfB swM sT0 [(0, 2, 3)] 100 0 227 [.inr (.inl 0), .inl (1, 1), .inl sF32] sA0 [(0, (none, 13), (0, 8))] [nmF 6 8 40] [] = true := by decide +kernel
theorem nm_s0 : speB swM sT0 [] 100 0 227 [] [.inl sF32] sA0 [] 22 [] [nmT] = true := by decide +kernel
theorem nm_s1 : speB swM sT0 [] 100 0 227 [] [.inl sF32] sA0 [] 43 [] [nmT] = true := by decide +kernel
theorem nm_q0 : spfB swM sT0 [(0, 2, 3)] 100 0 227 [.inr (.inl 0), .inl (-2147483648, -1), .inl sF32] sA0 [] [] [rK (-1)] = true := by decide +kernel
theorem nm_q1 : spfB swM sT0 [(0, 2, 3)] 100 0 227 [.inr (.inl 0), .inl (2, 2147483647), .inl sF32] sA0 [] [] [rK (-1)] = true := by decide +kernel
theorem zv_nm12 : zcvB 77 12 5 1 45 = true := by decide +kernel
theorem zv_nm29 : zcvB 77 29 5 1 45 = true := by decide +kernel
theorem zs_nm19 : zcsB 227 19 4 205 = true := by decide +kernel
theorem zs_nm40 : zcsB 227 40 4 205 = true := by decide +kernel
theorem znmC (l : Launch) (Γ : zG) {f : zH} {A : zAb} (g : zRC A f) (x1 x2 : Int32) : zSem l Γ false 10 (zhd 77) [.ref 0, .int x1, .int x2] f (fun r f' => r = some (.int (Int32.ofInt (nmA A.2.2.2.1 A.2.2.2.2 x1.toInt x2.toInt))) ∧ zRC A f') := by
  have nb := i32bd x1
  have nb2 := i32bd x2
  have ar : ∀ a b : Int, a ≤ x1.toInt → x1.toInt ≤ b → sTL [.inr (.inl 0), .inl (a, b), .inl sF32] [.ref 0, .int x1, .int x2] ∧ sNmL (fun i => [x1.toInt, x2.toInt].getD i 0) (lv_args 0 [.ref 0, .int x1, .int x2]) (sslot 0 [.inr (.inl 0), .inl (a, b), .inl sF32]) 0 := fun a b p q => ⟨⟨_, _, rfl, rfl, _, _, rfl, ⟨x1, rfl, p, q⟩, _, _, rfl, ⟨x2, rfl, nb2⟩, rfl⟩, ⟨rfl, ⟨x1, rfl, rfl, p, q⟩, ⟨x2, rfl, rfl, nb2.1, nb2.2⟩, trivial⟩⟩
  obtain ⟨d0, hd, p5, p6, hR⟩ := g.2.2.2.2.2
  have hQ : sAok (nmQ d0) f := ⟨(fun _ h => nomatch h), fun t ht => by
    have ht := List.mem_singleton.mp ht
    subst ht
    exact p5, (fun _ h => nomatch h), Or.inl rfl⟩
  by_cases c0 : x1.toInt = 0
  · have ea : nmA A.2.2.2.1 A.2.2.2.2 x1.toInt x2.toInt = fIx (A.2.2.2.1 0) (A.2.2.2.2 0) x2.toInt := by
      unfold nmA
      rw [if_pos c0]
    rw [ea]
    obtain ⟨a1, a2⟩ := ar 0 0 (by omega) (by omega)
    refine spf_ok (d := 9) _ (List.all_eq_true.mp nm_c0 d0 hd) (fun mi c h => nomatch h) (by decide) a1 a2 hQ trivial g.1 ?_ (fun e he => nomatch he)
    intro e he lo1 st1 h1 hp hi1 hm1
    have he := List.mem_singleton.mp he
    subst he
    have eh : h1 = f := wSame hm1 (hi1.1.trans g.1.1.symm)
    subst eh
    obtain ⟨q1, q2, -, q4⟩ := hp
    obtain ⟨_, _, rfl, ⟨y, rfl, -, -⟩, vr, _, rfl, hr, hn⟩ := q1
    have hr : vr = Value.ref (d0 + 1) := hr
    subst hr
    have hn : _ = [] := hn
    subst hn
    obtain ⟨v, ev, hy⟩ := q4.2.1 (0, ([(1, 1)], 0)) List.mem_cons_self
    cases ev
    have hy : y.toInt = 1 * x2.toInt + 0 + 0 := hy
    have ey : y = x2 := deq (by omega)
    subst ey
    have fin : ∀ z : Int32, z.toInt = fIx (A.2.2.2.1 0) (A.2.2.2.2 0) y.toInt → zX l Γ false 10 (zhd 77) (zMQ' Γ false (zhd 77) (fun r f' => r = some (.int (Int32.ofInt (fIx (A.2.2.2.1 0) (A.2.2.2.2 0) y.toInt))) ∧ zRC A f')) 0 0 15 lo1 [.int z] h1 := fun z hz => by
      refine spe_ok (d := 9) (pc := 15) (fun i => [z.toInt].getD i 0) nm_r0 (fun mi c h => nomatch h) (by decide) trivial ⟨z, [], rfl, rfl, i32bd z, rfl⟩ (sA0_ok _) trivial g.1 (fun e he => nomatch he) ?_
      intro e he r' h' hp hi' hm'
      have he := List.mem_singleton.mp he
      subst he
      obtain ⟨u, er, eu⟩ := ansI hp.1 (hp.2.2.2.1 (0, ([(0, 1)], 0)) List.mem_cons_self)
      have eu : u.toInt = 1 * z.toInt + 0 + 0 := eu
      have eh : h' = h1 := wSame hm' (hi'.1.trans g.1.1.symm)
      rw [eh]
      refine ⟨?_, g⟩
      rw [er, ← hz, show z.toInt = u.toInt from by omega, Int32.ofInt_toInt]
    rcases dLs_b hd with rfl | rfl
    · refine zcallR (mi := 77) (as := [.int y]) (rest := []) (q0 := 10) zv_nm12 rfl (by decide) (by rw [g.1.1]; rfl) ?_
      have eS : pI h1 10 3 = (A.2.2.2.2 0 : Int) := hR.s (j := 0) (by decide)
      have bS : pI h1 10 3 ≤ 5 := by
        have g9 := g.1.2.2.1 10 3
        rw [show sIv swC 10 3 = (0, 5) from by decide +kernel] at g9
        exact g9.2
      refine (zfindC10 (d := 7) g.1 (v := y) (r := A.2.2.2.2 0) eS (by omega)).mono ?_
      rintro rr h' ⟨rfl, z, rfl, hz⟩
      exact fin z (hz.trans (fIx_eq (fun i hlt => by rw [Nat.mul_one]; exact hR.n0 hlt)))
    · refine zcallR (mi := 77) (as := [.int y]) (rest := []) (q0 := 27) zv_nm12 rfl (by decide) (by rw [g.1.1]; rfl) ?_
      have eS : pI h1 27 3 = (A.2.2.2.2 0 : Int) := hR.s (j := 0) (by decide)
      have bS : pI h1 27 3 ≤ 5 := by
        have g9 := g.1.2.2.1 27 3
        rw [show sIv swC 27 3 = (0, 5) from by decide +kernel] at g9
        exact g9.2
      refine (zfindC27 (d := 7) g.1 (v := y) (r := A.2.2.2.2 0) eS (by omega)).mono ?_
      rintro rr h' ⟨rfl, z, rfl, hz⟩
      exact fin z (hz.trans (fIx_eq (fun i hlt => by rw [Nat.mul_one]; exact hR.n0 hlt)))
  by_cases c1 : x1.toInt = 1
  · have ea : nmA A.2.2.2.1 A.2.2.2.2 x1.toInt x2.toInt = fIx (A.2.2.2.1 1) (A.2.2.2.2 1) x2.toInt := by
      unfold nmA
      rw [if_neg c0, if_pos c1]
    rw [ea]
    obtain ⟨a1, a2⟩ := ar 1 1 (by omega) (by omega)
    refine spf_ok (d := 9) _ (List.all_eq_true.mp nm_c1 d0 hd) (fun mi c h => nomatch h) (by decide) a1 a2 hQ trivial g.1 ?_ (fun e he => nomatch he)
    intro e he lo1 st1 h1 hp hi1 hm1
    have he := List.mem_singleton.mp he
    subst he
    have eh : h1 = f := wSame hm1 (hi1.1.trans g.1.1.symm)
    subst eh
    obtain ⟨q1, q2, -, q4⟩ := hp
    obtain ⟨_, _, rfl, ⟨y, rfl, -, -⟩, vr, _, rfl, hr, hn⟩ := q1
    have hr : vr = Value.ref (d0 + 3) := hr
    subst hr
    have hn : _ = [] := hn
    subst hn
    obtain ⟨v, ev, hy⟩ := q4.2.1 (0, ([(1, 1)], 0)) List.mem_cons_self
    cases ev
    have hy : y.toInt = 1 * x2.toInt + 0 + 0 := hy
    have ey : y = x2 := deq (by omega)
    subst ey
    have fin : ∀ z : Int32, z.toInt = fIx (A.2.2.2.1 1) (A.2.2.2.2 1) y.toInt → zX l Γ false 10 (zhd 77) (zMQ' Γ false (zhd 77) (fun r f' => r = some (.int (Int32.ofInt (fIx (A.2.2.2.1 1) (A.2.2.2.2 1) y.toInt))) ∧ zRC A f')) 0 0 32 lo1 [.int z] h1 := fun z hz => by
      refine spe_ok (d := 9) (pc := 32) (fun i => [z.toInt].getD i 0) nm_r1 (fun mi c h => nomatch h) (by decide) trivial ⟨z, [], rfl, rfl, i32bd z, rfl⟩ (sA0_ok _) trivial g.1 (fun e he => nomatch he) ?_
      intro e he r' h' hp hi' hm'
      have he := List.mem_singleton.mp he
      subst he
      obtain ⟨u, er, eu⟩ := ansI hp.1 (hp.2.2.2.1 (0, ([(0, 1)], 0)) List.mem_cons_self)
      have eu : u.toInt = 1 * z.toInt + 0 + 0 := eu
      have eh : h' = h1 := wSame hm' (hi'.1.trans g.1.1.symm)
      rw [eh]
      refine ⟨?_, g⟩
      rw [er, ← hz, show z.toInt = u.toInt from by omega, Int32.ofInt_toInt]
    rcases dLs_b hd with rfl | rfl
    · refine zcallR (mi := 77) (as := [.int y]) (rest := []) (q0 := 12) zv_nm29 rfl (by decide) (by rw [g.1.1]; rfl) ?_
      have eS : pI h1 12 3 = (A.2.2.2.2 1 : Int) := hR.s (j := 1) (by decide)
      have bS : pI h1 12 3 ≤ 8 := by
        have g9 := g.1.2.2.1 12 3
        rw [show sIv swC 12 3 = (0, 8) from by decide +kernel] at g9
        exact g9.2
      refine (zfindC12 (d := 7) g.1 (v := y) (r := A.2.2.2.2 1) eS (by omega)).mono ?_
      rintro rr h' ⟨rfl, z, rfl, hz⟩
      exact fin z (hz.trans (fIx_eq (fun i hlt => hR.n1 hlt)))
    · refine zcallR (mi := 77) (as := [.int y]) (rest := []) (q0 := 29) zv_nm29 rfl (by decide) (by rw [g.1.1]; rfl) ?_
      have eS : pI h1 29 3 = (A.2.2.2.2 1 : Int) := hR.s (j := 1) (by decide)
      have bS : pI h1 29 3 ≤ 8 := by
        have g9 := g.1.2.2.1 29 3
        rw [show sIv swC 29 3 = (0, 8) from by decide +kernel] at g9
        exact g9.2
      refine (zfindC29 (d := 7) g.1 (v := y) (r := A.2.2.2.2 1) eS (by omega)).mono ?_
      rintro rr h' ⟨rfl, z, rfl, hz⟩
      exact fin z (hz.trans (fIx_eq (fun i hlt => hR.n1 hlt)))
  have ea : nmA A.2.2.2.1 A.2.2.2.2 x1.toInt x2.toInt = -1 := by
    unfold nmA
    rw [if_neg c0, if_neg c1]
  rw [ea]
  by_cases c2 : x1.toInt < 0
  · obtain ⟨a1, a2⟩ := ar (-2147483648) (-1) nb.1 (by omega)
    refine spf_ok (d := 9) _ nm_n0 (fun mi c h => nomatch h) (by decide) a1 a2 (sA0_ok _) trivial g.1 (fun e he => nomatch he) ?_
    intro e he r' h' hp hi' hm'
    have he := List.mem_singleton.mp he
    subst he
    exact ⟨rK_ok hp, g.md hi' hm' rfl⟩
  · obtain ⟨a1, a2⟩ := ar 2 2147483647 (by omega) nb.2
    refine spf_ok (d := 9) _ nm_n1 (fun mi c h => nomatch h) (by decide) a1 a2 (sA0_ok _) trivial g.1 (fun e he => nomatch he) ?_
    intro e he r' h' hp hi' hm'
    have he := List.mem_singleton.mp he
    subst he
    exact ⟨rK_ok hp, g.md hi' hm' rfl⟩
theorem znmM (l : Launch) (Γ : zG) {f : zH} {A : zAb} (g : zRM A f) (x1 x2 : Int32) : zSem l Γ false 10 (zhd 227) [.ref 0, .int x1, .int x2] f (fun r f' => r = some (.int (Int32.ofInt (nmA A.2.2.2.1 A.2.2.2.2 x1.toInt x2.toInt))) ∧ zRM A f') := by
  have nb := i32bd x1
  have nb2 := i32bd x2
  have ar : ∀ (a b c : Int), a ≤ x1.toInt → x1.toInt ≤ b → sTL [.inr (.inl 0), .inl (a, b), .inl sF32] [.ref 0, .int x1, .int x2] ∧ sNmL (fun i => [x1.toInt, x2.toInt, c].getD i 0) (lv_args 0 [.ref 0, .int x1, .int x2]) (sslot 0 [.inr (.inl 0), .inl (a, b), .inl sF32]) 0 := fun a b c p q => ⟨⟨_, _, rfl, rfl, _, _, rfl, ⟨x1, rfl, p, q⟩, _, _, rfl, ⟨x2, rfl, nb2⟩, rfl⟩, ⟨rfl, ⟨x1, rfl, rfl, p, q⟩, ⟨x2, rfl, rfl, nb2.1, nb2.2⟩, trivial⟩⟩
  have hT := g.2.2.2.2.2
  by_cases c0 : x1.toInt = 0
  · have ea : nmA A.2.2.2.1 A.2.2.2.2 x1.toInt x2.toInt = fIx (A.2.2.2.1 0) (A.2.2.2.2 0) x2.toInt := by
      unfold nmA
      rw [if_pos c0]
    rw [ea]
    have eS : pI f 0 12 = (A.2.2.2.2 0 : Int) := hT.1 0 (by decide)
    have bS : pI f 0 12 ≤ 5 := by
      have g9 := g.1.2.2.1 0 12
      rw [show sIv swM 0 12 = (0, 5) from by decide +kernel] at g9
      exact g9.2
    obtain ⟨a1, a2⟩ := ar 0 0 (pI f 0 12) (by omega) (by omega)
    refine spf_ok (d := 9) _ nm_m0 (fun mi c h => nomatch h) (by decide) a1 a2 (sA0_ok _) ⟨⟨rfl, by show 0 ≤ pI f 0 12; omega, bS⟩, trivial⟩ g.1 ?_ (fun e he => nomatch he)
    intro e he lo1 st1 h1 hp hi1 hm1
    have he := List.mem_singleton.mp he
    subst he
    have g1 : zRM A h1 := g.md hi1 hm1 (by decide +kernel)
    obtain ⟨q1, q2, -, q4⟩ := hp
    obtain ⟨_, _, rfl, ⟨y, rfl, -, -⟩, _, _, rfl, ⟨R', rfl, -, -⟩, _, _, rfl, ⟨F', rfl, F1, F2⟩, vr, _, rfl, hr, hn⟩ := q1
    have hr : vr = Value.ref 5 := hr
    subst hr
    have hn : _ = [] := hn
    subst hn
    have F1 : 0 ≤ F'.toInt := F1
    have F2 : F'.toInt ≤ 0 := F2
    obtain ⟨v, ev, hy⟩ := q4.2.1 (0, ([(1, 1)], 0)) List.mem_cons_self
    cases ev
    have hy : y.toInt = 1 * x2.toInt + 0 + 0 := hy
    obtain ⟨v, ev, hRR⟩ := q4.2.1 (1, ([(2, 1)], 0)) (List.mem_cons_of_mem _ List.mem_cons_self)
    cases ev
    have hRR : R'.toInt = 1 * pI f 0 12 + 0 + 0 := hRR
    have ey : y = x2 := deq (by omega)
    subst ey
    refine zcallS (as := [.int y, .int R', .int F', .ref 5]) zs_nm19 rfl ?_
    refine (zfZ5 (d := 8) hi1 (F := F') (R := R') (v := y) (r := A.2.2.2.2 0) (by omega) (by omega) (by omega)).mono ?_
    rintro rr h' ⟨rfl, z, rfl, hz⟩
    have hz : z.toInt = fIx (A.2.2.2.1 0) (A.2.2.2.2 0) y.toInt := hz.trans (fIx_eq (fun i hlt => by rw [Nat.zero_add]; exact g1.2.2.2.2.2.2.2.1 (0, 5, 5, 0) (by decide) i hlt))
    refine spe_ok (d := 9) (pc := 22) (fun i => [z.toInt].getD i 0) nm_s0 (fun mi c h => nomatch h) (by decide) trivial ⟨z, [], rfl, rfl, i32bd z, rfl⟩ (sA0_ok _) trivial hi1 (fun e he => nomatch he) ?_
    intro e he r' h2 hp hi2 hm2
    have he := List.mem_singleton.mp he
    subst he
    obtain ⟨u, er, eu⟩ := ansI hp.1 (hp.2.2.2.1 (0, ([(0, 1)], 0)) List.mem_cons_self)
    have eu : u.toInt = 1 * z.toInt + 0 + 0 := eu
    refine ⟨?_, g1.md hi2 hm2 (by decide +kernel)⟩
    rw [er, ← hz, show z.toInt = u.toInt from by omega, Int32.ofInt_toInt]
  by_cases c1 : x1.toInt = 1
  · have ea : nmA A.2.2.2.1 A.2.2.2.2 x1.toInt x2.toInt = fIx (A.2.2.2.1 1) (A.2.2.2.2 1) x2.toInt := by
      unfold nmA
      rw [if_neg c0, if_pos c1]
    rw [ea]
    have eS : pI f 0 13 = (A.2.2.2.2 1 : Int) := hT.1 1 (by decide)
    have bS : pI f 0 13 ≤ 8 := by
      have g9 := g.1.2.2.1 0 13
      rw [show sIv swM 0 13 = (0, 8) from by decide +kernel] at g9
      exact g9.2
    obtain ⟨a1, a2⟩ := ar 1 1 (pI f 0 13) (by omega) (by omega)
    refine spf_ok (d := 9) _ nm_m1 (fun mi c h => nomatch h) (by decide) a1 a2 (sA0_ok _) ⟨⟨rfl, by show 0 ≤ pI f 0 13; omega, bS⟩, trivial⟩ g.1 ?_ (fun e he => nomatch he)
    intro e he lo1 st1 h1 hp hi1 hm1
    have he := List.mem_singleton.mp he
    subst he
    have g1 : zRM A h1 := g.md hi1 hm1 (by decide +kernel)
    obtain ⟨q1, q2, -, q4⟩ := hp
    obtain ⟨_, _, rfl, ⟨y, rfl, -, -⟩, _, _, rfl, ⟨R', rfl, -, -⟩, _, _, rfl, ⟨F', rfl, F1, F2⟩, vr, _, rfl, hr, hn⟩ := q1
    have hr : vr = Value.ref 6 := hr
    subst hr
    have hn : _ = [] := hn
    subst hn
    have F1 : 0 ≤ F'.toInt := F1
    have F2 : F'.toInt ≤ 0 := F2
    obtain ⟨v, ev, hy⟩ := q4.2.1 (0, ([(1, 1)], 0)) List.mem_cons_self
    cases ev
    have hy : y.toInt = 1 * x2.toInt + 0 + 0 := hy
    obtain ⟨v, ev, hRR⟩ := q4.2.1 (1, ([(2, 1)], 0)) (List.mem_cons_of_mem _ List.mem_cons_self)
    cases ev
    have hRR : R'.toInt = 1 * pI f 0 13 + 0 + 0 := hRR
    have ey : y = x2 := deq (by omega)
    subst ey
    refine zcallS (as := [.int y, .int R', .int F', .ref 6]) zs_nm40 rfl ?_
    refine (zfZ6 (d := 8) hi1 (F := F') (R := R') (v := y) (r := A.2.2.2.2 1) (by omega) (by omega) (by omega)).mono ?_
    rintro rr h' ⟨rfl, z, rfl, hz⟩
    have hz : z.toInt = fIx (A.2.2.2.1 1) (A.2.2.2.2 1) y.toInt := hz.trans (fIx_eq (fun i hlt => by rw [Nat.zero_add]; exact g1.2.2.2.2.2.2.2.1 (1, 6, 8, 1) (by decide) i hlt))
    refine spe_ok (d := 9) (pc := 43) (fun i => [z.toInt].getD i 0) nm_s1 (fun mi c h => nomatch h) (by decide) trivial ⟨z, [], rfl, rfl, i32bd z, rfl⟩ (sA0_ok _) trivial hi1 (fun e he => nomatch he) ?_
    intro e he r' h2 hp hi2 hm2
    have he := List.mem_singleton.mp he
    subst he
    obtain ⟨u, er, eu⟩ := ansI hp.1 (hp.2.2.2.1 (0, ([(0, 1)], 0)) List.mem_cons_self)
    have eu : u.toInt = 1 * z.toInt + 0 + 0 := eu
    refine ⟨?_, g1.md hi2 hm2 (by decide +kernel)⟩
    rw [er, ← hz, show z.toInt = u.toInt from by omega, Int32.ofInt_toInt]
  have ea : nmA A.2.2.2.1 A.2.2.2.2 x1.toInt x2.toInt = -1 := by
    unfold nmA
    rw [if_neg c0, if_neg c1]
  rw [ea]
  by_cases c2 : x1.toInt < 0
  · obtain ⟨a1, a2⟩ := ar (-2147483648) (-1) 0 nb.1 (by omega)
    refine spf_ok (d := 9) _ nm_q0 (fun mi c h => nomatch h) (by decide) a1 a2 (sA0_ok _) trivial g.1 (fun e he => nomatch he) ?_
    intro e he r' h' hp hi' hm'
    have he := List.mem_singleton.mp he
    subst he
    exact ⟨rK_ok hp, g.md hi' hm' (by decide +kernel)⟩
  · obtain ⟨a1, a2⟩ := ar 2 2147483647 0 (by omega) nb.2
    refine spf_ok (d := 9) _ nm_q1 (fun mi c h => nomatch h) (by decide) a1 a2 (sA0_ok _) trivial g.1 (fun e he => nomatch he) ?_
    intro e he r' h' hp hi' hm'
    have he := List.mem_singleton.mp he
    subst he
    exact ⟨rK_ok hp, g.md hi' hm' (by decide +kernel)⟩
/-- named -/
theorem zpr3 (l : Launch) {f1 f2 : zH} {A : zAb} (g1 : zRC A f1) (g2 : zRM A f2) (hb : zB4 A.2.2.1) (x1 x2 : Int32) : ∃ (a : Int32) (A' : zAb), zB4 A'.2.2.1 ∧ (∀ Γ : zG, zSem l Γ false 10 (zhd 77) [.ref 0, .int x1, .int x2] f1 (fun r f => r = some (.int a) ∧ zRC A' f)) ∧ (∀ Γ : zG, zSem l Γ false 10 (zhd 227) [.ref 0, .int x1, .int x2] f2 (fun r f => r = some (.int a) ∧ zRM A' f)) := ⟨_, A, hb, fun Γ => znmC l Γ g1 x1 x2, fun Γ => znmM l Γ g2 x1 x2⟩
