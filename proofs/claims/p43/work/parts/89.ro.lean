/-! the reference's sumRead -/
theorem su0 : spmB swM sT0 [(0, 48, 51), (0, 52, 54)] 400 2 214 [] [sr0] sA0 [] [(25, [], lL, a1 [(0, 48, (0, 0)), (0, 49, (0, 0)), (0, 50, (0, 0)), (0, 52, (1, 1)), (0, 53, (1, 1))], [], [])] [] = true := by decide +kernel
theorem su1 : spqB swM sT0 [] 100 1 214 lL (a1 [(0, 52, (1, 1))]) [] [] 25 [(56, [sr0], lL, sA0, [], [])] [] = true := by decide +kernel
def suA : List sAs := [a1 [(0, 52, (0, 0)), (0, 50, (1, 8))], a1 [(0, 52, (0, 0)), (0, 8, (0, 3))], a1 [(0, 52, (0, 0)), (0, 8, (5, 6))], a1 [(0, 52, (0, 0)), (0, 8, (4, 4)), (0, 9, (-2147483648, 58))], a1 [(0, 52, (0, 0)), (0, 8, (4, 4)), (0, 9, (60, 2147483647))]]
theorem su2 : suA.all (fun A => spqB swM sT0 [] 100 1 214 lL A [] [] 25 [(66, [sr0], lL, sA0, [], [])] []) = true := by decide +kernel
theorem su3 : spqB swM sT0 [] 100 1 214 lL (a1 [(0, 8, (4, 4)), (0, 9, (59, 59)), (0, 52, (0, 0)), (0, 50, (0, 0))]) [] [] 25 [(76, [sI1 1 1, sr0], lL, sA0, [], [])] [] = true := by decide +kernel
theorem su4 : [59, 69].all (fun p => spqB swM sT0 [] 100 1 214 lL sA0 [] [0] p [] [rI 0 sA0 []] && spqB swM sT0 [] 100 1 214 lL sA0 [] [1] p [(25, [], lL, sA0, [], [])] []) = true := by decide +kernel
theorem su8 : spqB swM sT0 [] 100 1 214 lL sA0 [] [] 79 [] [rI 1 sA0 []] = true := by decide +kernel
def LPo (D : zD) (b : Nat) (G : Nat → Nat → Int) (KF : zKF) (KO : Nat → List Int → Nat → Prop) (h0 : zH) (r : Option Value) (h' : zH) : Prop := sInv swM h' ∧ sMd uMd h0 h' ∧ ∃ x : Int32, r = some (.int x) ∧ ((∃ c p, KF c p ∧ x.toInt = 0 ∧ fM c p h') ∨ (∃ c e q', KO c e q' ∧ x.toInt = 1 ∧ tTk D q' h' ∧ pI h' 0 51 = ((c : Nat) : Int) ∧ pI h' 0 23 = pI h' 0 51 ∧ 1 ≤ pI h' 0 23 ∧ RX b G e h' ∧ (ixs b e).length = 1))
theorem zsumF {l : Launch} {Γ : zG} {d : Nat} {D : zD} {b : Nat} {G : Nat → Nat → Int} {KF : zKF} {KO : Nat → List Int → Nat → Prop} {h0 : zH} : ∀ (m : Nat) (h : zH) (lo : zL) (s : List Int) (o : Nat) (due nm : Bool) (cN : Nat) (e : List Int) (q : Nat), (∀ q ∈ lL, ∃ v, zget lo q.1 = some v ∧ sTok q.2 v) → sInv swM h → sMd uMd h0 h → tTk D q h → LSt b G s o due nm cN e h → wSum D m s o due nm cN e q KF KO → D.2 - q < m → zX l Γ false (d + 5) (zhd 214) (zMQ' Γ false (zhd 214) (LPo D b G KF KO h0)) 0 0 25 lo [] h
  | 0, h, lo, s, o, due, nm, cN, e, q, hL, hi, hm, hT, hS, W, hlt => absurd hlt (Nat.not_lt_zero _)
  | m + 1, h, lo, s, o, due, nm, cN, e, q, hL, hi, hm, hT, hS, W, hlt => by
    obtain ⟨e50, e52, e53, e51, ⟨c, J, es⟩, hX⟩ := id hS
    have w9 : -2147483648 ≤ pI h 0 9 ∧ pI h 0 9 ≤ 2147483647 := i32bd (h.2.1 0 9)
    have f := tkB_f hT.2.2.2
    have bd := J.bd hi
    have after : ∀ (p : Nat) (lo1 : zL) (h1 h2 : zH) (r : Option Value), p ∈ [59, 69] → (∀ q ∈ lL, ∃ v, zget lo1 q.1 = some v ∧ sTok q.2 v) → sMd uMd h0 h1 → LO D b G h1 s o due nm cN e q r h2 → zX l Γ false (d + 5) (zhd 214) (zMQ' Γ false (zhd 214) (LPo D b G KF KO h0)) 0 0 p lo1 r.toList h2 := by
      intro p lo1 h1 h2 r hp L1 hm1 hO
      obtain ⟨hi2, hm2, x, rfl, hw⟩ := hO
      have B := List.all_eq_true.mp su4 p hp
      simp only [Bool.and_eq_true] at B
      rcases hw m KF KO W with ⟨c0, p0, hF, hx, hf⟩ | ⟨s', o', due', nm', cN', e', q', W', hx, T', S', hq⟩
      · refine spq_r (pc := p) (fun _ => 0) B.1 (by omega) L1 (sA0_ok _) trivial hi2 ⟨x, [], rfl, hx, rfl⟩ ?_
        intro x h' hx hi' hm' _ _
        exact ⟨hi', (hm1.seq hm2).seq (hm'.sub rfl), x, rfl, Or.inl ⟨c0, p0, hF, hx, by unfold fM; rw [pI_md hm' rfl, pI_md hm' rfl]; exact hf⟩⟩
      · refine spq_c (pc := p) (fun _ => 0) B.2 (by omega) L1 (sA0_ok _) trivial hi2 ⟨x, [], rfl, hx, rfl⟩ ?_
        intro lo3 st3 h3 hp3 hi3 hm3
        obtain ⟨p1, p2, p3, p4, p5⟩ := hp3
        have hs3 : st3 = [] := p1
        subst hs3
        exact zsumF m h3 lo3 s' o' due' nm' cN' e' q' p2 hi3 ((hm1.seq hm2).seq (hm3.sub rfl)) (T'.md hm3 rfl) (S'.md hm3 rfl rfl rfl rfl rfl rfl rfl rfl rfl) W' (by have := T'.2.1; omega)
    cases due with
    | true =>
      have e52 : pI h 0 52 = 1 := e52
      refine spq_c (pc := 25) (fun _ => 0) su1 (by omega) hL (sAok.of (iB (by omega) (by omega) iE)) trivial hi rfl ?_
      intro lo1 st1 h1 hp hi1 hm1
      obtain ⟨p1, p2, p3, p4, p5⟩ := hp
      obtain ⟨vr, _, rfl, hr, hn⟩ := p1
      have hr : vr = .ref 0 := hr
      subst hr
      have hn : _ = [] := hn
      subst hn
      refine zcallV (as := []) zv_u0 rfl (by rw [hi1.1]; rfl) ?_
      refine (zleafF (d := d) hi1 (hT.md hm1 rfl) (hS.md hm1 rfl rfl rfl rfl rfl rfl rfl rfl rfl)).mono ?_
      intro r h2 hO
      exact after 59 lo1 h1 h2 r (by decide) p2 (hm.seq (hm1.sub rfl)) hO
    | false =>
      have e52 : pI h 0 52 = 0 := e52
      by_cases hx : kF D q = 4 ∧ o = 0
      · have W : KO cN (wRl 0 s e) q := by
          rw [wSum, if_neg (by decide), if_neg (by omega), if_neg (by omega), if_pos hx] at W
          exact W
        refine spq_c (pc := 25) (fun _ => 0) su3 (by omega) hL (sAok.of (iB (by omega) (by omega) (iB (by omega) (by omega) (iB (by omega) (by omega) (iB (by omega) (by omega) iE))))) trivial hi rfl ?_
        intro lo1 st1 h1 hp hi1 hm1
        obtain ⟨p1, p2, p3, p4, p5⟩ := hp
        obtain ⟨_, _, rfl, ⟨k, rfl, hk1, hk2⟩, vr, _, rfl, hr, hn⟩ := p1
        have hk1 : 1 ≤ k.toInt := hk1
        have hk2 : k.toInt ≤ 1 := hk2
        have hr : vr = .ref 0 := hr
        subst hr
        have hn : _ = [] := hn
        subst hn
        have w1 : ∀ q j, pI h1 q j = pI h q j := fun q j => pI_md hm1 rfl
        have J1 : pJ h1 c := J.same (fun i _ => w1 25 i) (w1 0 48) (w1 0 50) (by rw [w1, w1]) (by rw [w1, w1]) (by rw [w1, w1]; exact J.2.2.2.2.1)
        refine zcallV (as := [.int k]) zv_u2 rfl (by rw [hi1.1]; rfl) ?_
        refine (zbindSF (d := d + 3) (by omega) hi1 J1 ((w1 0 52).trans e52) (hX.md hm1 rfl rfl rfl) (a := 1) (by decide) (x := k) (by omega)).mono ?_
        rintro rr h2 ⟨rfl, hi2, hm2, c2, J2, cl2, st2, ht, X2⟩
        have vld : ∀ i, i < c → pI h1 25 i ∈ kL := fun i hlt => kL_in (pwt hi1 (by have := J1.bd hi1; omega)) (J1.2.2.2.2.2 i hlt)
        have X2 : RX b G (wRl 0 s e) h2 := by
          rw [es, stR_eq (f := pI h 25) (g := pI h1 25) c (fun i _ => (w1 25 i).symm), wRl_01 c e vld]
          exact X2
        have bd2 := J2.bd hi2
        have v50 : pI h2 0 50 = pI h 0 50 := (pI_md hm2 rfl).trans (w1 0 50)
        have v51 : pI h2 0 51 = pI h 0 51 := (pI_md hm2 rfl).trans (w1 0 51)
        have v52 : pI h2 0 52 = pI h 0 52 := (pI_md hm2 rfl).trans (w1 0 52)
        have c20 : c2 = 0 := by
          rcases ht with e | e
          · exact e
          · match c2, J2, e, bd2 with
            | 0, _, _, _ => rfl
            | c2 + 1, J2, e, bd2 =>
              have e : rk (pI h2 25 c2) < 1 := e
              have kin := kL_in (pwt hi2 (i := c2) (by omega)) (J2.2.2.2.2.2 c2 (by omega))
              have e : pI h2 25 c2 = 0 := by
                have := (cm_ok kin).2.2.2.2
                omega
              have i2 := J2.2.1
              have zb := pZ_bd (pI h2 25) c2
              simp only [pZ, e, if_true] at i2
              omega
        subst c20
        have i3 := J2.2.2.1
        have i4 := J2.2.2.2.1
        have i5 := J2.2.2.2.2.1
        have eB : pB (pI h2 25) 0 = 0 := rfl
        have ixlen : (ixs b (wRl 0 s e)).length = 1 := by
          obtain ⟨-, -, ⟨n, y3, y4⟩, -⟩ := X2
          have l := congrArg List.length y4
          rw [stK_len, List.length_map] at l
          omega
        refine spq_r (pc := 79) (fun _ => 0) su8 (by omega) p2 (sA0_ok _) trivial hi2 rfl ?_
        intro x h3 hx3 hi3 hm3 _ _
        have w3 : ∀ q j, pI h3 q j = pI h2 q j := fun q j => pI_md hm3 rfl
        have w23 := w3 0 23
        have w51 := w3 0 51
        simp only [Int.natCast_zero] at i4
        exact ⟨hi3, ((hm.seq (hm1.sub rfl)).seq (hm2.sub rfl)).seq (hm3.sub rfl), x, rfl, Or.inr ⟨cN, wRl 0 s e, q, W, hx3, ((hT.md hm1 rfl).md hm2 rfl).md hm3 rfl, by omega, by omega, by omega, X2.md hm3 rfl rfl rfl, ixlen⟩⟩
      · have key : ∃ A ∈ suA, sAok A h := by
          by_cases c1 : 1 ≤ pI h 0 50
          · exact ⟨_, List.mem_cons_self, sAok.of (iB (by omega) (by omega) (iB c1 (by omega) iE))⟩
          by_cases c2 : pI h 0 8 ≤ 3
          · exact ⟨_, List.mem_cons_of_mem _ List.mem_cons_self, sAok.of (iB (by omega) (by omega) (iB (by omega) c2 iE))⟩
          by_cases c3 : 5 ≤ pI h 0 8
          · exact ⟨_, List.mem_cons_of_mem _ (List.mem_cons_of_mem _ List.mem_cons_self), sAok.of (iB (by omega) (by omega) (iB c3 (by omega) iE))⟩
          by_cases c4 : pI h 0 9 ≤ 58
          · exact ⟨_, List.mem_cons_of_mem _ (List.mem_cons_of_mem _ (List.mem_cons_of_mem _ List.mem_cons_self)), sAok.of (iB (by omega) (by omega) (iB (by omega) (by omega) (iB (by omega) c4 iE)))⟩
          · exact ⟨_, List.mem_cons_of_mem _ (List.mem_cons_of_mem _ (List.mem_cons_of_mem _ (List.mem_cons_of_mem _ List.mem_cons_self))), sAok.of (iB (by omega) (by omega) (iB (by omega) (by omega) (iB (by omega) (by omega) iE)))⟩
        obtain ⟨A, hA, ok⟩ := key
        refine spq_c (pc := 25) (fun _ => 0) (List.all_eq_true.mp su2 A hA) (by omega) hL ok trivial hi rfl ?_
        intro lo1 st1 h1 hp hi1 hm1
        obtain ⟨p1, p2, p3, p4, p5⟩ := hp
        obtain ⟨vr, _, rfl, hr, hn⟩ := p1
        have hr : vr = .ref 0 := hr
        subst hr
        have hn : _ = [] := hn
        subst hn
        refine zcallV (as := []) zv_u1 rfl (by rw [hi1.1]; rfl) ?_
        refine (zsignF (d := d) hi1 (hT.md hm1 rfl) (hS.md hm1 rfl rfl rfl rfl rfl rfl rfl rfl rfl) hx).mono ?_
        intro r h2 hO
        exact after 69 lo1 h1 h2 r (by decide) p2 (hm.seq (hm1.sub rfl)) hO
theorem zSumR {l : Launch} {Γ : zG} {d : Nat} {D : zD} {KF : zKF} {KO : Nat → List Int → Nat → Prop} {h : zH} {q cN : Nat} (hi : sInv swM h) (hT : tTk D q h) (h51 : pI h 0 51 = (cN : Int)) (h23 : pI h 0 23 = pI h 0 51) {G : Nat → Nat → Int} (hG : ∀ i, i < cN → pI h 22 (64 + i) = G 22 i ∧ pI h 23 (64 + i) = G 23 i ∧ pI h 24 (64 + i) = G 24 i) (W : wSum D 701 [] 0 true true cN [] q KF KO) : zSem l Γ false (d + 5) (zhd 214) [.ref 0] h (LPo D cN G KF KO h) := by
  refine spm_c (fun _ => 0) su0 (by omega) ⟨_, _, rfl, rfl, rfl⟩ (sA0_ok _) trivial hi ?_
  intro lo1 st1 h1 hp hi1 hm1
  obtain ⟨p1, p2, p3, p4, p5⟩ := hp
  have hs : st1 = [] := p1
  subst hs
  have s48 : 0 ≤ pI h1 0 48 ∧ pI h1 0 48 ≤ 0 := p3.1 (0, 48, (0, 0)) List.mem_cons_self
  have s49 : 0 ≤ pI h1 0 49 ∧ pI h1 0 49 ≤ 0 := p3.1 (0, 49, (0, 0)) (List.mem_cons_of_mem _ List.mem_cons_self)
  have s50 : 0 ≤ pI h1 0 50 ∧ pI h1 0 50 ≤ 0 := p3.1 (0, 50, (0, 0)) (List.mem_cons_of_mem _ (List.mem_cons_of_mem _ List.mem_cons_self))
  have s52 : 1 ≤ pI h1 0 52 ∧ pI h1 0 52 ≤ 1 := p3.1 (0, 52, (1, 1)) (List.mem_cons_of_mem _ (List.mem_cons_of_mem _ (List.mem_cons_of_mem _ List.mem_cons_self)))
  have s53 : 1 ≤ pI h1 0 53 ∧ pI h1 0 53 ≤ 1 := p3.1 (0, 53, (1, 1)) (List.mem_cons_of_mem _ (List.mem_cons_of_mem _ (List.mem_cons_of_mem _ (List.mem_cons_of_mem _ List.mem_cons_self))))
  have k23 : pI h1 0 23 = pI h 0 23 := pI_md hm1 rfl
  have k51 : pI h1 0 51 = pI h 0 51 := pI_md hm1 rfl
  have b23 : 0 ≤ pI h1 0 23 ∧ pI h1 0 23 ≤ 64 := pbd (iv := (0, 64)) hi1 (by decide +kernel)
  have J : pJ h1 0 := ⟨by show pI h1 0 48 = 0; omega, by show (0 : Int) = _; omega, by show (0 : Int) + 1 = _; omega, by show pI h1 0 23 + 0 - _ = _; omega, by omega, fun i hlt => absurd hlt (Nat.not_lt_zero _)⟩
  have tb := hT.1.2.2.2.1
  exact zsumF 701 h1 lo1 [] 0 true true cN [] q p2 hi1 (hm1.sub rfl) (hT.md hm1 rfl) ⟨by show pI h1 0 50 = 0; omega, by show pI h1 0 52 = 1; omega, by show pI h1 0 53 = 1; omega, by omega, ⟨0, J, rfl⟩, by show pI h1 0 23 = ((cN + 0 : Nat) : Int); omega, trivial, ⟨0, by show pI h1 0 49 = 0; omega, rfl⟩, fun i hi => by rw [pI_md hm1 rfl, pI_md hm1 rfl, pI_md hm1 rfl]; exact hG i hi⟩ W (by omega)
