/-! the reference's leafRead -/
theorem vF_bd (D : zD) (q : Nat) : 0 ≤ vF D q ∧ vF D q ≤ 9999999 := cNm_bd D.1 (D.2 - q) q 0 (by decide) (by decide)
theorem LSpush {h h3 : zH} {c : Nat} {v : Int} (J : pJ h c) (hv : v ∈ kL) (k25 : ∀ i, i < c → pI h3 25 i = pI h 25 i) (k48 : pI h3 0 48 = c + 1) (kc : pI h3 25 c = v) (h50 : pI h3 0 50 = pI h 0 50 + (if v = 0 then 1 else 0)) (h49 : pI h3 0 49 = pI h 0 49) (h52 : pI h3 0 52 = pI h 0 52 + (if v = 0 ∨ v = 2 then 0 else 1)) (h23 : pI h3 0 23 = pI h 0 23) (h51 : pI h3 0 51 = pI h 0 51 + (if v = 0 then 0 else 1)) : pJ h3 (c + 1) ∧ stR (pI h3 25) (c + 1) = cm v :: stR (pI h 25) c := by
  have j5 := J.2.2.2.2.1
  refine ⟨J.up k25 k48 (by rw [kc]; intro e; rw [e] at hv; revert hv; decide) (by rw [kc]; exact h50) (by rw [kc, h49, h52]; omega) h23 (by rw [kc]; exact h51) (by omega), ?_⟩
  show cm (pI h3 25 c) :: stR (pI h3 25) c = _
  rw [kc, stR_eq c k25]
theorem lf1 : spmB swM sT0 [(0, 4, 6)] 200 2 216 [] [sr0] (a1 [(0, 8, (4, 4)), (0, 9, (40, 40)), (0, 50, (8, 8))]) fP [] [fR 2] = true := by decide +kernel
theorem lf2 : spmB swM sT0 [(0, 50, 51)] 200 2 216 [] [sr0] (a1 [(0, 8, (4, 4)), (0, 9, (40, 40))]) [(0, (none, 50), (0, 7))] [(36, [sI1 0 0, sr0], lL, sA0, [(0, 50, 0, 1)], [])] [] = true := by decide +kernel
theorem lf3 : spqB swM sT0 [(0, 53, 54)] 100 1 216 lL sA0 [] [] 39 [(45, [sr0], lL, a1 [(0, 53, (1, 1))], [], [])] [] = true := by decide +kernel
theorem lf4 : spmB swM sT0 [(0, 4, 6)] 200 2 216 [] [sr0] (a1 [(0, 8, (1, 1)), (0, 9, (13, 13)), (0, 53, (1, 1)), (0, 51, (64, 64))]) fP [] [fR 2] = true := by decide +kernel
theorem lf5 : spmB swM sT0 [(0, 51, 52)] 200 2 216 [] [sr0] (a1 [(0, 8, (1, 1)), (0, 9, (13, 13)), (0, 53, (1, 1))]) [(0, (none, 51), (0, 63))] [(77, [sI1 2 2, sr0], lL, sA0, [(0, 51, 0, 1)], [])] [] = true := by decide +kernel
theorem lf6 : spqB swM sT0 [] 100 1 216 lL sA0 [] [] 80 [(81, [sr0], lL, sA0, [], [])] [] = true := by decide +kernel
theorem lf7 : spmB swM sT0 [(0, 4, 6)] 200 2 216 [] [sr0] (a1 [(0, 8, (3, 3)), (0, 9, (10000, 2147483647))]) fP [] [fR 2] = true := by decide +kernel
theorem lf8 : spmB swM sT0 [(0, 4, 6)] 200 2 216 [] [sr0] (a1 [(0, 8, (3, 3)), (0, 9, (0, 9999)), (0, 51, (64, 64))]) fP [] [fR 2] = true := by decide +kernel
theorem lf10 : spmB swM sT0 [(0, 4, 6)] 200 2 216 [] [sr0] (a1 [(0, 8, (1, 1)), (0, 9, (14, 20)), (0, 51, (64, 64))]) fP [] [fR 2] = true := by decide +kernel
theorem lf12 : [a1 [(0, 8, (0, 0))], a1 [(0, 8, (1, 1)), (0, 9, (0, 12))], a1 [(0, 8, (1, 1)), (0, 9, (13, 13)), (0, 53, (0, 0))], a1 [(0, 8, (2, 2))], a1 [(0, 8, (4, 4)), (0, 9, (-2147483648, 39))], a1 [(0, 8, (4, 4)), (0, 9, (41, 2147483647))], a1 [(0, 8, (5, 6))]].all (fun A => spmB swM sT0 [(0, 4, 6)] 200 2 216 [] [sr0] A fP [] [fR 1]) = true := by decide +kernel
theorem lf13 : spqB swM sT0 [(0, 52, 53)] 100 1 216 lL sA0 [] [] 164 [(170, [sr0], lL, a1 [(0, 52, (0, 0))], [], [])] [] = true := by decide +kernel
theorem zleafF {l : Launch} {Γ : zG} {d : Nat} {D : zD} {h : zH} {b : Nat} {G : Nat → Nat → Int} {s e : List Int} {o cN q : Nat} {nm : Bool} (hi : sInv swM h) (hT : tTk D q h) (hS : LSt b G s o true nm cN e h) : zSem l Γ false (d + 4) (zhd 216) [.ref 0] h (LO D b G h s o true nm cN e q) := by
  obtain ⟨e50, e52, e53, e51, ⟨c, J, es⟩, hX⟩ := id hS
  have e52 : pI h 0 52 = 1 := e52
  have bd := J.bd hi
  have j1 := J.1
  have j2 := J.2.1
  have j4 := J.2.2.2.1
  have j5 := J.2.2.2.2.1
  have f := tkB_f hT.2.2.2
  have vb := vF_bd D q
  have w9 : -2147483648 ≤ pI h 0 9 ∧ pI h 0 9 ≤ 2147483647 := i32bd (h.2.1 0 9)
  have grow : ∀ (lo' : zL) (h1 : zH) (k a y : Int32) (x : Int), zget lo' 0 = some (.ref 0) → sInv swM h1 → sMd [(0, 51, 52)] h h1 → ((k.toInt = 0 ∧ a.toInt = x ∧ 0 ≤ x ∧ x ≤ 9999) ∨ (k.toInt = 1 ∧ a.toInt = -x - 21 ∧ -27 ≤ x ∧ x ≤ -21)) → y.toInt = 0 → pI h1 0 51 = pI h 0 51 + 1 → kF D q ≠ 0 → (∀ m KF KO, wSum D (m + 1) s o true nm cN e q KF KO → wSum D m s o false nm (cN + 1) (x :: e) (qF D q) KF KO) → zX l Γ false (d + 4) (zhd 216) (zMQ' Γ false (zhd 216) (LO D b G h s o true nm cN e q)) 0 0 161 lo' ([.int y, .int a, .int k] ++ [.ref 0]) h1 := by
    intro lo' h1 k a y x l0 hi1 hm1 hka hy g51 hq hw
    refine zcallV zv_l2 rfl (by rw [hi1.1]; rfl) ?_
    show zSem l Γ false (d + 2 + 1) (zhd 221) [.ref 0, .int k, .int a, .int y] h1 _
    have f49 : pI h1 0 49 = pI h 0 49 := pI_md hm1 rfl
    have f23 : pI h1 0 23 = pI h 0 23 := pI_md hm1 rfl
    have b51 : 0 ≤ pI h1 0 51 ∧ pI h1 0 51 ≤ 64 := pbd (iv := (0, 64)) hi1 (by decide +kernel)
    have zb := pZ_bd (pI h 25) c
    obtain ⟨x1, x2, ⟨n, x3, x4⟩, x5⟩ := id hX
    have r64 : b + e.length < 64 := by omega
    have n95 : n < 96 := by omega
    have cl : ∃ cl ∈ gCl, (cl.1.1 ≤ k.toInt ∧ k.toInt ≤ cl.1.2) ∧ (cl.2.1.1 ≤ a.toInt ∧ a.toInt ≤ cl.2.1.2) ∧ (cl.2.2.1 ≤ y.toInt ∧ y.toInt ≤ cl.2.2.2) := by
      rcases hka with ⟨k1, k2, k3⟩ | ⟨k1, k2, k3⟩
      · exact ⟨((0, 0), (0, 9999), (0, 0)), List.mem_cons_self, ⟨by simp only; omega, by simp only; omega⟩, ⟨by simp only; omega, by simp only; omega⟩, ⟨by simp only; omega, by simp only; omega⟩⟩
      · exact ⟨((1, 1), (0, 6), (0, 0)), List.mem_cons_of_mem _ List.mem_cons_self, ⟨by simp only; omega, by simp only; omega⟩, ⟨by simp only; omega, by simp only; omega⟩, ⟨by simp only; omega, by simp only; omega⟩⟩
    obtain ⟨cl, hcl, ck, ca, cb⟩ := cl
    refine (zgrowX hi1 (r := b + e.length) (n := n) r64 (f23.trans x1) n95 (f49.trans x3) hcl ck ca cb).mono ?_
    rintro rr h2 ⟨rfl, hi2, hm2, g1, g2, f22, f23', f24, f26⟩
    have X2 : RX b G (x :: e) h2 := by
      refine RX.grow (h := h) (n := n) hX rfl (fun q i q1 q2 q3 q4 q5 => (pI_md hm2 (gMx_off (by omega))).trans (pI_md hm1 (smem1n (by omega)))) g1 g2 f26 ?_ ?_
      · rw [x4]
        unfold ixn
        rw [if_neg (by omega), if_neg (by omega)]
      · rw [f22, f23']
        rcases hka with ⟨k1, k2, k3⟩ | ⟨k1, k2, k3⟩
        · exact Or.inl ⟨k3.1, k1, k2⟩
        · exact Or.inr (Or.inl ⟨k3.1, k3.2, k1, k2⟩)
    refine spq_c (pc := 164) (fun _ => 0) lf13 (by omega) (sfm ⟨_, l0, rfl⟩ (fun _ h => nomatch h)) (sA0_ok _) trivial hi2 rfl ?_
    intro lo3 st3 h3 hp hi3 hm3
    obtain ⟨p1, p2, p3, p4, p5⟩ := hp
    obtain ⟨vr, _, rfl, hr, hn⟩ := p1
    have hr : vr = .ref 0 := hr
    subst hr
    have hn : _ = [] := hn
    subst hn
    have w0 : 0 ≤ pI h3 0 52 ∧ pI h3 0 52 ≤ 0 := p3.1 (0, 52, (0, 0)) List.mem_cons_self
    have off : ∀ {q j}, ¬ (q = 0 ∧ (j = 23 ∨ j = 49)) → q < 22 ∨ q = 25 → smem (gMx (b + e.length) n) q j = false := fun a c => gMx_off (by omega)
    have k25 : ∀ i, pI h3 25 i = pI h 25 i := fun i => (pI_md hm3 (smem_q rfl i)).trans ((pI_md hm2 (off (by omega) (by omega))).trans (pI_md hm1 (smem_q rfl i)))
    have k48 : pI h3 0 48 = pI h 0 48 := (pI_md hm3 rfl).trans ((pI_md hm2 (off (by omega) (by omega))).trans (pI_md hm1 rfl))
    have k23 : pI h3 0 23 = pI h2 0 23 := pI_md hm3 rfl
    have k49 : pI h3 0 49 = pI h2 0 49 := pI_md hm3 rfl
    have k50 : pI h3 0 50 = pI h 0 50 := (pI_md hm3 rfl).trans ((pI_md hm2 (off (by omega) (by omega))).trans (pI_md hm1 rfl))
    have k51 : pI h3 0 51 = pI h1 0 51 := (pI_md hm3 rfl).trans (pI_md hm2 (off (by omega) (by omega)))
    have k53 : pI h3 0 53 = pI h 0 53 := (pI_md hm3 rfl).trans ((pI_md hm2 (off (by omega) (by omega))).trans (pI_md hm1 rfl))
    refine zte (t := (216, 170)) (o' := o) (due' := false) (nm' := nm) (cN' := cN + 1) (e' := x :: e) (by decide) p2 hi3 (((hm1.sub rfl).tr hm2 (gMx_u r64 n95)).seq (hm3.sub rfl)) (((hT.md hm1 rfl).md hm2 (by rfl)).md hm3 rfl) ⟨by omega, by show pI h3 0 52 = 0; omega, by omega, by omega, ⟨c, J.same (fun i _ => k25 i) k48 (by omega) (by omega) (by omega) (by omega), ?_⟩, X2.md hm3 rfl rfl rfl⟩ hq hw
    rw [es]
    exact (stR_eq c (fun i _ => k25 i)).symm
  by_cases h5 : kF D q = 5
  · by_cases ho : o = 8
    · refine zflt lf1 hi hT (sAok.of (iB (by omega) (by omega) (iB (by omega) (by omega) (iB (by omega) (by omega) iE)))) (fun m KF KO g => ?_)
      rw [wSum, if_pos rfl, if_pos h5, if_pos ho] at g
      exact g
    · refine spm_c (fun _ => pI h 0 50) lf2 (by omega) ⟨_, _, rfl, rfl, rfl⟩ (sAok.of (iB (by omega) (by omega) (iB (by omega) (by omega) iE))) ⟨⟨rfl, by show 0 ≤ pI h 0 50; omega, by show pI h 0 50 ≤ 7; omega⟩, trivial⟩ hi ?_
      intro lo1 st1 h1 hp hi1 hm1
      obtain ⟨p1, p2, p3, p4, p5⟩ := hp
      obtain ⟨_, _, rfl, ⟨k, rfl, hk1, hk2⟩, vr, _, rfl, hr, hn⟩ := p1
      have hk1 : 0 ≤ k.toInt := hk1
      have hk2 : k.toInt ≤ 0 := hk2
      have hr : vr = .ref 0 := hr
      subst hr
      have hn : _ = [] := hn
      subst hn
      have g50 : pI h1 0 50 = pI h 0 50 + 1 := p4 (0, 50, 0, 1) List.mem_cons_self
      refine zcallV (as := [.int k]) zv_l0 rfl (by rw [hi1.1]; rfl) ?_
      refine (zwaitF (d := d + 2) hi1 (c := c) (by omega) ((pI_md hm1 rfl).trans j1) (v := 0) (by decide) (by omega)).mono ?_
      rintro rr h2 ⟨rfl, hi2, hm2, g1, g2⟩
      refine spq_c (pc := 39) (fun _ => 0) lf3 (by omega) p2 (sA0_ok _) trivial hi2 rfl ?_
      intro lo3 st3 h3 hp hi3 hm3
      obtain ⟨p1, p2, p3, p4, p5⟩ := hp
      obtain ⟨vr, _, rfl, hr, hn⟩ := p1
      have hr : vr = .ref 0 := hr
      subst hr
      have hn : _ = [] := hn
      subst hn
      have w53 : 1 ≤ pI h3 0 53 ∧ pI h3 0 53 ≤ 1 := p3.1 (0, 53, (1, 1)) List.mem_cons_self
      have tr : ∀ {a b : Nat}, smem [(0, 50, 51)] a b = false → smem (wMd c) a b = false → smem [(0, 53, 54)] a b = false → pI h3 a b = pI h a b := fun x y z => (pI_md hm3 z).trans ((pI_md hm2 y).trans (pI_md hm1 x))
      have k52 : pI h3 0 52 = pI h 0 52 := tr rfl rfl rfl
      have k51 : pI h3 0 51 = pI h 0 51 := tr rfl rfl rfl
      have k50 : pI h3 0 50 = pI h1 0 50 := (pI_md hm3 rfl).trans (pI_md hm2 rfl)
      have P := LSpush (h3 := h3) (v := 0) J (by decide) (fun i hlt => tr (smem_q rfl i) (wMd_off (by omega)) (smem_q rfl i)) ((pI_md hm3 rfl).trans g1) ((pI_md hm3 (smem_q rfl c)).trans g2) (by rw [if_pos rfl]; omega) (tr rfl rfl rfl) (by rw [if_pos (Or.inl rfl)]; omega) (tr rfl rfl rfl) (by rw [if_pos rfl]; omega)
      refine zte (t := (216, 45)) (o' := o + 1) (due' := true) (nm' := true) (cN' := cN) (e' := e) (by decide) p2 hi3 (((hm1.sub rfl).tr hm2 (wMd_u (by omega))).seq (hm3.sub rfl)) (((hT.md hm1 rfl).md hm2 (by rfl)).md hm3 rfl) ⟨by omega, by show pI h3 0 52 = 1; omega, by show pI h3 0 53 = 1; omega, by omega, ⟨c + 1, P.1, P.2.symm⟩, ((hX.md hm1 rfl rfl rfl).md hm2 rfl rfl rfl).md hm3 rfl rfl rfl⟩ (by omega) (fun m KF KO g => ?_)
      rw [wSum, if_pos rfl, if_pos h5, if_neg ho, es] at g
      exact g
  by_cases h28 : kF D q = 28 ∧ nm = true
  · have n53 : pI h 0 53 = 1 := by rw [e53, h28.2]; rfl
    by_cases hc : cN = 64
    · refine zflt lf4 hi hT (sAok.of (iB (by omega) (by omega) (iB (by omega) (by omega) (iB (by omega) (by omega) (iB (by omega) (by omega) iE))))) (fun m KF KO g => ?_)
      rw [wSum, if_pos rfl, if_neg h5, if_pos h28, if_pos hc] at g
      exact g
    · refine spm_c (fun _ => pI h 0 51) lf5 (by omega) ⟨_, _, rfl, rfl, rfl⟩ (sAok.of (iB (by omega) (by omega) (iB (by omega) (by omega) (iB (by omega) (by omega) iE)))) ⟨⟨rfl, by show 0 ≤ pI h 0 51; omega, by show pI h 0 51 ≤ 63; omega⟩, trivial⟩ hi ?_
      intro lo1 st1 h1 hp hi1 hm1
      obtain ⟨p1, p2, p3, p4, p5⟩ := hp
      obtain ⟨_, _, rfl, ⟨k, rfl, hk1, hk2⟩, vr, _, rfl, hr, hn⟩ := p1
      have hk1 : 2 ≤ k.toInt := hk1
      have hk2 : k.toInt ≤ 2 := hk2
      have hr : vr = .ref 0 := hr
      subst hr
      have hn : _ = [] := hn
      subst hn
      have g51 : pI h1 0 51 = pI h 0 51 + 1 := p4 (0, 51, 0, 1) List.mem_cons_self
      refine zcallV (as := [.int k]) zv_l1 rfl (by rw [hi1.1]; rfl) ?_
      refine (zwaitF (d := d + 2) hi1 (c := c) (by omega) ((pI_md hm1 rfl).trans j1) (v := 2) (by decide) (by omega)).mono ?_
      rintro rr h2 ⟨rfl, hi2, hm2, g1, g2⟩
      refine spq_c (pc := 80) (fun _ => 0) lf6 (by omega) p2 (sA0_ok _) trivial hi2 rfl ?_
      intro lo3 st3 h3 hp hi3 hm3
      obtain ⟨p1, p2, p3, p4, p5⟩ := hp
      obtain ⟨vr, _, rfl, hr, hn⟩ := p1
      have hr : vr = .ref 0 := hr
      subst hr
      have hn : _ = [] := hn
      subst hn
      have tr : ∀ {a b : Nat}, smem [(0, 51, 52)] a b = false → smem (wMd c) a b = false → pI h3 a b = pI h a b := fun x y => (pI_md hm3 rfl).trans ((pI_md hm2 y).trans (pI_md hm1 x))
      have k50 : pI h3 0 50 = pI h 0 50 := tr rfl rfl
      have k52 : pI h3 0 52 = pI h 0 52 := tr rfl rfl
      have k53 : pI h3 0 53 = pI h 0 53 := tr rfl rfl
      have k51 : pI h3 0 51 = pI h1 0 51 := (pI_md hm3 rfl).trans (pI_md hm2 rfl)
      have P := LSpush (h3 := h3) (v := 2) J (by decide) (fun i hlt => tr (smem_q rfl i) (wMd_off (by omega))) ((pI_md hm3 rfl).trans g1) ((pI_md hm3 rfl).trans g2) (by rw [if_neg (by decide)]; omega) (tr rfl rfl) (by rw [if_pos (Or.inr rfl)]; omega) (tr rfl rfl) (by rw [if_neg (by decide)]; omega)
      refine zte (t := (216, 81)) (o' := o) (due' := true) (nm' := nm) (cN' := cN + 1) (e' := e) (by decide) p2 hi3 (((hm1.sub rfl).tr hm2 (wMd_u (by omega))).seq (hm3.sub rfl)) (((hT.md hm1 rfl).md hm2 (by rfl)).md hm3 rfl) ⟨by omega, by show pI h3 0 52 = 1; omega, k53.trans e53, by omega, ⟨c + 1, P.1, P.2.symm⟩, ((hX.md hm1 rfl rfl rfl).md hm2 rfl rfl rfl).md hm3 rfl rfl rfl⟩ (by omega) (fun m KF KO g => ?_)
      rw [wSum, if_pos rfl, if_neg h5, if_pos h28, if_neg hc, es] at g
      exact g
  by_cases h3 : kF D q = 3
  · by_cases hv : 9999 < vF D q
    · refine zflt lf7 hi hT (sAok.of (iB (by omega) (by omega) (iB (by omega) (by omega) iE))) (fun m KF KO g => ?_)
      rw [wSum, if_pos rfl, if_neg h5, if_neg h28, if_pos h3, if_pos hv] at g
      exact g
    by_cases hc : cN = 64
    · refine zflt lf8 hi hT (sAok.of (iB (by omega) (by omega) (iB (by omega) (by omega) (iB (by omega) (by omega) iE)))) (fun m KF KO g => ?_)
      rw [wSum, if_pos rfl, if_neg h5, if_neg h28, if_pos h3, if_neg hv, if_pos hc] at g
      exact g
    · refine lwrn (d := d + 3) (by omega) hi (va := vF D q) ⟨by omega, by omega⟩ (kn := pI h 0 51) ⟨by omega, by omega⟩ (by omega) (by omega) rfl (fun lo1 h1 y0 y1 y2 hi1 hm1 g51 l0 v0 v1 v2 => ?_)
      refine grow lo1 h1 y2 y1 y0 (vF D q) l0 hi1 hm1 (Or.inl ⟨v2, v1, by omega, by omega⟩) v0 g51 (by omega) (fun m KF KO g => ?_)
      rw [wSum, if_pos rfl, if_neg h5, if_neg h28, if_pos h3, if_neg hv, if_neg hc] at g
      exact g
  by_cases hn : 21 ≤ kF D q ∧ kF D q ≤ 27
  · by_cases hc : cN = 64
    · refine zflt lf10 hi hT (sAok.of (iB (by omega) (by omega) (iB (by omega) (by omega) (iB (by omega) (by omega) iE)))) (fun m KF KO g => ?_)
      rw [wSum, if_pos rfl, if_neg h5, if_neg h28, if_neg h3, if_pos hn, if_pos hc] at g
      exact g
    · refine lwrm (d := d + 3) (by omega) hi (va := kF D q - 7) ⟨by omega, by omega⟩ (kn := pI h 0 51) ⟨by omega, by omega⟩ (by omega) (by omega) rfl (fun lo1 h1 y0 y1 y2 hi1 hm1 g51 l0 v0 v1 v2 => ?_)
      refine grow lo1 h1 y2 y1 y0 (-kF D q) l0 hi1 hm1 (Or.inr ⟨v2, by omega, by omega, by omega⟩) v0 g51 (by omega) (fun m KF KO g => ?_)
      rw [wSum, if_pos rfl, if_neg h5, if_neg h28, if_neg h3, if_pos hn, if_neg hc] at g
      exact g
  · have hw : ∀ m KF KO, wSum D (m + 1) s o true nm cN e q KF KO → KF 1 q := fun m KF KO g => by
      rw [wSum, if_pos rfl, if_neg h5, if_neg h28, if_neg h3, if_neg hn] at g
      exact g
    have B := List.all_eq_true.mp lf12
    have n53 : kF D q = 28 → pI h 0 53 = 0 := fun e => by
      rw [e53]
      cases nm with
      | false => rfl
      | true => exact absurd ⟨e, rfl⟩ h28
    by_cases c0 : pI h 0 8 = 0
    · exact zflt (B _ List.mem_cons_self) hi hT (sAok.of (iB (by omega) (by omega) iE)) hw
    by_cases c1 : pI h 0 8 = 1 ∧ pI h 0 9 ≤ 12
    · exact zflt (B _ (List.mem_cons_of_mem _ List.mem_cons_self)) hi hT (sAok.of (iB (by omega) (by omega) (iB (by omega) (by omega) iE))) hw
    by_cases c2 : pI h 0 8 = 1
    · have := n53 (by omega)
      exact zflt (B _ (List.mem_cons_of_mem _ (List.mem_cons_of_mem _ List.mem_cons_self))) hi hT (sAok.of (iB (by omega) (by omega) (iB (by omega) (by omega) (iB (by omega) (by omega) iE)))) hw
    by_cases c3 : pI h 0 8 = 2
    · exact zflt (B _ (List.mem_cons_of_mem _ (List.mem_cons_of_mem _ (List.mem_cons_of_mem _ List.mem_cons_self)))) hi hT (sAok.of (iB (by omega) (by omega) iE)) hw
    by_cases c4 : pI h 0 8 = 4 ∧ pI h 0 9 ≤ 39
    · exact zflt (B _ (List.mem_cons_of_mem _ (List.mem_cons_of_mem _ (List.mem_cons_of_mem _ (List.mem_cons_of_mem _ List.mem_cons_self))))) hi hT (sAok.of (iB (by omega) (by omega) (iB (by omega) (by omega) iE))) hw
    by_cases c5 : pI h 0 8 = 4
    · exact zflt (B _ (List.mem_cons_of_mem _ (List.mem_cons_of_mem _ (List.mem_cons_of_mem _ (List.mem_cons_of_mem _ (List.mem_cons_of_mem _ List.mem_cons_self)))))) hi hT (sAok.of (iB (by omega) (by omega) (iB (by omega) (by omega) iE))) hw
    · exact zflt (B _ (List.mem_cons_of_mem _ (List.mem_cons_of_mem _ (List.mem_cons_of_mem _ (List.mem_cons_of_mem _ (List.mem_cons_of_mem _ (List.mem_cons_of_mem _ List.mem_cons_self))))))) hi hT (sAok.of (iB (by omega) (by omega) iE)) hw
