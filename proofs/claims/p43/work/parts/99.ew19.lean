/-! kinds that stay, kinds that change in one place -/
theorem CS.k0 {b : Nat} {s : zSt} {h h' : zH} {md : sM} (hC : CS b s h) (hm : sMd md h h') (hb : ∀ j, smem md (b + 1) j = false) : ∀ g, g < 8 → pI h' (b + 1) g = s 0 g := fun g hg => (pI_md hm (hb g)).trans (hC.1 g hg).1
theorem CS.k1 {b : Nat} {s : zSt} {h h' : zH} {md : sM} (hC : CS b s h) (hm : sMd md h h') (hb : ∀ j, smem md (b + 2) j = false) : ∀ g, g < 8 → pI h' (b + 2) g = s 1 g := fun g hg => (pI_md hm (hb g)).trans (hC.1 g hg).2.1
theorem CS.k3 {b : Nat} {s : zSt} {h h' : zH} {md : sM} (hC : CS b s h) (hm : sMd md h h') (hb : ∀ j, smem md (b + 3) j = false) : ∀ g, g < 8 → pI h' (b + 3) g = s 3 g := fun g hg => (pI_md hm (hb g)).trans (hC.1 g hg).2.2.1
theorem CS.k4 {b : Nat} {s : zSt} {h h' : zH} {md : sM} (hC : CS b s h) (hm : sMd md h h') (hb : ∀ j, smem md (b + 4) j = false) : ∀ g, g < 8 → pI h' (b + 4) g = s 4 g := fun g hg => (pI_md hm (hb g)).trans (hC.1 g hg).2.2.2
theorem CS.k5 {b : Nat} {s : zSt} {h h' : zH} {md : sM} (hC : CS b s h) (hm : sMd md h h') (hb : ∀ j, smem md (b + 5) j = false) : ∀ g, g < 10 → pI h' (b + 5) g = s 5 g := fun g hg => (pI_md hm (hb g)).trans (hC.2.1 g hg)
theorem CS.k6 {b : Nat} {s : zSt} {h h' : zH} {md : sM} (hC : CS b s h) (hm : sMd md h h') (hb : ∀ j, j < 3 → smem md b j = false) : pI h' b 0 = s 6 0 ∧ pI h' b 2 = s 6 1 ∧ pL h' b 1 = s 6 2 := ⟨(pI_md hm (hb 0 (by decide))).trans hC.2.2.1.1, (pI_md hm (hb 2 (by decide))).trans hC.2.2.1.2.1, (pL_md hm (hb 1 (by decide))).trans hC.2.2.1.2.2⟩
theorem CS.k2 {b : Nat} {s : zSt} {h h' : zH} {md : sM} (hC : CS b s h) (hm : sMd md h h') (hb : smem md b 3 = false) : 0 ≤ pI h' b 3 ∧ pI h' b 3 < 256 ∧ ∀ g, g < 8 → wbT (pI h' b 3) g = s 2 g := by
  rw [pI_md hm hb]
  exact hC.2.2.2
theorem upS {f : Nat → Int} {s : zSt} {k g0 n : Nat} {v : Int} (h1 : ∀ g, g < n → g ≠ g0 → f g = s k g) (h2 : f g0 = v) : ∀ g, g < n → f g = stS s k g0 v k g := fun g hg => by
  by_cases e : g = g0
  · subst e
    rw [stS_s]
    exact h2
  · rw [stS_n (by omega)]
    exact h1 g hg e
theorem CS.mk {b : Nat} {s : zSt} {h : zH} (a0 : ∀ g, g < 8 → pI h (b + 1) g = s 0 g) (a1 : ∀ g, g < 8 → pI h (b + 2) g = s 1 g) (a3 : ∀ g, g < 8 → pI h (b + 3) g = s 3 g) (a4 : ∀ g, g < 8 → pI h (b + 4) g = s 4 g) (a5 : ∀ g, g < 10 → pI h (b + 5) g = s 5 g) (a6 : pI h b 0 = s 6 0 ∧ pI h b 2 = s 6 1 ∧ pL h b 1 = s 6 2) (a2 : 0 ≤ pI h b 3 ∧ pI h b 3 < 256 ∧ ∀ g, g < 8 → wbT (pI h b 3) g = s 2 g) : CS b s h := ⟨fun g hg => ⟨a0 g hg, a1 g hg, a3 g hg, a4 g hg⟩, a5, a6, a2⟩
theorem CI.lo {t u : Nat} (ht : t < 2) (hu : u < 2) {N : zN} {S : zS} {o : Nat → Int} {s : zSt} {h0 h h' : zH} {md : sM} (I : CI t u N S o s h0 h) (i1 : sInv swC h') (m1 : sMd md h h') (hs : ssubB md (MC t u) = true) (hb : md.all (fun x => decide (x.1 < 43)) = true) : CI t u N S o s h0 h' :=
  I.to ht hu i1 (m1.sub hs) (I.2.2.2.md m1 (fun q h1 h2 j => smem_lt hb (by omega)))
/-! the names are laid -/
theorem kcL_s : ((List.range 8).all fun g => (List.range 2).all fun t => (List.range 2).all fun u => ssubB (kcL_m g t u) (MC t u) && (kcL_m g t u).all (fun x => decide (x.1 < 43))) = true := by decide
theorem zLookC {l : Launch} {Γ : zG} {d t u : Nat} (ht : t < 2) (hu : u < 2) {N : zN} {S : zS} {o : Nat → Int} {s : zSt} {h0 h : zH} (hT : TB N S) (hO : OB o) (I : CI t u N S o s h0 h) {g : Nat} (hg : g < S 1) {x : Int32} (hx : x.toInt = (g : Int)) : zSem l Γ false (d + 2) (zhd 87) [.ref 61, .ref (12 * u + 43), .int x] h (fun r h' => r = none ∧ CI t u N S o s h0 h' ∧ ∀ i, i < 7 → pI h' (17 * t + 24) i = nmS N o s g i) := by
  have b1 := hT.1.2.1
  have g8 : g < 8 := by omega
  obtain ⟨-, -, -, -, q4, q5⟩ := I.2.2.1.1.1.2.2.1 g hg
  obtain ⟨o0, -, -, -, o3, o4⟩ := I.2.2.1.2
  obtain ⟨c1, c2, -, c4⟩ := I.2.2.2.1 g g8
  have c5 := I.2.2.2.2.2.1.1
  have cw := I.2.2.2.2.2.2
  have ss := zall_r (zall_r (zall_r kcL_s g8) ht) hu
  simp only [Bool.and_eq_true] at ss
  refine kcL (d := d + 1) (by omega) g8 ht hu (n := (S 1 : Int)) I.1 (i32e c1) (i32e c2) (i32e c4) ⟨by omega, by omega⟩ (i32e c5) (i32e o3) (i32e rfl) ⟨by omega, by omega⟩ (i32e q4) (i32e q5) hx c1 c2 c4 rfl c5 o3 rfl I.2.2.1.1.1.2.1.2.1 q4 q5 o0 (fun h' w0 w1 i1 m1 e0 e1 e k6 k5 k4 k3 k2 k1 k0 => ⟨rfl, I.lo ht hu i1 m1 ss.1 ss.2, fun i hi => ?_⟩) (fun h' w0 w1 i1 m1 e0 e1 e k6 k5 k4 k3 k2 k1 k0 => ⟨rfl, I.lo ht hu i1 m1 ss.1 ss.2, fun i hi => ?_⟩)
  · have ew : w1 = s 2 g := by
      rw [← cw.2.2 g g8]
      unfold wbT
      rw [← e0, ← e1]
    have en : pI h 61 5 = nkS N o g := by
      unfold nkS
      rw [if_pos e, o4 (by omega)]
    rcases (by omega : i = 0 ∨ i = 1 ∨ i = 2 ∨ i = 3 ∨ i = 4 ∨ i = 5 ∨ i = 6) with rfl | rfl | rfl | rfl | rfl | rfl | rfl
    · exact k0
    · exact k1
    · exact k2.trans en
    · exact k3
    · exact k4.trans ew
    · exact k5
    · exact k6
  · have ew : w1 = s 2 g := by
      rw [← cw.2.2 g g8]
      unfold wbT
      rw [← e0, ← e1]
    have en : N 5 g = nkS N o g := by
      unfold nkS
      rw [if_neg e]
    rcases (by omega : i = 0 ∨ i = 1 ∨ i = 2 ∨ i = 3 ∨ i = 4 ∨ i = 5 ∨ i = 6) with rfl | rfl | rfl | rfl | rfl | rfl | rfl
    · exact k0
    · exact k1
    · exact k2.trans en
    · exact k3
    · exact k4.trans ew
    · exact k5
    · exact k6
/-! a law's value -/
def bdE (y : Int64) (o : Option Int) : Prop := (∃ v, o = some v ∧ inW v ∧ y.toInt = v) ∨ (o = none ∧ y.toInt = -9223372036854775808)
theorem bdE.c {y : Int64} {o : Option Int} (h : bdE y o) (w : Int) : (y.toInt = -9223372036854775808 → bdV o w = w) ∧ (-9223372036854775807 ≤ y.toInt → (y.toInt < 0 → bdV o w = 0) ∧ (0 ≤ y.toInt → y.toInt ≤ 99 → bdV o w = y.toInt) ∧ (100 ≤ y.toInt → bdV o w = 99)) := by
  rcases h with ⟨v, rfl, hv, e⟩ | ⟨rfl, e⟩
  · refine ⟨fun h => ?_, fun h => ⟨fun h1 => ?_, fun h1 h2 => ?_, fun h1 => ?_⟩⟩
    · exfalso
      unfold inW at hv
      omega
    · show (if v < 0 then 0 else if 99 < v then 99 else v) = 0
      rw [if_pos (by omega)]
    · show (if v < 0 then 0 else if 99 < v then 99 else v) = _
      rw [if_neg (by omega), if_neg (by omega), e]
    · show (if v < 0 then 0 else if 99 < v then 99 else v) = 99
      rw [if_neg (by omega), if_pos (by omega)]
  · exact ⟨fun _ => rfl, fun h => absurd e (by omega)⟩
theorem VC_s : ((List.range 2).all fun t => (List.range 2).all fun u => ssubB [(17 * t + 25, 0, 64)] (MC t u) && [(17 * t + 25, 0, 64)].all (fun x => decide (x.1 < 43))) = true := by decide
theorem zValN {l : Launch} {Γ : zG} {d t u : Nat} (ht : t < 2) (hu : u < 2) {N : zN} {S : zS} {o : Nat → Int} {s : zSt} {h0 h : zH} (hT : TB N S) (I : CI t u N S o s h0 h) {j : Nat} (hj : j < 3) (h7 : S (7 + j) ≠ 0) {nm : Nat → Int} (hnm : ∀ i, i < 7 → pI h (17 * t + 24) i = nm i) {x : Int32} (hx : x.toInt = (j : Int)) : zSem l Γ false (d + 2) (zhd 89) [.ref (17 * t + 20), .int x] h (fun r h' => ∃ y, r = some (.long y) ∧ CI t u N S o s h0 h' ∧ bdE y (lwV N S j nm)) := by
  obtain ⟨c1, ⟨kd, pt, ot, ck⟩, c3, c4⟩ := hT.2.2.2.2.2 j hj h7
  obtain ⟨e1, e2, -, e4⟩ := I.2.2.1.1.2.1.2 j hj h7
  have ln := lsF_len (S (11 + j)) (N (20 + j))
  have ss := zall_r (zall_r VC_s ht) hu
  simp only [Bool.and_eq_true] at ss
  refine (zValC (l := l) (Γ := Γ) (d := d + 1) (by omega) ht hj (b := S (14 + j)) (e := lsF (N (20 + j)) (S (11 + j))) (nm := nm) (by rw [ln]; exact c1) c4 ck c3 I.1 e1 (by rw [ln]; exact e2) e4 hnm hx).mono (fun r h' hr => ?_)
  obtain ⟨y, rfl, i1, m1, hy⟩ := hr
  refine ⟨y, rfl, I.lo ht hu i1 m1 ss.1 ss.2, ?_⟩
  rcases hy with ⟨v, a1, a2, a3⟩ | ⟨a1, a2⟩
  · refine Or.inl ⟨v, ?_, a2, a3⟩
    unfold lwV
    rw [if_neg h7, a1]
  · refine Or.inr ⟨?_, a2⟩
    unfold lwV
    rw [if_neg h7, a1]
theorem lwV_n {N : zN} {S : zS} {j : Nat} {nm : Nat → Int} (h : S (7 + j) = 0) : lwV N S j nm = none := if_pos h
/-! how much flows -/
theorem sgd7 {a : Int} (h : 0 ≤ a ∧ a ≤ 9) : sgfn 7 a 2 = a / 2 := by
  obtain ⟨n, rfl⟩ : ∃ n : Nat, a = (n : Int) := ⟨a.toNat, by omega⟩
  have t : ((List.range 10).all fun n => decide (sgfn 7 (n : Int) 2 = (n : Int) / 2)) = true := by decide +kernel
  exact of_decide_eq_true (zall_r t (by omega))
theorem zv_scf1 : zcvB 108 66 8 2 87 = true := by decide +kernel
theorem zv_scf2 : zcvB 108 77 6 1 89 = true := by decide +kernel
theorem shL {t : Nat} (ht : t < 2) {h : zH} (hi : sInv swC h) : h.1[17 * t + 20]? = some (0, 6) := by
  rw [hi.1]
  rcases (by omega : t = 0 ∨ t = 1) with rfl | rfl <;> rfl
theorem shK {h : zH} (hi : sInv swC h) : h.1[61]? = some (0, 8) := by
  rw [hi.1]
  rfl
theorem zFlwC {l : Launch} {Γ : zG} {d t u : Nat} (ht : t < 2) (hu : u < 2) {N : zN} {S : zS} {o : Nat → Int} {s : zSt} {h0 h : zH} (hT : TB N S) (hO : OB o) (I : CI t u N S o s h0 h) {g : Nat} (hg : g < S 1) {x : Int32} (hx : x.toInt = (g : Int)) : zSem l Γ false (d + 3) (zhd 108) [.ref 61, .ref (12 * u + 43), .int x] h (fun r h' => ∃ y : Int32, r = some (.int y) ∧ y.toInt = flG N S o s g ∧ CI t u N S o s h0 h') := by
  have b1 := hT.1.2.1
  have g8 : g < 8 := by omega
  have nb := hT.2.1 g hg
  obtain ⟨-, -, -, -, q4, q5⟩ := I.2.2.1.1.1.2.2.1 g hg
  obtain ⟨o0, -, -, -, o3, o4⟩ := I.2.2.1.2
  have cw := I.2.2.2.2.2.2
  have lw := I.2.2.1.1.2.2 0 (by decide)
  have pb := plS_b (s := s) hT hO hg
  have kb := nkS_b (N := N) (S := S) hT hO hg
  have fin : ∀ (lo' : zL) (h' : zH) (y0 : Int32) (pn : Int), CI t u N S o s h0 h' → pI h (17 * t + 22) 0 ≠ -1 → zget lo' 0 = some (.ref 61) → zget lo' 1 = some (.ref (12 * u + 43)) → zI lo' 4 pn → pn = plS N o s g → y0.toInt = (g : Int) → zX l Γ false (d + 3) (zhd 108) (zMQ' Γ false (zhd 108) (fun r h' => ∃ y : Int32, r = some (.int y) ∧ y.toInt = flG N S o s g ∧ CI t u N S o s h0 h')) 0 0 66 lo' [.int y0, .ref (12 * u + 43), .ref 61] h' := fun lo' h' y0 pn I1 hS g0 g1 g4 hp hy => by
    have hS' : S (7 + 0) ≠ 0 := fun e => hS (lw.mp e)
    refine zcallR (mi := 108) (as := [.int y0, .ref (12 * u + 43)]) (rest := []) (q0 := 61) zv_scf1 rfl (by decide) (shK I1.1) ?_
    refine (zLookC ht hu hT hO I1 hg hy).mono (fun v h2 hv => ?_)
    obtain ⟨rfl, I2, hnm⟩ := hv
    refine kcF1 (d := d + 2) (by omega) ht hu (pn := pn) I2.1 ⟨by omega, by omega⟩ g0 g1 g4 I2.2.2.1.2.1 (fun lo3 h3 y3 i3 m3 z0 z1 z4 hy3 => ?_)
    have I3 := I2.nil ht hu i3 m3
    refine zcallR (mi := 108) (as := [.int y3]) (rest := []) (q0 := 17 * t + 20) zv_scf2 rfl (by decide) (shL ht i3) ?_
    refine (zValN ht hu hT I3 (j := 0) (by decide) hS' (nm := nmS N o s g) (fun i hi => (pI_md m3 rfl).trans (hnm i hi)) hy3).mono (fun v h4 hv => ?_)
    obtain ⟨y4, rfl, I4, hb⟩ := hv
    have c := hb.c (plS N o s g)
    refine kcF2 (d := d + 2) (by omega) hu (pn := pn) (y := y4.toInt) I4.1 ⟨by omega, by omega⟩ (i64bd _) z0 z1 z4 rfl (fun h5 r5 i5 m5 e1 e2 => ?_) (fun h5 r5 i5 m5 e1 e2 e3 e4 => ?_) (fun h5 r5 i5 m5 e1 e2 e3 e4 => ?_) (fun h5 r5 i5 m5 e1 e2 e3 => ?_)
    · exact ⟨r5, rfl, by rw [e2, hp]; exact (c.1 e1).symm, I4.nil ht hu i5 m5⟩
    · exact ⟨r5, rfl, by rw [e4]; exact ((c.2 (by omega)).2.1 (by omega) (by omega)).symm, I4.nil ht hu i5 m5⟩
    · exact ⟨r5, rfl, by rw [e4]; exact ((c.2 (by omega)).2.2 (by omega)).symm, I4.nil ht hu i5 m5⟩
    · exact ⟨r5, rfl, by rw [e3]; exact ((c.2 (by omega)).1 (by omega)).symm, I4.nil ht hu i5 m5⟩
  have pl : pI h (17 * t + 22) 0 = -1 → flG N S o s g = plS N o s g := fun e => by
    unfold flG
    rw [lwV_n (lw.mpr e)]
    rfl
  have wt : ∀ w0 w1, w0 = sgfn 4 (pI h (12 * u + 43) 3) (g : Int) → w1 = sgfn 2 w0 1 → w1 = s 2 g := fun w0 w1 e0 e1 => by
    rw [← cw.2.2 g g8]
    unfold wbT
    rw [← e0, ← e1]
  have fb : -1 ≤ pI h (17 * t + 22) 0 ∧ pI h (17 * t + 22) 0 ≤ 64 := by
    by_cases e : S (7 + 0) = 0
    · have := lw.mp e
      omega
    · have a := (I.2.2.1.1.2.1.2 0 (by decide) e)
      have b := (hT.2.2.2.2.2 0 (by decide) e).1
      have a1 : pI h (17 * t + 22) 0 = (S (14 + 0) : Int) := a.1
      omega
  have on1 : (g : Int) = o 3 → pI h 61 5 = nkS N o g := fun e => by
    unfold nkS
    rw [if_pos e, o4 (by omega)]
  have nk1 : (g : Int) ≠ o 3 → N 5 g = nkS N o g := fun e => by
    unfold nkS
    rw [if_neg e]
  have pl1 : s 2 g = 1 → plS N o s g = nkS N o g / 2 := fun e => if_pos e
  have pl0 : s 2 g ≠ 1 → plS N o s g = nkS N o g := fun e => if_neg e
  refine kcF0 (d := d + 2) (by omega) g8 ht hu (w := pI h (12 * u + 43) 3) (og := o 3) (on := pI h 61 5) (n := (S 1 : Int)) (nk := N 5 g) (fm := pI h (17 * t + 22) 0) I.1 (i32e rfl) (i32e o3) (i32e rfl) ⟨by omega, by omega⟩ nb.2.2.2.1 fb hx rfl o3 rfl I.2.2.1.1.1.2.1.2.1 q4 rfl o0 (fun lo' h' w0 w1 w2 y0 i1 m1 e0 e1 e2 eg ew ef g0 g1 g2 g4 hy => ?_) (fun lo' h' w0 w1 y0 i1 m1 e0 e1 eg ew ef g0 g1 g2 g4 hy => ?_) (fun lo' h' w0 w1 w2 y0 i1 m1 e0 e1 e2 ew eg ef g0 g1 g2 g4 hy => ?_) (fun lo' h' w0 w1 y0 i1 m1 e0 e1 eg ew ef g0 g1 g2 g4 hy => ?_) (fun h' w0 w1 w2 y0 i1 m1 e0 e1 e2 eg ew ef hy => ?_) (fun h' w0 w1 y0 i1 m1 e0 e1 eg ef ew hy => ?_) (fun h' w0 w1 w2 y0 i1 m1 e0 e1 e2 ew ef eg hy => ?_) (fun h' w0 w1 y0 i1 m1 e0 e1 ef eg ew hy => ?_)
  · exact fin lo' h' y0 w0 (I.nil ht hu i1 m1) ef g0 g1 g4 (by rw [e0, pl1 (by rw [← wt _ _ e1 e2]; exact ew), on1 eg, sgd7 kb]) hy
  · exact fin lo' h' y0 _ (I.nil ht hu i1 m1) ef g0 g1 g4 (by rw [pl0 (by rw [← wt _ _ e0 e1]; exact ew), on1 eg]) hy
  · exact fin lo' h' y0 w0 (I.nil ht hu i1 m1) ef g0 g1 g4 (by rw [e0, pl1 (by rw [← wt _ _ e1 e2]; exact ew), nk1 eg, sgd7 kb]) hy
  · exact fin lo' h' y0 _ (I.nil ht hu i1 m1) ef g0 g1 g4 (by rw [pl0 (by rw [← wt _ _ e0 e1]; exact ew), nk1 eg]) hy
  · exact ⟨y0, rfl, by rw [hy, e0, pl ef, pl1 (by rw [← wt _ _ e1 e2]; exact ew), on1 eg, sgd7 kb], I.nil ht hu i1 m1⟩
  · exact ⟨y0, rfl, by rw [hy, pl ef, pl0 (by rw [← wt _ _ e0 e1]; exact ew), on1 eg], I.nil ht hu i1 m1⟩
  · exact ⟨y0, rfl, by rw [hy, e0, pl ef, pl1 (by rw [← wt _ _ e1 e2]; exact ew), nk1 eg, sgd7 kb], I.nil ht hu i1 m1⟩
  · exact ⟨y0, rfl, by rw [hy, pl ef, pl0 (by rw [← wt _ _ e0 e1]; exact ew), nk1 eg], I.nil ht hu i1 m1⟩
