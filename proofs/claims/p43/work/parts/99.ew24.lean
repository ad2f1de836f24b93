/-! one minute, as the reference lets it go by -/
def MS (S : zS) (b : Nat) (s : zSt) (h : zH) : Prop := (∀ g, g < S 1 → pI h 29 (8 * b + g) = s 0 g ∧ pI h 30 (8 * b + g) = s 1 g ∧ pI h 31 (8 * b + g) = s 2 g ∧ pI h 32 (8 * b + g) = s 3 g ∧ pI h 33 (8 * b + g) = s 4 g) ∧ (∀ p, p < 10 → pI h 34 (10 * b + p) = s 5 p) ∧ pI h 36 b = s 6 0 ∧ pI h 35 b = s 6 1 ∧ pL h 0 65 = s 6 2
def OM (o : Nat → Int) (h : zH) : Prop := pI h 0 66 = o 0 ∧ (pI h 0 67 = if o 1 = 0 then 1 else 0) ∧ (pI h 0 68 = if o 1 = 1 then 1 else 0) ∧ (pI h 0 69 = if o 1 = 3 then 1 else 0) ∧ (pI h 0 70 = if o 1 = 4 then 1 else 0) ∧ pI h 0 71 = o 2 ∧ pI h 0 72 = o 3 ∧ pI h 0 73 = o 4
def MF (N : zN) (S : zS) (o : Nat → Int) (h : zH) : Prop := TMt N S h ∧ LwT N S h ∧ OM o h
def MM (b : Nat) : sM := [(29, 8 * b, 8 * b + 8), (30, 8 * b, 8 * b + 8), (31, 8 * b, 8 * b + 8), (32, 8 * b, 8 * b + 8), (33, 8 * b, 8 * b + 8), (34, 10 * b, 10 * b + 10), (35, b, b + 1), (36, b, b + 1), (0, 65, 66), (0, 56, 57), (27, 0, 7), (28, 0, 64)]
theorem MM_b : ((List.range 2).all fun b => tmb (MM b) && ((MM b).all (fun x => decide (x.1 < 19 → x.1 = 0) && decide (x.1 < 19 ∨ 25 ≤ x.1)) && (List.range 8).all (fun j => !smem (MM b) 0 (66 + j)))) = true := by decide
theorem MF.md {b : Nat} (hb : b < 2) {N : zN} {S : zS} {o : Nat → Int} {h h' : zH} (hC : MF N S o h) (hm : sMd (MM b) h h') : MF N S o h' := by
  have t := zall_r MM_b hb
  simp only [Bool.and_eq_true] at t
  obtain ⟨t1, t2, t3⟩ := t
  have k : ∀ j, j < 8 → pI h' 0 (66 + j) = pI h 0 (66 + j) := fun j hj => pI_md hm (by
    have := zall_r t3 hj
    cases hc : smem (MM b) 0 (66 + j) with
    | false => rfl
    | true =>
      rw [hc] at this
      cases this)
  have q : ∀ q j, 19 ≤ q → q < 25 → pI h' q j = pI h q j := fun q j h1 h2 => pI_md hm (by
    cases hc : smem (MM b) q j with
    | false => rfl
    | true =>
      obtain ⟨x, hx, h3⟩ := List.any_eq_true.mp hc
      have h4 := List.all_eq_true.mp t2 x hx
      simp only [Bool.and_eq_true, beq_iff_eq, decide_eq_true_eq] at h3 h4
      omega)
  obtain ⟨a0, a1, a2, a3, a4, a5, a6, a7⟩ := hC.2.2
  exact ⟨hC.1.md hm t1, hC.2.1.kept (fun q' j e => q q' j (by omega) (by omega)), (k 0 (by decide)).trans a0, (k 1 (by decide)).trans a1, (k 2 (by decide)).trans a2, (k 3 (by decide)).trans a3, (k 4 (by decide)).trans a4, (k 5 (by decide)).trans a5, (k 6 (by decide)).trans a6, (k 7 (by decide)).trans a7⟩
def DI (b : Nat) (N : zN) (S : zS) (o : Nat → Int) (s : zSt) (h0 h : zH) : Prop := sInv swM h ∧ sMd (MM b) h0 h ∧ MF N S o h ∧ MS S b s h
theorem DI.to {b : Nat} (hb : b < 2) {N : zN} {S : zS} {o : Nat → Int} {s s' : zSt} {h0 h h' : zH} (I : DI b N S o s h0 h) (i1 : sInv swM h') (m1 : sMd (MM b) h h') (c : MS S b s' h') : DI b N S o s' h0 h' :=
  ⟨i1, I.2.1.seq m1, I.2.2.1.md hb m1, c⟩
/-! kinds that stay -/
theorem MS.k0 {S : zS} {b : Nat} {s : zSt} {h h' : zH} {md : sM} (hC : MS S b s h) (hm : sMd md h h') (hb : ∀ j, smem md 29 j = false) : ∀ g, g < S 1 → pI h' 29 (8 * b + g) = s 0 g := fun g hg => (pI_md hm (hb _)).trans (hC.1 g hg).1
theorem MS.k1 {S : zS} {b : Nat} {s : zSt} {h h' : zH} {md : sM} (hC : MS S b s h) (hm : sMd md h h') (hb : ∀ j, smem md 30 j = false) : ∀ g, g < S 1 → pI h' 30 (8 * b + g) = s 1 g := fun g hg => (pI_md hm (hb _)).trans (hC.1 g hg).2.1
theorem MS.k2 {S : zS} {b : Nat} {s : zSt} {h h' : zH} {md : sM} (hC : MS S b s h) (hm : sMd md h h') (hb : ∀ j, smem md 31 j = false) : ∀ g, g < S 1 → pI h' 31 (8 * b + g) = s 2 g := fun g hg => (pI_md hm (hb _)).trans (hC.1 g hg).2.2.1
theorem MS.k3 {S : zS} {b : Nat} {s : zSt} {h h' : zH} {md : sM} (hC : MS S b s h) (hm : sMd md h h') (hb : ∀ j, smem md 32 j = false) : ∀ g, g < S 1 → pI h' 32 (8 * b + g) = s 3 g := fun g hg => (pI_md hm (hb _)).trans (hC.1 g hg).2.2.2.1
theorem MS.k4 {S : zS} {b : Nat} {s : zSt} {h h' : zH} {md : sM} (hC : MS S b s h) (hm : sMd md h h') (hb : ∀ j, smem md 33 j = false) : ∀ g, g < S 1 → pI h' 33 (8 * b + g) = s 4 g := fun g hg => (pI_md hm (hb _)).trans (hC.1 g hg).2.2.2.2
theorem MS.k5 {S : zS} {b : Nat} {s : zSt} {h h' : zH} {md : sM} (hC : MS S b s h) (hm : sMd md h h') (hb : ∀ j, smem md 34 j = false) : ∀ p, p < 10 → pI h' 34 (10 * b + p) = s 5 p := fun p hp => (pI_md hm (hb _)).trans (hC.2.1 p hp)
theorem MS.k6 {S : zS} {b : Nat} {s : zSt} {h h' : zH} {md : sM} (hC : MS S b s h) (hm : sMd md h h') (h1 : smem md 36 b = false) (h2 : smem md 35 b = false) (h3 : smem md 0 65 = false) : pI h' 36 b = s 6 0 ∧ pI h' 35 b = s 6 1 ∧ pL h' 0 65 = s 6 2 := ⟨(pI_md hm h1).trans hC.2.2.1, (pI_md hm h2).trans hC.2.2.2.1, (pL_md hm h3).trans hC.2.2.2.2⟩
theorem MS.mk {S : zS} {b : Nat} {s : zSt} {h : zH} (a0 : ∀ g, g < S 1 → pI h 29 (8 * b + g) = s 0 g) (a1 : ∀ g, g < S 1 → pI h 30 (8 * b + g) = s 1 g) (a2 : ∀ g, g < S 1 → pI h 31 (8 * b + g) = s 2 g) (a3 : ∀ g, g < S 1 → pI h 32 (8 * b + g) = s 3 g) (a4 : ∀ g, g < S 1 → pI h 33 (8 * b + g) = s 4 g) (a5 : ∀ p, p < 10 → pI h 34 (10 * b + p) = s 5 p) (a6 : pI h 36 b = s 6 0 ∧ pI h 35 b = s 6 1 ∧ pL h 0 65 = s 6 2) : MS S b s h := ⟨fun g hg => ⟨a0 g hg, a1 g hg, a2 g hg, a3 g hg, a4 g hg⟩, a5, a6⟩
theorem MS.md {S : zS} {b : Nat} {s : zSt} {h h' : zH} {md : sM} (hC : MS S b s h) (hm : sMd md h h') (hb : ∀ q, 29 ≤ q → q ≤ 36 → ∀ j, smem md q j = false) (h3 : smem md 0 65 = false) : MS S b s h' :=
  MS.mk (hC.k0 hm (hb _ (by decide) (by decide))) (hC.k1 hm (hb _ (by decide) (by decide))) (hC.k2 hm (hb _ (by decide) (by decide))) (hC.k3 hm (hb _ (by decide) (by decide))) (hC.k4 hm (hb _ (by decide) (by decide))) (hC.k5 hm (hb _ (by decide) (by decide))) (hC.k6 hm (hb _ (by decide) (by decide) _) (hb _ (by decide) (by decide) _) h3)
theorem DI.nil {b : Nat} (hb : b < 2) {N : zN} {S : zS} {o : Nat → Int} {s : zSt} {h0 h h' : zH} (I : DI b N S o s h0 h) (i1 : sInv swM h') (m1 : sMd [] h h') : DI b N S o s h0 h' :=
  I.to hb i1 (m1.sub rfl) (I.2.2.2.md m1 (fun _ _ _ _ => rfl) rfl)
theorem shM {h : zH} (hi : sInv swM h) : h.1[0]? = some (0, 12) := by
  rw [hi.1]
  rfl
/-! turns -/
theorem kmSw_s : ((List.range 2).all fun b => (List.range 8).all fun g => ssubB (kmSw_m (8 * b + g)) (MM b)) = true := by decide
theorem zSwM {l : Launch} {Γ : zG} {d b : Nat} (hb : b < 2) {N : zN} {S : zS} {o : Nat → Int} {s : zSt} {h0 h : zH} {n : Int} (hB : SB n s) (I : DI b N S o s h0 h) {g : Nat} (hg : g < 8) (hg1 : g < S 1) {x : Int32} (hx : x.toInt = ((8 * b + g : Nat) : Int)) : zSem l Γ false (d + 1) (zhd 248) [.ref 0, .int x] h (fun r h' => r = none ∧ DI b N S o (swS s g) h0 h') := by
  obtain ⟨b1, b2, -⟩ := I.2.2.2.1 g hg1
  obtain ⟨w0, w1, -⟩ := hB.1 g hg
  refine kmSw (Nat.zero_le _) (r := 8 * b + g) (by omega) I.1 w0 w1 hx b1 b2 (fun h' i1 m1 k1 k0 => ⟨rfl, I.to hb i1 (m1.sub (zall_r (zall_r kmSw_s hb) hg)) (MS.mk (fun j hj => ?_) (fun j hj => ?_) (I.2.2.2.k2 m1 (fun j => smemc (by omega) (smemc (by omega) smem0))) (I.2.2.2.k3 m1 (fun j => smemc (by omega) (smemc (by omega) smem0))) (I.2.2.2.k4 m1 (fun j => smemc (by omega) (smemc (by omega) smem0))) (I.2.2.2.k5 m1 (fun j => smemc (by omega) (smemc (by omega) smem0))) (I.2.2.2.k6 m1 (smemc (by omega) (smemc (by omega) smem0)) (smemc (by omega) (smemc (by omega) smem0)) (smemc (by omega) (smemc (by omega) smem0))))⟩)
  · obtain ⟨c1, c2, -⟩ := I.2.2.2.1 j hj
    unfold swS
    by_cases e : j = g
    · subst e
      rw [stS_n (by omega), stS_s]
      exact k0
    · rw [stS_n (by omega), stS_n (by omega)]
      exact (pI_md m1 (smemc (by omega) (smemc (by omega) smem0))).trans c1
  · obtain ⟨c1, c2, -⟩ := I.2.2.2.1 j hj
    unfold swS
    by_cases e : j = g
    · subst e
      rw [stS_s]
      exact k1
    · rw [stS_n (by omega), stS_n (by omega)]
      exact (pI_md m1 (smemc (by omega) (smemc (by omega) smem0))).trans c2
theorem zv_kmt : zcvB 253 44 12 1 248 = true := by decide +kernel
theorem zTrnM {l : Launch} {Γ : zG} {d b : Nat} (hb : b < 2) {Kp : Option Value → zH → Prop} {N : zN} {S : zS} {o : Nat → Int} {h0 : zH} (hT : TB N S) (ho : o 1 ≠ 4) {n : Int} : ∀ (m r : Nat) (lo : zL) (h : zH) (s : zSt), r + m = S 2 → SB n s → DI b N S o s h0 h → zget lo 0 = some (.ref 0) → zI lo 1 (b : Int) → zI lo 2 (r : Int) →
    (∀ lo' h', DI b N S o (itG (tnG N) m r s) h0 h' → zget lo' 0 = some (.ref 0) → zI lo' 1 (b : Int) → zI lo' 2 0 → zX l Γ false (d + 2) (zhd 253) (zMQ' Γ false (zhd 253) Kp) 0 0 55 lo' [] h') → zX l Γ false (d + 2) (zhd 253) (zMQ' Γ false (zhd 253) Kp) 0 0 2 lo [] h
  | 0, r, lo, h, s, hr, hB, I, l0, l1, l2, hE => by
    have b2 := hT.1.2.2.1
    exact kmT3 (d := d + 1) (by omega) hb (ri := (r : Int)) (n := (S 2 : Int)) I.1 ⟨by omega, by omega⟩ ⟨by omega, by omega⟩ l0 l1 l2 I.2.2.1.1.1.2.2.1 (by omega) (fun lo' h' i1 m1 g0 g1 g2 => hE lo' h' (I.nil hb i1 m1) g0 g1 g2)
  | m + 1, r, lo, h, s, hr, hB, I, l0, l1, l2, hE => by
    have b2 := hT.1.2.2.1
    obtain ⟨q0, q1⟩ := I.2.2.1.1.2.2.2.2.1 r (by omega)
    have q2 := hT.2.2.1 r (by omega)
    have b1 := hT.1.2.1
    have q3 := I.2.2.2.2.2.1
    have nt := I.2.2.1.2.2.2.2.2.2.1
    rw [if_neg ho] at nt
    refine kmT1 (d := d + 1) (by omega) hb (r := r) (by omega) (n := (S 2 : Int)) (nt := 0) (gl := N 7 r) (mn := N 8 r) (m := s 6 0) I.1 ⟨by omega, by omega⟩ (by decide) ⟨by omega, by omega⟩ (i32e q1) (i32e q3) l0 l1 l2 I.2.2.1.1.1.2.2.1 nt q0 q1 q3 (fun lo' h' y i1 m1 _ e g0 g1 g2 hy => ?_) (fun lo' h' i1 m1 _ e g0 g1 g2 => ?_) (fun lo' h' i1 m1 e => absurd rfl e)
    · have I1 := I.nil hb i1 m1
      refine zcallR (mi := 253) (as := [.int y]) (rest := []) (q0 := 0) zv_kmt rfl (by decide) (shM i1) ?_
      refine (zSwM hb hB I1 (g := (N 7 r).toNat) (by omega) (by omega) (by omega)).mono (fun v h2 hv => ?_)
      obtain ⟨rfl, I2⟩ := hv
      refine kmT2 (d := d + 1) (by omega) hb (ri := (r : Int)) I2.1 ⟨by omega, by omega⟩ g0 g1 g2 (fun lo3 h3 i3 m3 z0 z1 z2 => ?_)
      refine zTrnM hb hT ho m (r + 1) lo3 h3 (swS s (N 7 r).toNat) (by omega) (swS_b hB (by omega)) (I2.nil hb i3 m3) z0 z1 (by rw [Int.natCast_add]; exact z2) (fun lo4 h' I' => hE lo4 h' ?_)
      have e2 : tnG N s r = swS s (N 7 r).toNat := if_pos e
      show DI b N S o (itG (tnG N) m (r + 1) (tnG N s r)) h0 h'
      rw [e2]
      exact I'
    · refine zTrnM hb hT ho m (r + 1) lo' h' s (by omega) hB (I.nil hb i1 m1) g0 g1 (by rw [Int.natCast_add]; exact g2) (fun lo4 h' I' => hE lo4 h' ?_)
      have e2 : tnG N s r = s := if_neg e
      show DI b N S o (itG (tnG N) m (r + 1) (tnG N s r)) h0 h'
      rw [e2]
      exact I'
/-! the names are laid, a law's value, bounded -/
theorem sIvB {h : zH} (hi : sInv swM h) {j : Nat} (hj : j < 3) : 0 ≤ pI h 19 j ∧ pI h 19 j ≤ 1 := by
  rcases (by omega : j = 0 ∨ j = 1 ∨ j = 2) with rfl | rfl | rfl
  · exact hi.2.2.1 19 0
  · exact hi.2.2.1 19 1
  · exact hi.2.2.1 19 2
def bdE' (y : Int64) (er : Int) (o : Option Int) : Prop := (∃ v, o = some v ∧ y.toInt = v ∧ er = 0) ∨ (o = none ∧ er = 1)
theorem bdE'.c {y : Int64} {er : Int} {o : Option Int} (h : bdE' y er o) (w : Int) : (er = 1 → bdV o w = w) ∧ (er = 0 → (y.toInt < 0 → bdV o w = 0) ∧ (0 ≤ y.toInt → y.toInt ≤ 99 → bdV o w = y.toInt) ∧ (100 ≤ y.toInt → bdV o w = 99)) := by
  rcases h with ⟨v, rfl, e, er⟩ | ⟨rfl, er⟩
  · refine ⟨fun h => absurd h (by omega), fun h => ⟨fun h1 => ?_, fun h1 h2 => ?_, fun h1 => ?_⟩⟩
    · show (if v < 0 then 0 else if 99 < v then 99 else v) = 0
      rw [if_pos (by omega)]
    · show (if v < 0 then 0 else if 99 < v then 99 else v) = _
      rw [if_neg (by omega), if_neg (by omega), e]
    · show (if v < 0 then 0 else if 99 < v then 99 else v) = 99
      rw [if_neg (by omega), if_pos (by omega)]
  · exact ⟨fun _ => rfl, fun h => absurd h (by omega)⟩

theorem kmL_s : ((List.range 2).all fun b => (List.range 8).all fun g => ssubB (kmL_m b g) (MM b)) = true := by decide
theorem zLayM {l : Launch} {Γ : zG} {d b : Nat} (hb : b < 2) {N : zN} {S : zS} {o : Nat → Int} {s : zSt} {h0 h : zH} {n : Int} (hT : TB N S) (hO : OB o) (hB : SB n s) (I : DI b N S o s h0 h) {g : Nat} (hg : g < S 1) {x y : Int32} (hx : x.toInt = (b : Int)) (hy : y.toInt = (g : Int)) : zSem l Γ false (d + 2) (zhd 238) [.ref 0, .int x, .int y] h (fun r h' => r = none ∧ DI b N S o s h0 h' ∧ ∀ i, i < 7 → pL h' 27 i = nmS N o s g i) := by
  have b1 := hT.1.2.1
  have g8 : g < 8 := by omega
  obtain ⟨c0, c1, c2, -, c4⟩ := I.2.2.2.1 g hg
  obtain ⟨w0, w1, w2, -, w4⟩ := hB.1 g g8
  obtain ⟨-, -, -, -, q4, q5⟩ := I.2.2.1.1.2.2.2.1 g hg
  obtain ⟨-, -, -, -, -, -, o3, o4⟩ := I.2.2.1.2.2
  have m6 := I.2.2.2.2.2.1
  have ss := zall_r (zall_r kmL_s hb) g8
  have fin : ∀ (h' : zH) (v2 v4 : Int), sInv swM h' → sMd (kmL_m b g) h h' → pL h' 27 6 = s 6 0 → pL h' 27 5 = s 4 g → pL h' 27 4 = v4 → v4 = s 2 g → pL h' 27 3 = N 6 g → pL h' 27 2 = v2 → v2 = nkS N o g → pL h' 27 1 = s 1 g → pL h' 27 0 = s 0 g → (none : Option Value) = none ∧ DI b N S o s h0 h' ∧ ∀ i, i < 7 → pL h' 27 i = nmS N o s g i := fun h' v2 v4 i1 m1 k6 k5 k4 e4 k3 k2 e2 k1 k0 => ⟨rfl, I.to hb i1 (m1.sub ss) (I.2.2.2.md m1 (fun q h1 h2 j => smemc (by omega) smem0) (smemc (by omega) smem0)), fun i hi => by
    rcases (by omega : i = 0 ∨ i = 1 ∨ i = 2 ∨ i = 3 ∨ i = 4 ∨ i = 5 ∨ i = 6) with rfl | rfl | rfl | rfl | rfl | rfl | rfl
    · exact k0
    · exact k1
    · exact k2.trans e2
    · exact k3
    · exact k4.trans e4
    · exact k5
    · exact k6⟩
  have en1 : (g : Int) = o 3 → o 4 = nkS N o g := fun e => (if_pos e).symm
  have en0 : (g : Int) ≠ o 3 → N 5 g = nkS N o g := fun e => (if_neg e).symm
  refine kmL (d := d + 1) (by omega) hb g8 (a := s 0 g) (bw := s 1 g) (pd := s 4 g) (w := s 2 g) (m := s 6 0) (og := o 3) (on := o 4) (nk := N 5 g) (co := N 6 g) I.1 ⟨by omega, by omega⟩ ⟨by omega, by omega⟩ (i32e c4) ⟨by omega, by omega⟩ (i32e m6) (i32e o3) hO.2.2.2 (i32e q4) (i32e q5) hx hy c0 c1 c4 c2 m6 o3 o4 q4 q5 (fun h' u0 u1 u2 u3 u4 u5 u6 i1 m1 k6 f6 k5 f5 k4 f4 k3 f3 k2 f2 k1 f1 k0 f0 e ew => ?_) (fun h' u0 u1 u2 u3 u4 u5 u6 i1 m1 k6 f6 k5 f5 k4 f4 k3 f3 k2 f2 k1 f1 k0 f0 e ew => ?_) (fun h' u0 u1 u2 u3 u4 u5 u6 i1 m1 k6 f6 k5 f5 k4 f4 k3 f3 k2 f2 k1 f1 k0 f0 ew e => ?_) (fun h' u0 u1 u2 u3 u4 u5 u6 i1 m1 k6 f6 k5 f5 k4 f4 k3 f3 k2 f2 k1 f1 k0 f0 e ew => ?_)
  · exact fin h' _ _ i1 m1 (k6.trans f6) (k5.trans f5) k4 (f4.trans ew.symm) (k3.trans f3) k2 (f2.trans (en1 e)) (k1.trans f1) (k0.trans f0)
  · exact fin h' _ _ i1 m1 (k6.trans f6) (k5.trans f5) k4 (by omega) (k3.trans f3) k2 (f2.trans (en1 e)) (k1.trans f1) (k0.trans f0)
  · exact fin h' _ _ i1 m1 (k6.trans f6) (k5.trans f5) k4 (f4.trans ew.symm) (k3.trans f3) k2 (f2.trans (en0 e)) (k1.trans f1) (k0.trans f0)
  · exact fin h' _ _ i1 m1 (k6.trans f6) (k5.trans f5) k4 (by omega) (k3.trans f3) k2 (f2.trans (en0 e)) (k1.trans f1) (k0.trans f0)
theorem kmB_s : ((List.range 2).all fun b => ssubB [(0, 56, 57), (28, 0, 64)] (MM b)) = true := by decide
theorem zv_kmb : zcvB 256 13 12 1 240 = true := by decide +kernel
theorem zBndM {l : Launch} {Γ : zG} {d b : Nat} (hb : b < 2) {N : zN} {S : zS} {o : Nat → Int} {s : zSt} {h0 h : zH} {n : Int} (hT : TB N S) (hB : SB n s) (hn : n ≤ 2000000000) (hO : OB o) (I : DI b N S o s h0 h) {g : Nat} (hg : g < S 1) (hnm : ∀ i, i < 7 → pL h 27 i = nmS N o s g i) {j : Nat} (hj : j < 3) {w : Int} (hw : 0 ≤ w ∧ w ≤ 9) {x y : Int32} (hx : x.toInt = (j : Int)) (hy : y.toInt = w) : zSem l Γ false (d + 5) (zhd 256) [.ref 0, .int x, .int y] h (fun r h' => ∃ z : Int32, r = some (.int z) ∧ z.toInt = bdV (lwV N S j (nmS N o s g)) w ∧ DI b N S o s h0 h') := by
  have b1 := hT.1.2.1
  have g8 : g < 8 := by omega
  have lt := I.2.2.1.2.1.2 j hj
  have lb : (S (7 + j) : Int) ≤ 1 := by
    rw [← lt.1]
    exact (sIvB I.1 hj).2
  have nmb : ∀ i, i < 7 → inW (nmS N o s g i) := fun i hi => by
    obtain ⟨w0, w1, w2, w3, w4⟩ := hB.1 g g8
    have nb := nkS_b hT hO hg
    have cb := (hT.2.1 g hg).2.2.2.2
    have mb := hB.2.2.1
    rcases (by omega : i = 0 ∨ i = 1 ∨ i = 2 ∨ i = 3 ∨ i = 4 ∨ i = 5 ∨ i = 6) with rfl | rfl | rfl | rfl | rfl | rfl | rfl
    · show -1000000000000 ≤ s 0 g ∧ s 0 g ≤ 1000000000000
      omega
    · show -1000000000000 ≤ s 1 g ∧ s 1 g ≤ 1000000000000
      omega
    · show -1000000000000 ≤ nkS N o g ∧ nkS N o g ≤ 1000000000000
      omega
    · show -1000000000000 ≤ N 6 g ∧ N 6 g ≤ 1000000000000
      omega
    · show -1000000000000 ≤ s 2 g ∧ s 2 g ≤ 1000000000000
      omega
    · show -1000000000000 ≤ s 4 g ∧ s 4 g ≤ 1000000000000
      omega
    · show -1000000000000 ≤ s 6 0 ∧ s 6 0 ≤ 1000000000000
      omega
  refine kmB0 (d := d + 4) (by omega) hj (wo := w) (lt := (S (7 + j) : Int)) I.1 hw ⟨by omega, by omega⟩ hx hy lt.1 (fun lo' h' y0 i1 m1 e g0 g1 g2 hy0 => ?_) (fun h' r i1 m1 e hr => ⟨r, rfl, ?_, I.nil hb i1 m1⟩)
  · have h7 : S (7 + j) ≠ 0 := by omega
    have I1 := I.nil hb i1 m1
    obtain ⟨c1, -, c3, c4⟩ := hT.2.2.2.2.2 j hj h7
    obtain ⟨e1, e2, -, e4, -⟩ := (I1.2.2.1.2.1.2 j hj).2 h7
    have ln := lsF_len (S (11 + j)) (N (20 + j))
    refine zcallR (mi := 256) (as := [.int y0]) (rest := []) (q0 := 0) zv_kmb rfl (by decide) (shM i1) ?_
    refine (zLawOfM (l := l) (Γ := Γ) (d := d + 2) (by omega) I1.1 hj (b := S (14 + j)) (e := lsF (N (20 + j)) (S (11 + j))) (nm := nmS N o s g) (by rw [ln]; exact c1) c4 e4 c3 e1 (by rw [ln]; exact e2) (fun i hi => ⟨(pL_md m1 rfl).trans (hnm i hi), nmb i hi⟩) hy0).mono (fun v h2 hv => ?_)
    obtain ⟨z, rfl, i2, m2, hz⟩ := hv
    have I2 : DI b N S o s h0 h2 := I1.to hb i2 (m2.sub (zall_r kmB_s hb)) (I1.2.2.2.md m2 (fun q h1 h2 j => smemc (by omega) (smemc (by omega) smem0)) rfl)
    have lv : bdE' z (pI h2 0 56) (lwV N S j (nmS N o s g)) := by
      unfold lwV
      rw [if_neg h7]
      rcases hz with ⟨v, a1, a2, a3, a4⟩ | ⟨a1, a2⟩
      · rw [a1]
        exact Or.inl ⟨v, rfl, a3, a4⟩
      · rw [a1]
        exact Or.inr ⟨rfl, a2⟩
    have er : pI h2 0 56 = 0 ∨ pI h2 0 56 = 1 := by
      rcases lv with ⟨v, -, -, a⟩ | ⟨-, a⟩
      · exact Or.inl a
      · exact Or.inr a
    have c := lv.c w
    refine kmB1 (d := d + 4) (by omega) (wo := w) (y := z.toInt) (er := pI h2 0 56) I2.1 hw (i64bd _) ⟨by omega, by omega⟩ g0 g2 rfl rfl (fun h3 r3 i3 m3 a1 a2 a3 a4 => ?_) (fun h3 r3 i3 m3 a1 a2 a3 a4 => ?_) (fun h3 r3 i3 m3 a1 a2 a3 => ?_) (fun h3 r3 i3 m3 a1 a2 => ?_)
    · exact ⟨r3, rfl, by rw [a4]; exact ((c.2 a3).2.1 (by omega) (by omega)).symm, I2.nil hb i3 m3⟩
    · exact ⟨r3, rfl, by rw [a4]; exact ((c.2 a3).2.2 (by omega)).symm, I2.nil hb i3 m3⟩
    · exact ⟨r3, rfl, by rw [a3]; exact ((c.2 a2).1 (by omega)).symm, I2.nil hb i3 m3⟩
    · exact ⟨r3, rfl, by rw [a2]; exact (c.1 (by omega)).symm, I2.nil hb i3 m3⟩
  · rw [hr, lwV_n (by omega)]
    rfl
/-! how much flows; sand -/
theorem zv_kmf : zcvB 260 31 12 2 256 = true := by decide +kernel
theorem zFlwM {l : Launch} {Γ : zG} {d b : Nat} (hb : b < 2) {N : zN} {S : zS} {o : Nat → Int} {s : zSt} {h0 h : zH} {n : Int} (hT : TB N S) (hB : SB n s) (hn : n ≤ 2000000000) (hO : OB o) (I : DI b N S o s h0 h) {g : Nat} (hg : g < S 1) (hnm : ∀ i, i < 7 → pL h 27 i = nmS N o s g i) {x y : Int32} (hx : x.toInt = (b : Int)) (hy : y.toInt = (g : Int)) : zSem l Γ false (d + 6) (zhd 260) [.ref 0, .int x, .int y] h (fun r h' => ∃ z : Int32, r = some (.int z) ∧ z.toInt = flG N S o s g ∧ DI b N S o s h0 h') := by
  have b1 := hT.1.2.1
  have g8 : g < 8 := by omega
  have c2 := (I.2.2.2.1 g hg).2.2.1
  have w2 := (hB.1 g g8).2.2.1
  have q4 := (I.2.2.1.1.2.2.2.1 g hg).2.2.2.2.1
  obtain ⟨-, -, -, -, -, -, o3, o4⟩ := I.2.2.1.2.2
  have pb := plS_b (s := s) hT hO hg
  have kb := nkS_b (N := N) (S := S) hT hO hg
  have fb := flG_b (s := s) hT hO hg
  have en1 : (g : Int) = o 3 → o 4 = nkS N o g := fun e => (if_pos e).symm
  have en0 : (g : Int) ≠ o 3 → N 5 g = nkS N o g := fun e => (if_neg e).symm
  have pl1 : s 2 g ≠ 0 → plS N o s g = nkS N o g / 2 := fun e => if_pos (by omega)
  have pl0 : s 2 g = 0 → plS N o s g = nkS N o g := fun e => if_neg (by omega)
  have fin : ∀ (lo' : zL) (h' : zH) (y0 y1 : Int32), sInv swM h' → sMd [] h h' → zget lo' 0 = some (.ref 0) → y0.toInt = plS N o s g → y1.toInt = 0 → zX l Γ false (d + 6) (zhd 260) (zMQ' Γ false (zhd 260) (fun r h' => ∃ z : Int32, r = some (.int z) ∧ z.toInt = flG N S o s g ∧ DI b N S o s h0 h')) 0 0 31 lo' [.int y0, .int y1, .ref 0] h' := fun lo' h' y0 y1 i1 m1 g0 e0 e1 => by
    have I1 := I.nil hb i1 m1
    refine zcallR (mi := 260) (as := [.int y0, .int y1]) (rest := []) (q0 := 0) zv_kmf rfl (by decide) (shM i1) ?_
    refine (zBndM hb hT hB hn hO I1 hg (fun i hi => (pL_md m1 rfl).trans (hnm i hi)) (j := 0) (by decide) (w := plS N o s g) pb e1 e0).mono (fun v h2 hv => ?_)
    obtain ⟨z, rfl, hz, I2⟩ := hv
    exact kmF1 (d := d + 5) (by omega) (x := flG N S o s g) I2.1 fb g0 hz (fun h3 r3 i3 m3 e => ⟨r3, rfl, e, I2.nil hb i3 m3⟩)
  refine kmF0 (d := d + 5) (by omega) hb g8 (w := s 2 g) (og := o 3) (on := o 4) (nk := N 5 g) I.1 ⟨by omega, by omega⟩ (i32e o3) hO.2.2.2 (hT.2.1 g hg).2.2.2.1 hx hy c2 o3 o4 q4 (fun lo' h' y0 y1 i1 m1 e1 e2 g0 e3 e4 => ?_) (fun lo' h' y0 y1 i1 m1 e1 e2 g0 e3 e4 => ?_) (fun lo' h' w0 y0 y1 i1 m1 e0 e1 e2 g0 e3 e4 => ?_) (fun lo' h' w0 y0 y1 i1 m1 e0 e1 e2 g0 e3 e4 => ?_)
  · exact fin lo' h' y0 y1 i1 m1 g0 (by rw [pl0 e1, ← en1 e2]; exact e3) e4
  · exact fin lo' h' y0 y1 i1 m1 g0 (by rw [pl0 e1, ← en0 e2]; exact e3) e4
  · exact fin lo' h' y0 y1 i1 m1 g0 (by rw [pl1 e2, ← en1 e1, ← sgd7 (by rw [en1 e1]; exact kb), ← e0]; exact e3) e4
  · exact fin lo' h' y0 y1 i1 m1 g0 (by rw [pl1 e1, ← en0 e2, ← sgd7 (by rw [en0 e2]; exact kb), ← e0]; exact e3) e4
