/-! damp -/
theorem sgd8 {a b : Int} (ha : 0 ≤ a ∧ a ≤ 2147483647) (hb : 0 < b ∧ b ≤ 2147483647) : sgfn 8 a b = a % b := by
  show (Int32.ofInt a - Int32.ofInt a / Int32.ofInt b * Int32.ofInt b).toInt = _
  have ea : (Int32.ofInt a).toInt = a := Int32.toInt_ofInt_of_le (by omega) (by omega)
  have eb : (Int32.ofInt b).toInt = b := Int32.toInt_ofInt_of_le (by omega) (by omega)
  have q1 : 0 ≤ a / b := Int.ediv_nonneg ha.1 (by omega)
  have q2 : a / b ≤ a := Int.ediv_le_self _ ha.1
  have m1 : a / b * b ≤ a := Int.ediv_mul_le a (by omega)
  have m0 : 0 ≤ a / b * b := Int.mul_nonneg q1 (by omega)
  have ed : (Int32.ofInt a / Int32.ofInt b).toInt = a / b := by
    rw [Int32.toInt_div, ea, eb, Int.tdiv_eq_ediv_of_nonneg ha.1]
    exact Int.bmod_eq_of_le (by omega) (by omega)
  have em : (Int32.ofInt a / Int32.ofInt b * Int32.ofInt b).toInt = a / b * b := by
    rw [Int32.toInt_mul, ed, eb]
    exact Int.bmod_eq_of_le (by omega) (by omega)
  rw [Int32.toInt_sub, ea, em, Int.bmod_eq_of_le (by omega) (by omega), Int.emod_def, Int.mul_comm b]
theorem sgd18 {a b : Int} (ha : 0 ≤ a ∧ a ≤ 2147483647) (hb : 0 < b ∧ b ≤ 2147483647) : sgfn 18 a b = a % b := by
  show (Int64.ofInt a - Int64.ofInt a / Int64.ofInt b * Int64.ofInt b).toInt = _
  have ea : (Int64.ofInt a).toInt = a := Int64.toInt_ofInt_of_le (by omega) (by omega)
  have eb : (Int64.ofInt b).toInt = b := Int64.toInt_ofInt_of_le (by omega) (by omega)
  have q1 : 0 ≤ a / b := Int.ediv_nonneg ha.1 (by omega)
  have q2 : a / b ≤ a := Int.ediv_le_self _ ha.1
  have m1 : a / b * b ≤ a := Int.ediv_mul_le a (by omega)
  have m0 : 0 ≤ a / b * b := Int.mul_nonneg q1 (by omega)
  have ed : (Int64.ofInt a / Int64.ofInt b).toInt = a / b := by
    rw [Int64.toInt_div, ea, eb, Int.tdiv_eq_ediv_of_nonneg ha.1]
    exact Int.bmod_eq_of_le (by omega) (by omega)
  have em : (Int64.ofInt a / Int64.ofInt b * Int64.ofInt b).toInt = a / b * b := by
    rw [Int64.toInt_mul, ed, eb]
    exact Int.bmod_eq_of_le (by omega) (by omega)
  rw [Int64.toInt_sub, ea, em, Int.bmod_eq_of_le (by omega) (by omega), Int.emod_def, Int.mul_comm b]
theorem sgd17 {a b : Int} (ha : 0 ≤ a ∧ a ≤ 2147483647) (hb : 0 < b ∧ b ≤ 2147483647) : sgfn 17 a b = a / b := by
  show (Int64.ofInt a / Int64.ofInt b).toInt = _
  have ea : (Int64.ofInt a).toInt = a := Int64.toInt_ofInt_of_le (by omega) (by omega)
  have eb : (Int64.ofInt b).toInt = b := Int64.toInt_ofInt_of_le (by omega) (by omega)
  have q1 : 0 ≤ a / b := Int.ediv_nonneg ha.1 (by omega)
  have q2 : a / b ≤ a := Int.ediv_le_self _ ha.1
  rw [Int64.toInt_div, ea, eb, Int.tdiv_eq_ediv_of_nonneg ha.1]
  exact Int.bmod_eq_of_le (by omega) (by omega)
theorem sgd11 {a : Int} (ha : 0 ≤ a ∧ a ≤ 2147483647) : sgfn 11 a 0 = a := by
  show (Int64.ofInt a).toInt32.toInt = a
  rw [Int64.toInt_toInt32, Int64.toInt_ofInt_of_le (by omega) (by omega)]
  exact Int.bmod_eq_of_le (by omega) (by omega)
theorem dwG_m : (Int64.ofInt 2147483647).toBitVec.toNat = 2147483647 := by decide +kernel
theorem dwG_k (x : Int64) : 0 ≤ (x &&& Int64.ofInt 2147483647).toInt ∧ (x &&& Int64.ofInt 2147483647).toInt ≤ 2147483647 := by
  have e : (x &&& Int64.ofInt 2147483647).toBitVec = x.toBitVec &&& (Int64.ofInt 2147483647).toBitVec := Int64.toBitVec_and _ _
  have n1 : (x.toBitVec &&& (Int64.ofInt 2147483647).toBitVec).toNat ≤ 2147483647 := by
    rw [BitVec.toNat_and, dwG_m]
    exact Nat.and_le_right
  rw [← Int64.toInt_toBitVec, e, BitVec.toInt_eq_toNat_of_lt (by omega)]
  omega
theorem sgd12 (a b : Int) : sgfn 12 a b = (Int64.ofInt a &&& Int64.ofInt b).toInt := rfl
theorem dwG_b (n : Int) : 0 ≤ dwG n ∧ dwG n ≤ 2147483647 := by
  unfold dwG
  generalize sgfn 19 (sgfn 16 n 1103515245) 12345 = a
  rw [sgd12]
  exact dwG_k _
theorem dwG_q {a : Int} (b : 0 ≤ a ∧ a ≤ 2147483647) : 0 ≤ a / 65536 ∧ a / 65536 ≤ 2147483647 := by omega
theorem dwG_e {n w0 w1 w2 : Int} (e0 : w0 = sgfn 16 n 1103515245) (e1 : w1 = sgfn 19 w0 12345) (e2 : w2 = sgfn 12 w1 2147483647) : w2 = dwG n := by
  unfold dwG
  rw [e2, e1, e0]
theorem dwG_c {n w5 w6 w7 : Int} (e5 : w5 = sgfn 17 (dwG n) 65536) (e6 : w6 = sgfn 11 w5 0) (e7 : w7 = sgfn 8 w6 100) : w7 = dwG n / 65536 % 100 := by
  have b := dwG_b n
  have q := dwG_q b
  rw [sgd17 b (by decide)] at e5
  rw [e5, sgd11 q] at e6
  rw [e6, sgd8 q (by decide)] at e7
  exact e7
theorem dwG_r {n w5 w6 : Int} (e5 : w5 = sgfn 17 (dwG n) 65536) (e6 : w6 = sgfn 18 w5 100) : w6 = dwG n / 65536 % 100 := by
  have b := dwG_b n
  have q := dwG_q b
  rw [sgd17 b (by decide)] at e5
  rw [e5, sgd18 q (by decide)] at e6
  exact e6
theorem kcD1_s : ((List.range 8).all fun g => (List.range 2).all fun t => (List.range 2).all fun u => ssubB (kcD1_m g t u) (MC t u)) = true := by decide
theorem zDmpL {l : Launch} {Γ : zG} {d t u : Nat} (ht : t < 2) (hu : u < 2) {Kp : Option Value → zH → Prop} {N : zN} {S : zS} {o : Nat → Int} {h0 : zH} (hT : TB N S) {bd al : Int} (hbd : bd = 0 ∨ bd = 1) (hal : al = 0 ∨ al = 1) (cb : bd = 1 ↔ o 0 = 1 ∧ 0 < N 14 0 ∧ N 14 0 < 100) (ca : al = 1 ↔ (o 0 = 1 ∧ 100 ≤ N 14 0) ∨ (o 0 ≠ 1 ∧ 50 ≤ N 14 0)) : ∀ (m g : Nat) (lo : zL) (h : zH) (s : zSt), g + m = S 1 → CI t u N S o s h0 h → zget lo 0 = some (.ref 61) → zget lo 1 = some (.ref (12 * u + 43)) → zI lo 2 (N 14 0) → zI lo 3 bd → zI lo 4 al → zI lo 5 (g : Int) →
    (∀ h', CI t u N S o (itG (dpG N o) m g s) h0 h' → Kp none h') → zX l Γ false (d + 2) (zhd 105) (zMQ' Γ false (zhd 105) Kp) 0 0 68 lo [] h
  | 0, g, lo, h, s, hr, I, l0, l1, l2, l3, l4, l5, hE => by
    have b := hT.1.2.1
    exact kcD2 (d := d + 1) (by omega) ht hu (ri := (g : Int)) (n := (S 1 : Int)) I.1 ⟨by omega, by omega⟩ ⟨by omega, by omega⟩ l0 l1 l5 I.2.2.1.1.1.2.1.2.1 I.2.2.1.2.1 (by omega) (fun h' i1 m1 => hE h' (I.nil ht hu i1 m1))
  | m + 1, g, lo, h, s, hr, I, l0, l1, l2, l3, l4, l5, hE => by
    have b := hT.1.2.1
    have g8 : g < 8 := by omega
    have cw := I.2.2.2.2.2.2
    have c62 := I.2.2.2.2.2.1.2.2
    have wo := wbT_or cw.1 cw.2.1 g8
    have db := hT.2.2.2.2.1
    have wt : ∀ w0 w1, w0 = sgfn 4 (pI h (12 * u + 43) 3) (g : Int) → w1 = sgfn 2 w0 1 → w1 = s 2 g := fun w0 w1 e0 e1 => by
      rw [← cw.2.2 g g8]
      unfold wbT
      rw [← e0, ← e1]
    have nx : ∀ (lo' : zL) (h' : zH) (s' : zSt), CI t u N S o s' h0 h' → s' = dpG N o s g → zget lo' 0 = some (.ref 61) → zget lo' 1 = some (.ref (12 * u + 43)) → zI lo' 2 (N 14 0) → zI lo' 3 bd → zI lo' 4 al → zI lo' 5 ((g : Int) + 1) → zX l Γ false (d + 2) (zhd 105) (zMQ' Γ false (zhd 105) Kp) 0 0 68 lo' [] h' := fun lo' h' s' I1 es g0 g1 g2 g3 g4 g5 =>
      zDmpL ht hu hT hbd hal cb ca m (g + 1) lo' h' s' (by omega) I1 g0 g1 g2 g3 g4 (by rw [Int.natCast_add]; exact g5) (fun h' I' => hE h' (by
        show CI t u N S o (itG (dpG N o) m (g + 1) (dpG N o s g)) h0 h'
        rw [← es]
        exact I'))
    -- what is written
    have wr : ∀ (h' : zH) (s' : zSt), sInv swC h' → sMd (kcD1_m g t u) h h' → (∀ k j, k ≠ 2 → ¬ (k = 6 ∧ j = 2) → s' k j = s k j) → pL h' (12 * u + 43) 1 = s' 6 2 → (0 ≤ pI h' (12 * u + 43) 3 ∧ pI h' (12 * u + 43) 3 < 256 ∧ ∀ j, j < 8 → wbT (pI h' (12 * u + 43) 3) j = s' 2 j) → CI t u N S o s' h0 h' := fun h' s' i1 m1 hs e1 e2 =>
      I.to ht hu i1 (m1.sub (zall_r (zall_r (zall_r kcD1_s g8) ht) hu)) (CS.mk (fun j hj => (I.2.2.2.k0 m1 (fun j => smemc (by omega) (smemc (by omega) smem0)) j hj).trans (hs 0 j (by decide) (by omega)).symm) (fun j hj => (I.2.2.2.k1 m1 (fun j => smemc (by omega) (smemc (by omega) smem0)) j hj).trans (hs 1 j (by decide) (by omega)).symm) (fun j hj => (I.2.2.2.k3 m1 (fun j => smemc (by omega) (smemc (by omega) smem0)) j hj).trans (hs 3 j (by decide) (by omega)).symm) (fun j hj => (I.2.2.2.k4 m1 (fun j => smemc (by omega) (smemc (by omega) smem0)) j hj).trans (hs 4 j (by decide) (by omega)).symm) (fun j hj => (I.2.2.2.k5 m1 (fun j => smemc (by omega) (smemc (by omega) smem0)) j hj).trans (hs 5 j (by decide) (by omega)).symm) ⟨((pI_md m1 (smemc (by omega) (smemc (by omega) smem0))).trans I.2.2.2.2.2.1.1).trans (hs 6 0 (by decide) (by omega)).symm, ((pI_md m1 (smemc (by omega) (smemc (by omega) smem0))).trans I.2.2.2.2.2.1.2.1).trans (hs 6 1 (by decide) (by omega)).symm, e1⟩ e2)
    refine kcD1 (d := d + 1) (by omega) g8 ht hu (dm := N 14 0) (bd := bd) (al := al) (n := (S 1 : Int)) (w := pI h (12 * u + 43) 3) (nu := s 6 2) I.1 db ⟨by omega, by omega⟩ ⟨by omega, by omega⟩ ⟨by omega, by omega⟩ (i32e rfl) (i64e c62) l0 l1 l2 l3 l4 l5 I.2.2.1.1.1.2.1.2.1 rfl c62 I.2.2.1.2.1 (fun lo' h' w0 w1 u0 i1 m1 e0 e1 v0 v1 e2 k3 g0 g1 g2 g3 g4 g5 => ?_) (fun lo' h' w0 w1 u0 i1 m1 e0 e1 v0 v1 c1 c2 c3 k3 g0 g1 g2 g3 g4 g5 => ?_) (fun lo' h' w0 w1 w2 w3 u0 i1 m1 e0 e1 e2 e3 v0 v1 c1 c2 c3 k3 g0 g1 g2 g3 g4 g5 => ?_) (fun lo' h' w0 w1 w2 w3 w4 w5 w6 w7 u0 i1 m1 e0 e1 e2 e3 e4 e5 e6 e7 v0 v1 c1 c2 c3 k3 g0 g1 g2 g3 g4 g5 => ?_) (fun lo' h' w0 w1 w2 w3 w4 w5 w6 w7 w8 w9 u0 i1 m1 e0 e1 e2 e3 e4 e5 e6 e7 e8 e9 v0 v1 c1 c2 c3 k3 g0 g1 g2 g3 g4 g5 => ?_)
    · have et := wt _ _ e0 e1
      rw [e2] at et
      exact nx lo' h' s (wr h' s i1 m1 (fun _ _ _ _ => rfl) (v0.trans v1) (by rw [k3]; exact cw)) (if_pos et.symm).symm g0 g1 g2 g3 g4 g5
    · have et := wt _ _ e0 e1
      rw [et] at c3
      refine nx lo' h' s (wr h' s i1 m1 (fun _ _ _ _ => rfl) (v0.trans v1) (by rw [k3]; exact cw)) ?_ g0 g1 g2 g3 g4 g5
      unfold dpG
      rw [if_neg c3, if_neg (fun c => by have := cb.mpr c; omega), if_neg (fun c => by have := ca.mpr c; omega)]
    · have et := wt _ _ e2 e3
      rw [et] at c2
      rw [e1, e0] at k3
      clear e0 e1 e2 e3
      refine nx lo' h' (stS s 2 g 1) (wr h' _ i1 m1 (fun k j h1 h2 => stS_n (by omega)) (v0.trans v1) ?_) ?_ g0 g1 g2 g3 g4 g5
      · rw [k3]
        exact ⟨wo.2.1.1, wo.2.1.2, upS (f := wbT (sgfn 0 (pI h (12 * u + 43) 3) (sgfn 3 1 (g : Int)))) (fun j hj hn => by rw [wo.2.2 j hj, if_neg hn]; exact cw.2.2 j hj) (by rw [wo.2.2 g g8, if_pos rfl])⟩
      · have al1 : al = 1 := by
          clear k3
          omega
        have bd1 : bd ≠ 1 := by
          clear k3
          omega
        unfold dpG
        rw [if_neg c2, if_neg (fun c => bd1 (cb.mpr c)), if_pos (ca.mp al1)]
    · have et := wt _ _ e3 e4
      rw [et] at c2
      have ed := dwG_e e0 e1 e2
      rw [ed] at e5 v1
      have ec := dwG_c e5 e6 e7
      rw [ec] at c1
      clear e0 e1 e2 e3 e4 e5 e6 e7 ed ec
      have bd1 : bd = 1 := by
        clear c1 v1
        omega
      generalize hd : dwG (s 6 2) = D at c1 v1
      have c1' : ¬ D / 65536 % 100 < N 14 0 := by omega
      refine nx lo' h' (stS s 6 2 D) (wr h' _ i1 m1 (fun k j h1 h2 => stS_n h2) ?_ ?_) ?_ g0 g1 g2 g3 g4 g5
      · rw [v0, v1, stS_s]
      · rw [k3]
        exact cw
      · unfold dpG
        rw [hd, if_neg c2, if_pos (cb.mp bd1), if_neg c1']
    · have et := wt _ _ e5 e6
      rw [et] at c2
      have ed := dwG_e e2 e3 e4
      rw [ed] at e7 v1
      have ec := dwG_c e7 e8 e9
      rw [ec] at c1
      rw [e1, e0] at k3
      clear e0 e1 e2 e3 e4 e5 e6 e7 e8 e9 ed ec
      have bd1 : bd = 1 := by
        clear c1 v1 k3
        omega
      generalize hd : dwG (s 6 2) = D at c1 v1
      have c1' : D / 65536 % 100 < N 14 0 := by
        clear k3
        omega
      refine nx lo' h' (stS (stS s 6 2 D) 2 g 1) (wr h' _ i1 m1 (fun k j h1 h2 => by rw [stS_n (fun c => h1 c.1), stS_n h2]) ?_ ?_) ?_ g0 g1 g2 g3 g4 g5
      · rw [v0, v1, stS_n (fun c => absurd c.1 (by decide)), stS_s]
      · rw [k3]
        exact ⟨wo.2.1.1, wo.2.1.2, upS (s := stS s 6 2 D) (f := wbT (sgfn 0 (pI h (12 * u + 43) 3) (sgfn 3 1 (g : Int)))) (fun j hj hn => by rw [wo.2.2 j hj, if_neg hn]; exact cw.2.2 j hj) (by rw [wo.2.2 g g8, if_pos rfl])⟩
      · unfold dpG
        rw [hd, if_neg c2, if_pos (cb.mp bd1), if_pos c1']
theorem zDmpC {l : Launch} {Γ : zG} {d t u : Nat} (ht : t < 2) (hu : u < 2) {N : zN} {S : zS} {o : Nat → Int} {s : zSt} {h0 h : zH} (hT : TB N S) (hO : OB o) (I : CI t u N S o s h0 h) : zSem l Γ false (d + 2) (zhd 105) [.ref 61, .ref (12 * u + 43)] h (fun r h' => r = none ∧ CI t u N S o (itG (dpG N o) (S 1) 0 s) h0 h') := by
  have db := hT.2.2.2.2.1
  obtain ⟨o0, o1, -, -, -, -⟩ := I.2.2.1.2
  have go : ∀ (bd al : Int) (lo' : zL) (h' : zH), (bd = 0 ∨ bd = 1) → (al = 0 ∨ al = 1) → (bd = 1 ↔ o 0 = 1 ∧ 0 < N 14 0 ∧ N 14 0 < 100) → (al = 1 ↔ (o 0 = 1 ∧ 100 ≤ N 14 0) ∨ (o 0 ≠ 1 ∧ 50 ≤ N 14 0)) → sInv swC h' → sMd [] h h' → zget lo' 0 = some (.ref 61) → zget lo' 1 = some (.ref (12 * u + 43)) → zI lo' 2 (N 14 0) → zI lo' 3 bd → zI lo' 4 al → zI lo' 5 0 → zX l Γ false (d + 2) (zhd 105) (zMQ' Γ false (zhd 105) (fun r h' => r = none ∧ CI t u N S o (itG (dpG N o) (S 1) 0 s) h0 h')) 0 0 68 lo' [] h' := fun bd al lo' h' a1 a2 a3 a4 i1 m1 g0 g1 g2 g3 g4 g5 =>
    zDmpL ht hu hT a1 a2 a3 a4 (S 1) 0 lo' h' s (by omega) (I.nil ht hu i1 m1) g0 g1 g2 g3 g4 g5 (fun h' I' => ⟨rfl, I'⟩)
  have ob := hO.1
  refine kcD0 (d := d + 1) (by omega) ht hu (dm := N 14 0) (dr := o 0) I.1 db ⟨by omega, by omega⟩ I.2.2.1.1.1.2.2.2.2.2.2.1 o1 o0 (fun lo' h' i1 m1 e1 e2 g0 g1 g2 g3 g4 g5 => ?_) (fun lo' h' i1 m1 e1 e2 g0 g1 g2 g3 g4 g5 => ?_) (fun lo' h' i1 m1 e1 e2 g0 g1 g2 g3 g4 g5 => ?_) (fun lo' h' i1 m1 e1 e2 e3 g0 g1 g2 g3 g4 g5 => ?_) (fun lo' h' i1 m1 e1 e2 e3 g0 g1 g2 g3 g4 g5 => ?_)
  · exact go 0 0 lo' h' (by omega) (by omega) (by omega) (by omega) i1 m1 g0 g1 g2 g3 g4 g5
  · exact go 0 1 lo' h' (by omega) (by omega) (by omega) (by omega) i1 m1 g0 g1 g2 g3 g4 g5
  · exact go 0 0 lo' h' (by omega) (by omega) (by omega) (by omega) i1 m1 g0 g1 g2 g3 g4 g5
  · exact go 0 1 lo' h' (by omega) (by omega) (by omega) (by omega) i1 m1 g0 g1 g2 g3 g4 g5
  · exact go 1 0 lo' h' (by omega) (by omega) (by omega) (by omega) i1 m1 g0 g1 g2 g3 g4 g5
