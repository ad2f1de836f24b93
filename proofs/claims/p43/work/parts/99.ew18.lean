/-! one minute, as the class lets it go by -/
theorem smem0 {q k : Nat} : smem [] q k = false := rfl
theorem smemc {q a b q' k : Nat} {md : sM} (h : ¬ (q' = q ∧ a ≤ k ∧ k < b)) (hm : smem md q' k = false) : smem ((q, a, b) :: md) q' k = false := by
  cases hc : smem ((q, a, b) :: md) q' k with
  | false => rfl
  | true =>
    obtain ⟨t, ht, h1⟩ := List.any_eq_true.mp hc
    rcases List.mem_cons.mp ht with rfl | ht
    · simp only [Bool.and_eq_true, beq_iff_eq, decide_eq_true_eq] at h1
      omega
    · have : smem md q' k = true := List.any_eq_true.mpr ⟨t, ht, h1⟩
      rw [this] at hm
      cases hm
theorem i32e {h : zH} {q j : Nat} {v : Int} (e : pI h q j = v) : -2147483648 ≤ v ∧ v ≤ 2147483647 := by
  rw [← e]
  exact i32bd _
theorem i64bd (x : Int64) : (-9223372036854775808 : Int) ≤ x.toInt ∧ x.toInt ≤ 9223372036854775807 := ⟨Int64.le_toInt x, by have := Int64.toInt_lt x; omega⟩
theorem i64e {h : zH} {q j : Nat} {v : Int} (e : pL h q j = v) : -9223372036854775808 ≤ v ∧ v ≤ 9223372036854775807 := by
  rw [← e]
  exact i64bd _
/-- the class's state -/
def CS (b : Nat) (s : zSt) (h : zH) : Prop := (∀ g, g < 8 → pI h (b + 1) g = s 0 g ∧ pI h (b + 2) g = s 1 g ∧ pI h (b + 3) g = s 3 g ∧ pI h (b + 4) g = s 4 g) ∧ (∀ p, p < 10 → pI h (b + 5) p = s 5 p) ∧ (pI h b 0 = s 6 0 ∧ pI h b 2 = s 6 1 ∧ pL h b 1 = s 6 2) ∧ (0 ≤ pI h b 3 ∧ pI h b 3 < 256 ∧ ∀ g, g < 8 → wbT (pI h b 3) g = s 2 g)
/-- what is told, with the laws -/
def CTl (t : Nat) (N : zN) (S : zS) (h : zH) : Prop := CTt t N S h ∧ LwC (17 * t + 9) N S h ∧ ∀ j, j < 3 → (S (7 + j) = 0 ↔ pI h (17 * t + 22) j = -1)
theorem CTl.md {t : Nat} (ht : t < 2) {N : zN} {S : zS} {h h' : zH} {md : sM} (hC : CTl t N S h) (hm : sMd md h h') (hb : ctb md = true) : CTl t N S h' :=
  ⟨hC.1.md ht hm hb, hC.2.1.kept (fun q j e => pI_md hm (ctb_k hb (Or.inl (by omega)))) (fun _ _ _ => rfl) (fun _ _ => rfl), fun j hj => by
    rw [pI_md hm (ctb_k hb (Or.inl (by omega)))]
    exact hC.2.2 j hj⟩
def OC (t : Nat) (o : Nat → Int) (h : zH) : Prop := h.2.2.2 61 0 = some (17 * t + 9) ∧ pI h 61 1 = o 0 ∧ pI h 61 2 = o 1 ∧ (o 1 = 2 → pI h 61 3 = o 2) ∧ pI h 61 4 = o 3 ∧ (o 3 ≠ -1 → pI h 61 5 = o 4)
def CF (t : Nat) (N : zN) (S : zS) (o : Nat → Int) (h : zH) : Prop := CTl t N S h ∧ OC t o h
/-- what a minute writes -/
def MC (t u : Nat) : sM := [(12 * u + 43, 0, 4), (12 * u + 44, 0, 8), (12 * u + 45, 0, 8), (12 * u + 46, 0, 8), (12 * u + 47, 0, 8), (12 * u + 48, 0, 10), (17 * t + 24, 0, 7), (17 * t + 25, 0, 64)]
theorem MC_b : ((List.range 2).all fun t => (List.range 2).all fun u => ctb (MC t u) && (MC t u).all (fun x => !(x.1 == 61))) = true := by decide
theorem CF.md {t u : Nat} (ht : t < 2) (hu : u < 2) {N : zN} {S : zS} {o : Nat → Int} {h h' : zH} (hC : CF t N S o h) (hm : sMd (MC t u) h h') : CF t N S o h' := by
  have b := zall_r (zall_r MC_b ht) hu
  simp only [Bool.and_eq_true] at b
  have k : ∀ j, smem (MC t u) 61 j = false := smem_q b.2
  obtain ⟨a0, a1, a2, a3, a4, a5⟩ := hC.2
  exact ⟨hC.1.md ht hm b.1, ((hm 61 0 (k 0)).2.1).trans a0, (pI_md hm (k 1)).trans a1, (pI_md hm (k 2)).trans a2, fun e => (pI_md hm (k 3)).trans (a3 e), (pI_md hm (k 4)).trans a4, fun e => (pI_md hm (k 5)).trans (a5 e)⟩
def CI (t u : Nat) (N : zN) (S : zS) (o : Nat → Int) (s : zSt) (h0 h : zH) : Prop := sInv swC h ∧ sMd (MC t u) h0 h ∧ CF t N S o h ∧ CS (12 * u + 43) s h
theorem CI.to {t u : Nat} (ht : t < 2) (hu : u < 2) {N : zN} {S : zS} {o : Nat → Int} {s s' : zSt} {h0 h h' : zH} (I : CI t u N S o s h0 h) (i1 : sInv swC h') (m1 : sMd (MC t u) h h') (c : CS (12 * u + 43) s' h') : CI t u N S o s' h0 h' :=
  ⟨i1, I.2.1.seq m1, I.2.2.1.md ht hu m1, c⟩
/-- a state that nothing touches -/
theorem CS.md {b : Nat} {s : zSt} {h h' : zH} {md : sM} (hC : CS b s h) (hm : sMd md h h') (hb : ∀ q, b ≤ q → q ≤ b + 5 → ∀ j, smem md q j = false) : CS b s h' := by
  obtain ⟨a1, a2, ⟨a3, a4, a5⟩, a6, a7, a8⟩ := hC
  have w := pI_md hm (hb b (by omega) (by omega) 3)
  refine ⟨fun g hg => ?_, fun p hp => (pI_md hm (hb _ (by omega) (by omega) _)).trans (a2 p hp), ⟨(pI_md hm (hb _ (by omega) (by omega) _)).trans a3, (pI_md hm (hb _ (by omega) (by omega) _)).trans a4, (pL_md hm (hb _ (by omega) (by omega) _)).trans a5⟩, by rw [w]; exact a6, by rw [w]; exact a7, fun g hg => by rw [w]; exact a8 g hg⟩
  obtain ⟨b1, b2, b3, b4⟩ := a1 g hg
  exact ⟨(pI_md hm (hb _ (by omega) (by omega) _)).trans b1, (pI_md hm (hb _ (by omega) (by omega) _)).trans b2, (pI_md hm (hb _ (by omega) (by omega) _)).trans b3, (pI_md hm (hb _ (by omega) (by omega) _)).trans b4⟩
theorem CI.nil {t u : Nat} (ht : t < 2) (hu : u < 2) {N : zN} {S : zS} {o : Nat → Int} {s : zSt} {h0 h h' : zH} (I : CI t u N S o s h0 h) (i1 : sInv swC h') (m1 : sMd [] h h') : CI t u N S o s h0 h' :=
  I.to ht hu i1 (m1.sub rfl) (I.2.2.2.md m1 (fun _ _ _ _ => rfl))
/-! turns -/
theorem kcSw_s : ((List.range 8).all fun g => (List.range 2).all fun u => (List.range 2).all fun t => ssubB (kcSw_m g u) (MC t u)) = true := by decide
theorem zSwC {l : Launch} {Γ : zG} {d t u : Nat} (ht : t < 2) (hu : u < 2) {N : zN} {S : zS} {o : Nat → Int} {s : zSt} {h0 h : zH} (I : CI t u N S o s h0 h) {g : Nat} (hg : g < 8) {x : Int32} (hx : x.toInt = (g : Int)) : zSem l Γ false (d + 1) (zhd 92) [.ref (12 * u + 43), .int x] h (fun r h' => r = none ∧ CI t u N S o (swS s g) h0 h') := by
  obtain ⟨a1, a2, a3, a4⟩ := I.2.2.2
  obtain ⟨b1, b2, -, -⟩ := a1 g hg
  refine kcSw (Nat.zero_le _) hg hu I.1 (i32e b1) (i32e b2) hx b1 b2 (fun h' i1 m1 k1 k0 => ⟨rfl, I.to ht hu i1 (m1.sub (zall_r (zall_r (zall_r kcSw_s hg) hu) ht)) ⟨fun j hj => ?_, fun p hp => ?_, ⟨?_, ?_, ?_⟩, ?_, ?_, fun j hj => ?_⟩⟩)
  · obtain ⟨c1, c2, c3, c4⟩ := a1 j hj
    refine ⟨?_, ?_, (pI_md m1 (smemc (by omega) (smemc (by omega) smem0))).trans c3, (pI_md m1 (smemc (by omega) (smemc (by omega) smem0))).trans c4⟩
    · unfold swS
      by_cases e : j = g
      · subst e
        rw [stS_n (by omega), stS_s]
        exact k0
      · rw [stS_n (by omega), stS_n (by omega)]
        exact (pI_md m1 (smemc (by omega) (smemc (by omega) smem0))).trans c1
    · unfold swS
      by_cases e : j = g
      · subst e
        rw [stS_s]
        exact k1
      · rw [stS_n (by omega), stS_n (by omega)]
        exact (pI_md m1 (smemc (by omega) (smemc (by omega) smem0))).trans c2
  · exact (pI_md m1 (smemc (by omega) (smemc (by omega) smem0))).trans (a2 p hp)
  · exact (pI_md m1 (smemc (by omega) (smemc (by omega) smem0))).trans a3.1
  · exact (pI_md m1 (smemc (by omega) (smemc (by omega) smem0))).trans a3.2.1
  · exact (pL_md m1 (smemc (by omega) (smemc (by omega) smem0))).trans a3.2.2
  · rw [pI_md m1 (smemc (by omega) (smemc (by omega) smem0))]
    exact a4.1
  · rw [pI_md m1 (smemc (by omega) (smemc (by omega) smem0))]
    exact a4.2.1
  · rw [pI_md m1 (smemc (by omega) (smemc (by omega) smem0))]
    exact a4.2.2 j hj
theorem zv_sct : zcvB 101 48 7 1 92 = true := by decide +kernel
theorem shB {t : Nat} (ht : t < 2) {h : zH} (hi : sInv swC h) : h.1[12 * t + 43]? = some (0, 7) := by
  rw [hi.1]
  rcases (by omega : t = 0 ∨ t = 1) with rfl | rfl <;> rfl
theorem zTrnL {l : Launch} {Γ : zG} {d t u : Nat} (ht : t < 2) (hu : u < 2) {Kp : Option Value → zH → Prop} {N : zN} {S : zS} {o : Nat → Int} {h0 : zH} (hT : TB N S) : ∀ (m r : Nat) (lo : zL) (h : zH) (s : zSt), r + m = S 2 → CI t u N S o s h0 h → zget lo 0 = some (.ref 61) → zget lo 1 = some (.ref (12 * u + 43)) → zI lo 2 (r : Int) →
    (∀ h', CI t u N S o (itG (tnG N) m r s) h0 h' → Kp none h') → zX l Γ false (d + 2) (zhd 101) (zMQ' Γ false (zhd 101) Kp) 0 0 2 lo [] h
  | 0, r, lo, h, s, hr, I, l0, l1, l2, hE => by
    have b := hT.1.2.2.1
    exact kcT3 (d := d + 1) (by omega) ht hu (ri := (r : Int)) (n := (S 2 : Int)) I.1 ⟨by omega, by omega⟩ ⟨by omega, by omega⟩ l0 l1 l2 I.2.2.1.1.1.2.1.2.2.1 I.2.2.1.2.1 (by omega) (fun h' i1 m1 => hE h' (I.nil ht hu i1 m1))
  | m + 1, r, lo, h, s, hr, I, l0, l1, l2, hE => by
    have b := hT.1.2.2.1
    obtain ⟨q0, q1⟩ := I.2.2.1.1.1.2.2.2.1 r (by omega)
    have q2 := hT.2.2.1 r (by omega)
    have b1 := hT.1.2.1
    have q3 := I.2.2.2.2.2.1.1
    refine kcT1 (d := d + 1) (by omega) (r := r) (by omega) ht hu (n := (S 2 : Int)) (gl := N 7 r) (mn := N 8 r) (m := s 6 0) I.1 ⟨by omega, by omega⟩ ⟨by omega, by omega⟩ (i32e q1) (i32e q3) l0 l1 l2 I.2.2.1.1.1.2.1.2.2.1 q0 q1 q3 I.2.2.1.2.1 (fun lo' h' y i1 m1 e g0 g1 g2 hy => ?_) (fun lo' h' i1 m1 e g0 g1 g2 => ?_)
    · have I1 := I.nil ht hu i1 m1
      refine zcallR (mi := 101) (as := [.int y]) (rest := []) (q0 := 12 * u + 43) zv_sct rfl (by decide) (shB hu i1) ?_
      refine (zSwC ht hu I1 (g := (N 7 r).toNat) (by omega) (by omega)).mono (fun v h2 hv => ?_)
      obtain ⟨rfl, I2⟩ := hv
      refine kcT2 (d := d + 1) (by omega) hu (ri := (r : Int)) I2.1 ⟨by omega, by omega⟩ g0 g1 g2 (fun lo3 h3 i3 m3 z0 z1 z2 => ?_)
      refine zTrnL ht hu hT m (r + 1) lo3 h3 (swS s (N 7 r).toNat) (by omega) (I2.nil ht hu i3 m3) z0 z1 (by rw [Int.natCast_add]; exact z2) (fun h' I' => hE h' ?_)
      have e2 : tnG N s r = swS s (N 7 r).toNat := if_pos e
      show CI t u N S o (itG (tnG N) m (r + 1) (tnG N s r)) h0 h'
      rw [e2]
      exact I'
    · refine zTrnL ht hu hT m (r + 1) lo' h' s (by omega) (I.nil ht hu i1 m1) g0 g1 (by rw [Int.natCast_add]; exact g2) (fun h' I' => hE h' ?_)
      have e2 : tnG N s r = s := if_neg e
      show CI t u N S o (itG (tnG N) m (r + 1) (tnG N s r)) h0 h'
      rw [e2]
      exact I'
theorem zTrnC {l : Launch} {Γ : zG} {d t u : Nat} (ht : t < 2) (hu : u < 2) {N : zN} {S : zS} {o : Nat → Int} {s : zSt} {h0 h : zH} (hT : TB N S) (I : CI t u N S o s h0 h) : zSem l Γ false (d + 2) (zhd 101) [.ref 61, .ref (12 * u + 43)] h (fun r h' => r = none ∧ CI t u N S o (itG (tnG N) (S 2) 0 s) h0 h') := by
  refine kcT0 (d := d + 1) (by omega) hu I.1 (fun lo' h' i1 m1 g0 g1 g2 => ?_)
  exact zTrnL ht hu hT (S 2) 0 lo' h' s (by omega) (I.nil ht hu i1 m1) g0 g1 g2 (fun h' I' => ⟨rfl, I'⟩)
