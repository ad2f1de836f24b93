/-! chance puts the number drawn back -/
theorem s31_t : ((List.range 8).all fun g => decide (sIv swM 31 (g + 8) = (0, 1))) = true := by decide +kernel
theorem s13b {h : zH} (hi : sInv swM h) : 0 ≤ pI h 0 13 ∧ pI h 0 13 ≤ 8 := sIbd hi (show sIv swM 0 13 = (0, 8) from by decide +kernel)
theorem i64b {h : zH} {q j : Nat} : (-9223372036854775808) ≤ pL h q j ∧ pL h q j ≤ 9223372036854775807 := i64bd _
def MCh : sM := scM150.2.2.2.2.1
theorem MCh_s : ssubB kzA_m MCh = true ∧ ssubB kzB_m MCh = true ∧ ssubB kzC_m MCh = true ∧ ssubB kzD_m MCh = true ∧ ssubB kzE_m MCh = true ∧ ssubB scM64.2.2.2.2.1 MCh = true ∧ ssubB scM65.2.2.2.2.1 MCh = true := by decide
theorem zv_kz1 : zcvB 303 55 12 0 263 = true := by decide +kernel
theorem zv_kz2 : zcvB 303 65 12 1 264 = true := by decide +kernel
theorem zChL {l : Launch} {Γ : zG} {Kp : Option Value → zH → Prop} {h0 : zH} {nn gg nu : Int} (b_nn : 1 ≤ nn ∧ nn ≤ 99) (b_gg : 0 ≤ gg ∧ gg ≤ 7) (b_nu : (-9223372036854775808) ≤ nu ∧ nu ≤ 9223372036854775807) (hK : ∀ (r : Int32) (h' : zH), sInv swM h' → sMd MCh h0 h' → pL h' 0 65 = nu → Kp (some (.int r)) h') : ∀ (m i : Nat) (kk : Int) (lo : zL) (h : zH), i + m = 10 → 0 ≤ kk ∧ kk ≤ (i : Int) → sInv swM h → sMd MCh h0 h → zget lo 0 = some (.ref 0) → zI lo 2 nn → zI lo 3 gg → zJ lo 4 nu → zI lo 6 kk → zI lo 7 (i : Int) → zX l Γ false 10 (zhd 303) (zMQ' Γ false (zhd 303) Kp) 0 0 47 lo [] h
  | 0, i, kk, lo, h, hm, hk, hi, hd, l0, l2, l3, l4, l6, l7 => by
    have : i = 10 := by omega
    subst this
    obtain ⟨s1, s2, s3, s4, s5, s6, s7⟩ := MCh_s
    exact kzE (d := 9) (by omega) hi b_nn b_gg b_nu (by omega) l0 l2 l3 l4 l6 l7 (fun h' u0 r i1 m1 z0 z1 _ hr => hK r h' i1 (hd.seq (m1.sub s5)) (z0.trans z1))
  | m + 1, i, kk, lo, h, hm, hk, hi, hd, l0, l2, l3, l4, l6, l7 => by
    obtain ⟨s1, s2, s3, s4, s5, s6, s7⟩ := MCh_s
    refine kzB (d := 9) (by omega) hi b_nn b_gg b_nu (kk := kk) (ii := (i : Int)) (by omega) (by omega) l0 l2 l3 l4 l6 l7 (fun lo1 h1 i1 m1 a0 a2 a3 a4 a6 a7 => ?_)
    refine zcallR (mi := 303) (as := []) (rest := []) (q0 := 0) zv_kz1 rfl (by decide) (shM i1) ?_
    refine (schk_ok (mi := 263) (ct := scM64) (T := sTM) (fun mi c hc _ => sTM_ok l Γ mi c hc) skM64 9 (by decide) [.ref 0] h1 ⟨_, _, rfl, rfl, rfl⟩ i1 (sA0_ok h1)).mono (fun v h2 hv => ?_)
    obtain ⟨e2, i2, m2, -⟩ := hv
    have e2 : v = none := e2
    subst e2
    refine kzC (d := 9) (by omega) i2 b_nn b_gg b_nu (kk := kk) (ii := (i : Int)) (by omega) (by omega) a0 a2 a3 a4 a6 a7 (fun lo3 h3 y0 i3 m3 _ c0 c2 c3 c4 c6 c7 hy => ?_)
    refine zcallR (mi := 303) (as := [.int y0]) (rest := []) (q0 := 0) zv_kz2 rfl (by decide) (shM i3) ?_
    refine (schk_ok (mi := 264) (ct := scM65) (T := sTM) (fun mi c hc _ => sTM_ok l Γ mi c hc) skM65 9 (by decide) [.ref 0, .int y0] h3 ⟨_, _, rfl, rfl, _, _, rfl, ⟨y0, rfl, by show 0 ≤ y0.toInt; omega, by show y0.toInt ≤ 200; omega⟩, rfl⟩ i3 (sA0_ok h3)).mono (fun v h4 hv => ?_)
    obtain ⟨e4, i4, m4, -⟩ := hv
    have e4 : v = none := e4
    subst e4
    have D : sMd MCh h0 h4 := (((hd.seq (m1.sub s2)).seq (m2.sub s6)).seq (m3.sub s3)).seq (m4.sub s7)
    obtain ⟨g, rfl⟩ : ∃ g : Nat, gg = (g : Int) := ⟨gg.toNat, by omega⟩
    have w := sIbd i4 (of_decide_eq_true (zall_r s31_t (k := g) (by omega)))
    refine kzD (d := 9) (by omega) i4 b_nn b_gg b_nu (kk := kk) (ii := (i : Int)) (by omega) (by omega) w c0 c2 c3 c4 c6 c7 (by congr 1) (fun lo5 h5 i5 m5 _ e0 e2 e3 e4 e6 e7 => ?_) (fun lo5 h5 i5 m5 _ e0 e2 e3 e4 e6 e7 => ?_)
    · exact zChL b_nn b_gg b_nu hK m (i + 1) kk lo5 h5 (by omega) (by omega) i5 (D.seq (m5.sub s4)) e0 e2 e3 e4 e6 (by rw [Int.natCast_add]; exact e7)
    · exact zChL b_nn b_gg b_nu hK m (i + 1) (kk + 1) lo5 h5 (by omega) (by omega) i5 (D.seq (m5.sub s4)) e0 e2 e3 e4 e6 (by rw [Int.natCast_add]; exact e7)
theorem zChM (l : Launch) (Γ : zG) {h : zH} (hi : sInv swM h) (x1 x2 x3 : Int32) : zSem l Γ false 10 (zhd 303) [.ref 0, .int x1, .int x2, .int x3] h (fun r h' => (∃ a : Int32, r = some (.int a)) ∧ sInv swM h' ∧ sMd MCh h h' ∧ pL h' 0 65 = pL h 0 65) := by
  obtain ⟨s1, s2, s3, s4, s5, s6, s7⟩ := MCh_s
  have b := s13b hi
  refine kzA (d := 9) (by omega) hi (i32bd x1) (i32bd x2) (i32bd x3) b i64b rfl rfl rfl rfl rfl (fun lo1 h1 u0 i1 m1 _ _ c1 c2 c3 c4 c5 _ l0 l2 l3 l4 l6 l7 => ?_) ?_ ?_ ?_ ?_ ?_
  · exact zChL (h0 := h) (by omega) (by omega) i64b (fun r h' i' m' e => ⟨⟨r, rfl⟩, i', m', e⟩) 10 0 0 lo1 h1 rfl (by omega) i1 (m1.sub s1) l0 l2 l3 l4 l6 l7
  all_goals
    intros
    first
    | exact ⟨⟨_, rfl⟩, by assumption, sMd.sub (by assumption) s1, by omega⟩
