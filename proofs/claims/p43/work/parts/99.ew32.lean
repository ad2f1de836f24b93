/-! the state that a text begins with -/
def bgS (N : zN) (S : zS) : zSt := fun k g => if k = 0 then (if g < S 1 then N 3 g else 0) else if k = 1 then (if g < S 1 then N 4 g else 0) else if k = 6 ∧ g = 2 then N 14 1 else 0
theorem kdB_s : ((List.range 8).all fun g => (List.range 2).all fun t => (List.range 2).all fun u => ssubB (kdB1_m g t u) [(12 * u + 44, 0, 8), (12 * u + 45, 0, 8)] && ssubB (kdB2_m g t u) [(12 * u + 44, 0, 8), (12 * u + 45, 0, 8)]) = true := by decide
def MBg (u : Nat) : sM := [(12 * u + 43, 0, 4), (12 * u + 44, 0, 8), (12 * u + 45, 0, 8), (12 * u + 46, 0, 8), (12 * u + 47, 0, 8), (12 * u + 48, 0, 10)]
theorem MBg_s : ((List.range 2).all fun t => (List.range 2).all fun u => ssubB (kdB0_m t u) (MBg u) && (ssubB [(12 * u + 44, 0, 8), (12 * u + 45, 0, 8)] (MBg u) && (ssubB (kdB3_m t u) (MBg u) && ctb (MBg u)))) = true := by decide
theorem wbT_0 : ∀ g, g < 8 → wbT 0 g = 0 := fun g hg => by
  have t : ((List.range 8).all fun g => decide (wbT 0 g = 0)) = true := by decide +kernel
  exact of_decide_eq_true (zall_r t hg)
theorem zBegL {l : Launch} {Γ : zG} {d t u : Nat} (ht : t < 2) (hu : u < 2) {Kp : Option Value → zH → Prop} {N : zN} {S : zS} {h0 : zH} (hS : S 1 ≤ 8) (hC : CTt t N S h0) : ∀ (m g : Nat) (lo : zL) (h : zH), g + m = 8 → sInv swC h → sMd [(12 * u + 44, 0, 8), (12 * u + 45, 0, 8)] h0 h → (∀ j, j < g → pI h (12 * u + 44) j = bgS N S 0 j ∧ pI h (12 * u + 45) j = bgS N S 1 j) → zget lo 0 = some (.ref (12 * u + 43)) → zget lo 1 = some (.ref (17 * t + 9)) → zI lo 2 (g : Int) →
    (∀ lo' h', sInv swC h' → sMd [(12 * u + 44, 0, 8), (12 * u + 45, 0, 8)] h0 h' → (∀ j, j < 8 → pI h' (12 * u + 44) j = bgS N S 0 j ∧ pI h' (12 * u + 45) j = bgS N S 1 j) → zget lo' 0 = some (.ref (12 * u + 43)) → zget lo' 1 = some (.ref (17 * t + 9)) → zI lo' 2 8 → zX l Γ false (d + 2) (zhd 73) (zMQ' Γ false (zhd 73) Kp) 0 0 26 lo' [] h') → zX l Γ false (d + 2) (zhd 73) (zMQ' Γ false (zhd 73) Kp) 0 0 26 lo [] h
  | 0, g, lo, h, hg, hi, hm, hb, l0, l1, l2, hE => by
    have : g = 8 := by omega
    subst this
    exact hE lo h hi hm hb l0 l1 l2
  | m + 1, g, lo, h, hg, hi, hm, hb, l0, l1, l2, hE => by
    have g8 : g < 8 := by omega
    have hT := hC.md ht hm (by
      have s := zall_r (zall_r MBg_s ht) hu
      simp only [Bool.and_eq_true] at s
      unfold ctb
      simp only [List.all_cons, List.all_nil, Bool.and_true, Bool.and_eq_true, Bool.or_eq_true, decide_eq_true_eq]
      omega)
    have ss := zall_r (zall_r (zall_r kdB_s g8) ht) hu
    simp only [Bool.and_eq_true] at ss
    have nx : ∀ (lo' : zL) (h' : zH) (md : sM), sInv swC h' → sMd md h h' → ssubB md [(12 * u + 44, 0, 8), (12 * u + 45, 0, 8)] = true → md = [((12 * u + 44), g, (g + 1)), ((12 * u + 45), g, (g + 1))] → pI h' (12 * u + 44) g = bgS N S 0 g → pI h' (12 * u + 45) g = bgS N S 1 g → zget lo' 0 = some (.ref (12 * u + 43)) → zget lo' 1 = some (.ref (17 * t + 9)) → zI lo' 2 ((g : Int) + 1) → zX l Γ false (d + 2) (zhd 73) (zMQ' Γ false (zhd 73) Kp) 0 0 26 lo' [] h' := fun lo' h' md i1 m1 hs he k0 k1 g0 g1 g2 => by
      subst he
      refine zBegL ht hu hS hC m (g + 1) lo' h' (by omega) i1 (hm.seq (m1.sub hs)) (fun j hj => ?_) g0 g1 (by rw [Int.natCast_add]; exact g2) hE
      by_cases e : j = g
      · subst e
        exact ⟨k0, k1⟩
      · have b := hb j (by omega)
        exact ⟨(pI_md m1 (smemc (by omega) (smemc (by omega) smem0))).trans b.1, (pI_md m1 (smemc (by omega) (smemc (by omega) smem0))).trans b.2⟩
    by_cases hgS : g < S 1
    · obtain ⟨-, -, q2, q3, -, -⟩ := hT.2.2.1 g hgS
      refine kdB1 (d := d + 1) (by omega) g8 ht hu (n := (S 1 : Int)) hi ⟨by omega, by omega⟩ (i32e q2) (i32e q3) l0 l1 l2 hT.2.1.2.1 q2 q3 (fun lo' h' i1 m1 k1 k0 g0 g1 g2 => nx lo' h' _ i1 m1 ss.1 rfl ?_ ?_ g0 g1 g2)
      · exact k0.trans (if_pos hgS).symm
      · exact k1.trans (if_pos hgS).symm
    · refine kdB2 (d := d + 1) (by omega) g8 ht hu (n := (S 1 : Int)) hi ⟨by omega, by omega⟩ l0 l1 l2 hT.2.1.2.1 (fun lo' h' i1 m1 k1 k0 g0 g1 g2 => nx lo' h' _ i1 m1 ss.2 rfl ?_ ?_ g0 g1 g2)
      · exact k0.trans (if_neg hgS).symm
      · exact k1.trans (if_neg hgS).symm
theorem zBegC {l : Launch} {Γ : zG} {d t u : Nat} (ht : t < 2) (hu : u < 2) {N : zN} {S : zS} {h : zH} (hS : S 1 ≤ 8) (hsd : 0 ≤ N 14 1 ∧ N 14 1 ≤ 99999) (hi : sInv swC h) (hC : CTt t N S h) : zSem l Γ false (d + 2) (zhd 73) [.ref (12 * u + 43), .ref (17 * t + 9)] h (fun r h' => r = none ∧ sInv swC h' ∧ sMd (MBg u) h h' ∧ CS (12 * u + 43) (bgS N S) h') := by
  have s := zall_r (zall_r MBg_s ht) hu
  simp only [Bool.and_eq_true] at s
  obtain ⟨s1, s2, s3, s4⟩ := s
  refine kdB0 (d := d + 1) (by omega) ht hu hi hsd hC.2.2.2.2.2.2.2 (fun lo1 h1 u0 i1 m1 v0 v1 k3 k2 k0 l0 l1 l2 => ?_)
  refine zBegL ht hu hS (hC.md ht m1 (by
      unfold ctb kdB0_m
      simp only [List.all_cons, List.all_nil, Bool.and_true, Bool.and_eq_true, Bool.or_eq_true, decide_eq_true_eq]
      omega)) 8 0 lo1 h1 rfl i1 sMd.rf (fun j hj => absurd hj (Nat.not_lt_zero j)) l0 l1 l2 (fun lo2 h2 i2 m2 hb g0 g1 g2 => ?_)
  refine kdB3 (d := d + 1) (by omega) ht hu i2 g0 g1 g2 (fun h3 i3 m3 p9 p8 p7 p6 p5 p4 p3 p2 p1 p0 q7 q6 q5 q4 q3 q2 q1 q0 r7 r6 r5 r4 r3 r2 r1 r0 => ⟨rfl, i3, ((m1.sub s1).seq (m2.sub s2)).seq (m3.sub s3), ?_⟩)
  refine CS.mk (fun j hj => ?_) (fun j hj => ?_) (fun j hj => ?_) (fun j hj => ?_) (fun j hj => ?_) ⟨?_, ?_, ?_⟩ ?_
  · exact (pI_md m3 (smemc (by omega) (smemc (by omega) (smemc (by omega) smem0)))).trans (hb j hj).1
  · exact (pI_md m3 (smemc (by omega) (smemc (by omega) (smemc (by omega) smem0)))).trans (hb j hj).2
  · rcases (by omega : j = 0 ∨ j = 1 ∨ j = 2 ∨ j = 3 ∨ j = 4 ∨ j = 5 ∨ j = 6 ∨ j = 7) with rfl | rfl | rfl | rfl | rfl | rfl | rfl | rfl
    · exact r0
    · exact r1
    · exact r2
    · exact r3
    · exact r4
    · exact r5
    · exact r6
    · exact r7
  · rcases (by omega : j = 0 ∨ j = 1 ∨ j = 2 ∨ j = 3 ∨ j = 4 ∨ j = 5 ∨ j = 6 ∨ j = 7) with rfl | rfl | rfl | rfl | rfl | rfl | rfl | rfl
    · exact q0
    · exact q1
    · exact q2
    · exact q3
    · exact q4
    · exact q5
    · exact q6
    · exact q7
  · rcases (by omega : j = 0 ∨ j = 1 ∨ j = 2 ∨ j = 3 ∨ j = 4 ∨ j = 5 ∨ j = 6 ∨ j = 7 ∨ j = 8 ∨ j = 9) with rfl | rfl | rfl | rfl | rfl | rfl | rfl | rfl | rfl | rfl
    · exact p0
    · exact p1
    · exact p2
    · exact p3
    · exact p4
    · exact p5
    · exact p6
    · exact p7
    · exact p8
    · exact p9
  · exact ((pI_md m3 (smemc (by omega) (smemc (by omega) (smemc (by omega) smem0)))).trans (pI_md m2 (smemc (by omega) (smemc (by omega) smem0)))).trans k0
  · exact ((pI_md m3 (smemc (by omega) (smemc (by omega) (smemc (by omega) smem0)))).trans (pI_md m2 (smemc (by omega) (smemc (by omega) smem0)))).trans k2
  · exact ((pL_md m3 (smemc (by omega) (smemc (by omega) (smemc (by omega) smem0)))).trans (pL_md m2 (smemc (by omega) (smemc (by omega) smem0)))).trans (v0.trans v1)
  · rw [(pI_md m3 (smemc (by omega) (smemc (by omega) (smemc (by omega) smem0)))).trans ((pI_md m2 (smemc (by omega) (smemc (by omega) smem0))).trans k3)]
    exact ⟨by decide, by decide, fun g hg => (wbT_0 g hg).trans rfl⟩
theorem bgS_b {N : zN} {S : zS} (hT : TB N S) {n : Int} (hn : 0 ≤ n) : SB n (bgS N S) ∧ ZB S (bgS N S) := by
  refine ⟨⟨fun g hg => ⟨?_, ?_, Or.inl rfl, ⟨by show (0 : Int) ≤ 0; omega, hn⟩, ⟨by show (0 : Int) ≤ 0; omega, hn⟩⟩, fun p hp => ⟨by show (0 : Int) ≤ 0; omega, by show (0 : Int) ≤ 2; omega⟩, ⟨by show (0 : Int) ≤ 0; omega, hn⟩, ⟨by show (0 : Int) ≤ 0; omega, hn⟩⟩, fun g h1 h2 k hk => ?_, fun p hp => rfl⟩
  · show 0 ≤ (if g < S 1 then N 3 g else 0) ∧ (if g < S 1 then N 3 g else 0) ≤ 999
    by_cases e : g < S 1
    · rw [if_pos e]
      have := (hT.2.1 g e).2.1
      omega
    · rw [if_neg e]
      omega
  · show 0 ≤ (if g < S 1 then N 4 g else 0) ∧ (if g < S 1 then N 4 g else 0) ≤ 999
    by_cases e : g < S 1
    · rw [if_pos e]
      have := (hT.2.1 g e).2.2.1
      omega
    · rw [if_neg e]
      omega
  · rcases (by omega : k = 0 ∨ k = 1 ∨ k = 2 ∨ k = 3 ∨ k = 4) with rfl | rfl | rfl | rfl | rfl
    · show (if g < S 1 then N 3 g else 0) = 0
      exact if_neg (by omega)
    · show (if g < S 1 then N 4 g else 0) = 0
      exact if_neg (by omega)
    · rfl
    · rfl
    · rfl
/-! the calls, on the states -/
def flX (S : zS) (X : zSx) (x : Int) : zSx := if 0 ≤ x ∧ x < (S 1 : Int) then puX X (swS X.1 x.toNat) else X
def flN (S : zS) (X : zSx) (x : Int) : Int := if 0 ≤ x ∧ x < (S 1 : Int) then X.1 1 x.toNat else -1
def dyX (S : zS) (X : zSx) (x : Int) : zSx := if (0 ≤ x ∧ x < (S 1 : Int)) ∧ X.1 2 x.toNat = 1 then puX X (stS X.1 2 x.toNat 0) else X
def dyN (S : zS) (X : zSx) (x : Int) : Int := if (0 ≤ x ∧ x < (S 1 : Int)) ∧ X.1 2 x.toNat = 1 then 1 else 0
def poX (S : zS) (X : zSx) (x y z : Int) : zSx := if ((0 ≤ x ∧ x < (S 1 : Int)) ∧ (0 ≤ y ∧ y < (S 1 : Int)) ∧ x ≠ y ∧ 1 ≤ z ∧ z ≤ 999) ∧ z ≤ X.1 1 x.toNat ∧ X.1 0 y.toNat + z ≤ 999 then puX X (coS X.1 x.toNat y.toNat z) else X
def oPl : Nat → Int := fun k => if k = 0 ∨ k = 4 then 0 else -1
def oGo : Nat → Int := fun k => if k = 0 then 1 else if k = 4 then 0 else -1
def goX (N : zN) (S : zS) (X : zSx) (x : Int) : zSx := if (0 ≤ x ∧ x ≤ 200) ∧ X.1 6 0 + x ≤ 9000 then (mnK N S oGo x.toNat X.1, X.2.1, (if 1 ≤ x then 0 else X.2.2.1), X.2.2.2) else X
def goQ (X : zSx) (x : Int) : Int := if (0 ≤ x ∧ x ≤ 200) ∧ X.1 6 0 + x ≤ 9000 then X.1 6 0 + x else -1
def unX (X : zSx) : zSx := if X.2.2.1 = 0 then X else (X.2.2.2 (X.2.2.1 - 1), X.2.1, X.2.2.1 - 1, X.2.2.2)
def unN (X : zSx) : Int := if X.2.2.1 = 0 then -1 else ((X.2.2.1 - 1 : Nat) : Int)
def keX (X : zSx) : zSx := (X.1, X.1, X.2.2.1, X.2.2.2)
def baX (X : zSx) (hi : Int) : zSx := if hi = 1 then (X.2.1, X.2.1, 0, X.2.2.2) else X
theorem oPl_b : OB oPl := ⟨Or.inl rfl, fun _ => rfl, Or.inl rfl, by decide, by decide⟩
theorem oGo_b : OB oGo := ⟨Or.inr rfl, fun _ => rfl, Or.inl rfl, by decide, by decide⟩
