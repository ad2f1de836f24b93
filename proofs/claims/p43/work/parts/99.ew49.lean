/-! the calls that change what stands, on both sides -/
theorem bgS_p {N : zN} {S : zS} (hT : PB N S) {n : Int} (hn : 0 ≤ n) : SB n (bgS N S) ∧ ZB S (bgS N S) := by
  refine ⟨⟨fun g hg => ⟨?_, ?_, Or.inl rfl, ⟨by show (0 : Int) ≤ 0; omega, hn⟩, ⟨by show (0 : Int) ≤ 0; omega, hn⟩⟩, fun p hp => ⟨by show (0 : Int) ≤ 0; omega, by show (0 : Int) ≤ 2; omega⟩, ⟨by show (0 : Int) ≤ 0; omega, hn⟩, ⟨by show (0 : Int) ≤ 0; omega, hn⟩⟩, fun g h1 h2 k hk => ?_, fun p hp => rfl⟩
  · show 0 ≤ (if g < S 1 then N 3 g else 0) ∧ (if g < S 1 then N 3 g else 0) ≤ 999
    by_cases e : g < S 1
    · rw [if_pos e]
      have := (hT.2.1 g e).2.1
      omega
    · rw [if_neg e]
      omega
  · show 0 ≤ (if g < S 1 then N 4 g else 0) ∧ (if g < S 1 then N 4 g else 0) ≤ 999
    by_cases e : g < S 1
    · rw [if_pos e]
      have := (hT.2.1 g e).2.2.1
      omega
    · rw [if_neg e]
      omega
  · rcases (by omega : k = 0 ∨ k = 1 ∨ k = 2 ∨ k = 3 ∨ k = 4) with rfl | rfl | rfl | rfl | rfl
    · show (if g < S 1 then N 3 g else 0) = 0
      exact if_neg (by omega)
    · show (if g < S 1 then N 4 g else 0) = 0
      exact if_neg (by omega)
    · rfl
    · rfl
    · rfl
theorem XB.bp {N : zN} {S : zS} (hT : PB N S) {n : Int} (hn : 0 ≤ n) : XB S n (bgX N S) := ⟨bgS_p hT hn, bgS_p hT hn, Nat.zero_le _, fun k hk => absurd hk (Nat.not_lt_zero k)⟩
theorem zGB.le {n m : Int} {A : zGb} (h : zGB n A) (hn : n ≤ m) : zGB m A := ⟨h.1, h.2.1, h.2.2.le hn⟩
/-- feed -/
theorem zps0 (l : Launch) {f1 f2 : zH} {A : zGb} (g1 : zGC A f1) (g2 : zGM A f2) {n : Int} (hb : zGB n A) (x1 x2 x3 x4 x5 : Int32) : ∃ (a : Int32) (A' : zGb), zGB n A' ∧ (∀ Γ : zG, zSem l Γ false 10 (zhd 26) [.ref 0, .int x1, .int x2, .int x3, .int x4, .int x5] f1 (fun r f => r = some (.int a) ∧ zGC A' f)) ∧ (∀ Γ : zG, zSem l Γ false 10 (zhd 193) [.ref 0, .int x1, .int x2, .int x3, .int x4, .int x5] f2 (fun r f => r = some (.int a) ∧ zGM A' f)) := by
  obtain ⟨a, t2, T2, ht2, hc, hm⟩ := zfeed2 l g1.1.2.1 g1.1.1 g2.1.1 g1.1.2.2.1 g2.1.2.2.1 g1.1.2.2.2.1 g2.1.2.2.2.1 x1 x2 x3 x4 x5
  refine ⟨a, ((t2, T2, A.1.2.2), A.2), hb, fun Γ => (hc Γ).mono ?_, fun Γ => (hm Γ).mono ?_⟩
  · rintro r f ⟨e, j1, n1, v1, m1⟩
    exact ⟨e, ⟨j1, ht2, n1, v1, g1.1.2.2.2.2.md m1 (by decide +kernel)⟩, g1.2.md m1 (by decide +kernel)⟩
  · rintro r f ⟨e, j1, n1, v1, m1⟩
    exact ⟨e, ⟨j1, ht2, n1, v1, g2.1.2.2.2.2.md g2.1.1 m1 (by decide +kernel)⟩, g2.2.md g2.1.s1 m1 (by decide +kernel) (pL_md m1 (by decide +kernel))⟩
/-- text -/
theorem srC_t : srcB teF = true ∧ srmB tMf = true ∧ smem tMf 0 65 = false := by decide +kernel
theorem zps1 (l : Launch) {f1 f2 : zH} {A : zGb} (g1 : zGC A f1) (g2 : zGM A f2) {n : Int} (h0 : 0 ≤ n) (hb : zGB n A) (x1 : Int32) : ∃ (a : Int32) (A' : zGb), zGB n A' ∧ (∀ Γ : zG, zSem l Γ false 10 (zhd 28) [.ref 0, .int x1] f1 (fun r f => r = some (.int a) ∧ zGC A' f)) ∧ (∀ Γ : zG, zSem l Γ false 10 (zhd 194) [.ref 0, .int x1] f2 (fun r f => r = some (.int a) ∧ zGM A' f)) := by
  have bd := i32bd x1
  have ht := g1.1.2.1
  have ha : ∀ a b : Int, a ≤ x1.toInt → x1.toInt ≤ b → sTL [.inr (.inl 0), .inl (a, b)] [.ref 0, .int x1] := fun a b p q => ⟨_, _, rfl, rfl, _, _, rfl, ⟨x1, rfl, p, q⟩, rfl⟩
  by_cases hneg : x1.toInt < 0
  · refine ⟨Int32.ofInt (-2), A, hb, fun Γ => ?_, fun Γ => ?_⟩
    · refine (ytCl l Γ 10 (by show 1 ≤ 10; decide) _ f1 (ha _ _ bd.1 (by omega)) g1.1.1 (sA0_ok _)).mono ?_
      rintro r h' ⟨⟨v, e, x, rfl, c1, c2⟩, d2, d3, -⟩
      exact ⟨by rw [e, i32eq c1 c2], g1.md d2 d3 (by decide +kernel) (by decide +kernel)⟩
    · refine (ytMl l Γ 10 (by show 1 ≤ 10; decide) _ f2 (ha _ _ bd.1 (by omega)) g2.1.1 (sA0_ok _)).mono ?_
      rintro r h' ⟨⟨v, e, x, rfl, c1, c2⟩, d2, d3, -⟩
      exact ⟨by rw [e, i32eq c1 c2], g2.md' d2 d3 (by decide +kernel)⟩
  by_cases hle : x1.toInt ≤ 20 * (A.1.1 : Int)
  · generalize hT : A.1.2.1 = T at *
    obtain ⟨o, W⟩ := wTxt_y (D := (T, x1.toInt.toNat)) (KF := fun (o : (Int × Int × Int) × zN × zS) (c : Int) (p : Nat) => o.1 = (-1, c, (p : Int))) (KO := fun (o : (Int × Int × Int) × zN × zS) (m : Nat) (N : zN) (S : zS) => PB N S ∧ o = (((m : Int), 0, -1), N, S)) (fun c p => ⟨((-1, c, (p : Int)), fun _ _ => 0, S0), rfl⟩) (fun m N S h => ⟨_, h, rfl⟩) 701 (fun _ _ => 0) S0 (pF (T, x1.toInt.toNat) 0) 0 (PB.zero rfl rfl)
    obtain ⟨⟨o1, o2, o3⟩, N', S'⟩ := o
    have r1 : rT f1 T := by
      rw [← hT]
      exact g1.1.2.2.2.1
    have r2 : mT f2 T := by
      rw [← hT]
      exact g2.1.2.2.2.1
    have hx : x1.toInt = (((T, x1.toInt.toNat) : zD).2 : Int) := by
      show x1.toInt = (x1.toInt.toNat : Int)
      omega
    have hR : ∀ j, j < 700 → 0 ≤ T j ∧ T j ≤ 255 := fun j hj => by
      have g := g2.1.1.2.2.1 1 j
      have e : sIv swM 1 j = (0, 255) := by
        show sgAt [(700, 0, 255)] j = _
        simp only [sgAt]
        rw [if_pos hj]
      rw [e] at g
      have g : 0 ≤ pI f2 1 j ∧ pI f2 1 j ≤ 255 := g
      rw [r2 j hj] at g
      exact g
    have ya : ∀ y : Int32, y.toInt = o1 → y = Int32.ofInt o1 := fun y e => by rw [← e, Int32.ofInt_toInt]
    have C4 := g1.1.2.2.2.2.1
    have M4 := g2.1.2.2.2.2.1
    by_cases hP : o1 = -1 ∨ ¬ PB N' S'
    · refine ⟨Int32.ofInt o1, ((0, T, ((o2, o3, A.1.2.2.1.2.2), A.1.2.2.2)), A.2), hb, fun Γ => ?_, fun Γ => ?_⟩
      · refine (zTxtC4 (d := 2) (D := (T, x1.toInt.toNat)) (N1 := A.1.2.2.2.1) (S1 := A.1.2.2.2.2) rfl rfl g1.1.2.2.2.2.2 g1.1.1 r1 hR hx (by rw [← hx, g1.1.2.2.1]; exact hle) W (fun _ _ _ h => h.1)).mono ?_
        rintro r h' ⟨c1, c2, c3, y, rfl, hy⟩
        rcases hy with ⟨c, p, hF, ey, e1, e2, hm, hct⟩ | ⟨m, N2, S2, hO, ey, hq, hct⟩
        · cases hF
          exact ⟨by rw [ya y ey], ⟨c1, Nat.zero_le 35, c2, fun j hj => (c3 j).trans (r1 j hj), ⟨e1, e2, (pI_md hm (by decide +kernel)).trans C4.2.2.1, (pI_md hm (by decide +kernel)).trans C4.2.2.2.1, fun e => (pI_md hm (by decide +kernel)).trans (C4.2.2.2.2.1 e), (pI_md hm (by decide +kernel)).trans C4.2.2.2.2.2.1, (pI_md hm (by decide +kernel)).trans C4.2.2.2.2.2.2⟩, hct⟩, g1.2.md hm srC_t.1⟩
        · obtain ⟨hp, hO⟩ := hO
          cases hO
          exact absurd hP (by
            rintro (h | h)
            · omega
            · exact h hp)
      · refine (zTxtR4 (d := 0) (D := (T, x1.toInt.toNat)) rfl rfl g2.1.1 r2 hx (by rw [← hx, g2.1.2.2.1]; exact hle) W).mono ?_
        rintro r h' ⟨c1, c2, c3, y, rfl, hy⟩
        rcases hy with ⟨c, p, hF, ey, hf, hm⟩ | ⟨m, N2, S2, hO, ey, hq, htm⟩
        · cases hF
          exact ⟨by rw [ya y ey], ⟨c1, Nat.zero_le 35, c2, fun j hj => (c3 j).trans (r2 j hj), ⟨hf.1, hf.2, (pI_md hm (by decide +kernel)).trans M4.2.2.1, (pI_md hm (by decide +kernel)).trans M4.2.2.2.1, fun e => (pI_md hm (by decide +kernel)).trans (M4.2.2.2.2.1 e), (pI_md hm (by decide +kernel)).trans M4.2.2.2.2.2.1, (pI_md hm (by decide +kernel)).trans M4.2.2.2.2.2.2⟩, g2.1.2.2.2.2.2.md g2.1.1 hm (by decide +kernel)⟩, g2.2.md g2.1.s1 hm srC_t.2.1 (pL_md hm srC_t.2.2)⟩
        · obtain ⟨hp, hO⟩ := hO
          cases hO
          exact absurd hP (by
            rintro (h | h)
            · omega
            · exact h hp)
    · have hp : PB N' S' := Classical.byContradiction (fun h => hP (Or.inr h))
      have h1 : o1 ≠ -1 := fun h => hP (Or.inl h)
      refine ⟨Int32.ofInt o1, ((0, T, ((0, -1, 0, 0, 0, 0, -1), N', S')), bgX N' S'), ⟨⟨(by decide : (0 : Int) ≤ 0), (by decide : (0 : Int) ≤ 24), (by decide : (-1 : Int) ≤ -1), (by decide : (-1 : Int) ≤ 24), (by decide : (-1 : Int) ≤ 0)⟩, hp, XB.bp hp h0⟩, fun Γ => ?_, fun Γ => ?_⟩
      · refine (zTxtC4 (d := 2) (D := (T, x1.toInt.toNat)) (N1 := A.1.2.2.2.1) (S1 := A.1.2.2.2.2) rfl rfl g1.1.2.2.2.2.2 g1.1.1 r1 hR hx (by rw [← hx, g1.1.2.2.1]; exact hle) W (fun _ _ _ h => h.1)).mono ?_
        rintro r h' ⟨c1, c2, c3, y, rfl, hy⟩
        rcases hy with ⟨c, p, hF, ey, e1, e2, hm, hct⟩ | ⟨m, N2, S2, hO, ey, ⟨hq, cs, u0⟩, hct⟩
        · cases hF
          exact absurd rfl h1
        · obtain ⟨-, hO⟩ := hO
          cases hO
          exact ⟨by rw [ya y ey], ⟨c1, Nat.zero_le 35, c2, fun j hj => (c3 j).trans (r1 j hj), ⟨hq.2.2.1, hq.2.2.2.1, hq.1, hq.2.1, fun e => absurd e (by decide : ¬ (0 : Int) = 1), hq.2.2.2.2.1, hq.2.2.2.2.2⟩, hct⟩, cs, fun e => absurd (hq.2.1.symm.trans e) (by decide), u0, fun k hk => absurd hk (Nat.not_lt_zero k)⟩
      · refine (zTxtR4 (d := 0) (D := (T, x1.toInt.toNat)) rfl rfl g2.1.1 r2 hx (by rw [← hx, g2.1.2.2.1]; exact hle) W).mono ?_
        rintro r h' ⟨c1, c2, c3, y, rfl, hy⟩
        rcases hy with ⟨c, p, hF, ey, hf, hm⟩ | ⟨m, N2, S2, hO, ey, ⟨hq, ms, u0⟩, htm⟩
        · cases hF
          exact absurd rfl h1
        · obtain ⟨-, hO⟩ := hO
          cases hO
          exact ⟨by rw [ya y ey], ⟨c1, Nat.zero_le 35, c2, fun j hj => (c3 j).trans (r2 j hj), ⟨hq.2.2.1, hq.2.2.2.1, hq.1, hq.2.1, fun e => absurd e (by decide : ¬ (0 : Int) = 1), hq.2.2.2.2.1, hq.2.2.2.2.2⟩, htm⟩, ms, fun e => absurd (hq.2.1.symm.trans e) (by decide), u0, fun k hk => absurd hk (Nat.not_lt_zero k)⟩
  · refine ⟨Int32.ofInt (-2), A, hb, fun Γ => ?_, fun Γ => ?_⟩
    · refine (ytCh l Γ A.1.1 (by omega) 10 (by show 1 ≤ 10; decide) _ f1 (ha _ _ (by omega) bd.2) g1.1.1 (sPl1 g1.1.2.2.1)).mono ?_
      rintro r h' ⟨⟨v, e, x, rfl, c1, c2⟩, d2, d3, -⟩
      exact ⟨by rw [e, i32eq c1 c2], g1.md d2 d3 (by show zRCB [] = true; decide +kernel) (by show srcB [] = true; decide +kernel)⟩
    · refine (ytMh l Γ A.1.1 (by omega) 10 (by show 1 ≤ 10; decide) _ f2 (ha _ _ (by omega) bd.2) g2.1.1 (sPl1 g2.1.2.2.1)).mono ?_
      rintro r h' ⟨⟨v, e, x, rfl, c1, c2⟩, d2, d3, -⟩
      exact ⟨by rw [e, i32eq c1 c2], g2.md' d2 d3 (by show zGMB [(0, 2, 3)] = true; decide +kernel)⟩
/-- flip -/
theorem zps8 (l : Launch) {f1 f2 : zH} {A : zGb} (g1 : zGC A f1) (g2 : zGM A f2) {n : Int} (h0 : 0 ≤ n ∧ n ≤ 1990000000) (hb : zGB n A) (x : Int32) : ∃ (a : Int32) (A' : zGb), zGB (n + 400000) A' ∧ (∀ Γ : zG, zSem l Γ false 10 (zhd 91) [.ref 0, .int x] f1 (fun r f => r = some (.int a) ∧ zGC A' f)) ∧ (∀ Γ : zG, zSem l Γ false 10 (zhd 245) [.ref 0, .int x] f2 (fun r f => r = some (.int a) ∧ zGM A' f)) := by
  have hT := g2.tb hb.2.1
  obtain ⟨t, ht, C⟩ := g1.sc
  have vC : pI f1 0 9 = A.1.2.2.1.2.2.2.1 := g1.1.2.2.2.2.1.2.2.2.1
  have vM : pI f2 0 82 = A.1.2.2.1.2.2.2.1 := g2.1.2.2.2.2.1.2.2.2.1
  refine ⟨Int32.ofInt (flN A.1.2.2.2.2 A.2 x.toInt), zGs A (flX A.1.2.2.2.2 A.2 x.toInt) A.1.2.2.1.2.2.2.1, ⟨hb.1, hb.2.1, (XB.fl hT hb.2.2 x.toInt).le (by omega)⟩, fun Γ => ?_, fun Γ => ?_⟩
  · refine (fcFlip ht hT hb.2.2 g1.1.1 C x).mono ?_
    rintro r h' ⟨⟨a, e, ea⟩, i1, m1, s1⟩
    exact ⟨by rw [e, i32of ea], g1.st i1 m1 (by decide +kernel) s1 ((pI_md m1 rfl).trans vC)⟩
  · refine (fmFlip hT hb.2.2 g2.1.1 g2.sm x).mono ?_
    rintro r h' ⟨⟨a, e, ea⟩, i1, m1, s1⟩
    exact ⟨by rw [e, i32of ea], g2.st i1 m1 (by decide +kernel) s1 ((pI_md m1 rfl).trans vM)⟩
/-- pour (what it answers is not told) -/
theorem zps9 (l : Launch) {f1 f2 : zH} {A : zGb} (g1 : zGC A f1) (g2 : zGM A f2) {n : Int} (h0 : 0 ≤ n ∧ n ≤ 1990000000) (hb : zGB n A) (x y z : Int32) : ∃ (A' : zGb), zGB (n + 400000) A' ∧ (∀ Γ : zG, zSem l Γ false 10 (zhd 95) [.ref 0, .int x, .int y, .int z] f1 (fun r f => (∃ a : Int32, r = some (.int a)) ∧ zGC A' f)) ∧ (∀ Γ : zG, zSem l Γ false 10 (zhd 249) [.ref 0, .int x, .int y, .int z] f2 (fun r f => (∃ a : Int32, r = some (.int a)) ∧ zGM A' f)) := by
  have hT := g2.tb hb.2.1
  obtain ⟨t, ht, C⟩ := g1.sc
  have vC : pI f1 0 9 = A.1.2.2.1.2.2.2.1 := g1.1.2.2.2.2.1.2.2.2.1
  have vM : pI f2 0 82 = A.1.2.2.1.2.2.2.1 := g2.1.2.2.2.2.1.2.2.2.1
  refine ⟨zGs A (poX A.1.2.2.2.2 A.2 x.toInt y.toInt z.toInt) A.1.2.2.1.2.2.2.1, ⟨hb.1, hb.2.1, (XB.po hT hb.2.2 x.toInt y.toInt z.toInt).le (by omega)⟩, fun Γ => ?_, fun Γ => ?_⟩
  · refine (fcPour ht hT hb.2.2 (by omega) g1.1.1 C x y z).mono ?_
    rintro r h' ⟨⟨a, e⟩, i1, m1, s1⟩
    exact ⟨⟨a, e⟩, g1.st i1 m1 (by decide +kernel) s1 ((pI_md m1 rfl).trans vC)⟩
  · refine (fmPour hT hb.2.2 (by omega) g2.1.1 g2.sm x y z).mono ?_
    rintro r h' ⟨⟨a, e⟩, i1, m1, s1⟩
    exact ⟨⟨a, e⟩, g2.st i1 m1 (by decide +kernel) s1 ((pI_md m1 rfl).trans vM)⟩
/-- dry -/
theorem zps10 (l : Launch) {f1 f2 : zH} {A : zGb} (g1 : zGC A f1) (g2 : zGM A f2) {n : Int} (h0 : 0 ≤ n ∧ n ≤ 1990000000) (hb : zGB n A) (x : Int32) : ∃ (a : Int32) (A' : zGb), zGB (n + 400000) A' ∧ (∀ Γ : zG, zSem l Γ false 10 (zhd 97) [.ref 0, .int x] f1 (fun r f => r = some (.int a) ∧ zGC A' f)) ∧ (∀ Γ : zG, zSem l Γ false 10 (zhd 251) [.ref 0, .int x] f2 (fun r f => r = some (.int a) ∧ zGM A' f)) := by
  have hT := g2.tb hb.2.1
  obtain ⟨t, ht, C⟩ := g1.sc
  have vC : pI f1 0 9 = A.1.2.2.1.2.2.2.1 := g1.1.2.2.2.2.1.2.2.2.1
  have vM : pI f2 0 82 = A.1.2.2.1.2.2.2.1 := g2.1.2.2.2.2.1.2.2.2.1
  refine ⟨Int32.ofInt (dyN A.1.2.2.2.2 A.2 x.toInt), zGs A (dyX A.1.2.2.2.2 A.2 x.toInt) A.1.2.2.1.2.2.2.1, ⟨hb.1, hb.2.1, (XB.dy hT hb.2.2 x.toInt).le (by omega)⟩, fun Γ => ?_, fun Γ => ?_⟩
  · refine (fcDry ht hT hb.2.2 g1.1.1 C x).mono ?_
    rintro r h' ⟨⟨a, e, ea⟩, i1, m1, s1⟩
    exact ⟨by rw [e, i32of ea], g1.st i1 m1 (by decide +kernel) s1 ((pI_md m1 rfl).trans vC)⟩
  · refine (fmDry hT hb.2.2 g2.1.1 g2.sm x).mono ?_
    rintro r h' ⟨⟨a, e, ea⟩, i1, m1, s1⟩
    exact ⟨by rw [e, i32of ea], g2.st i1 m1 (by decide +kernel) s1 ((pI_md m1 rfl).trans vM)⟩
theorem MGo_g : ((List.range 2).all fun t => zGtB (MGo t) && !smem (MGo t) 0 9) = true := by decide +kernel
theorem MGo_g1 {t : Nat} (ht : t < 2) : zGtB (MGo t) = true := by
  have h := zall_r MGo_g ht
  simp only [Bool.and_eq_true] at h
  exact h.1
theorem MGo_g9 {t : Nat} (ht : t < 2) : smem (MGo t) 0 9 = false := by
  have h := zall_r MGo_g ht
  simp only [Bool.and_eq_true, Bool.not_eq_true'] at h
  exact h.2
/-- go -/
theorem zps11 (l : Launch) {f1 f2 : zH} {A : zGb} (g1 : zGC A f1) (g2 : zGM A f2) {n : Int} (h0 : 0 ≤ n ∧ n ≤ 1990000000) (hb : zGB n A) (x : Int32) : ∃ (a : Int32) (A' : zGb), zGB (n + 400000) A' ∧ (∀ Γ : zG, zSem l Γ false 10 (zhd 98) [.ref 0, .int x] f1 (fun r f => r = some (.int a) ∧ zGC A' f)) ∧ (∀ Γ : zG, zSem l Γ false 10 (zhd 252) [.ref 0, .int x] f2 (fun r f => r = some (.int a) ∧ zGM A' f)) := by
  have hT := g2.tb hb.2.1
  obtain ⟨t, ht, C⟩ := g1.sc
  have vC : pI f1 0 9 = A.1.2.2.1.2.2.2.1 := g1.1.2.2.2.2.1.2.2.2.1
  have vM : pI f2 0 82 = A.1.2.2.1.2.2.2.1 := g2.1.2.2.2.2.1.2.2.2.1
  refine ⟨Int32.ofInt (goQ A.2 x.toInt), zGs A (goX A.1.2.2.2.1 A.1.2.2.2.2 A.2 x.toInt) A.1.2.2.1.2.2.2.1, ⟨hb.1, hb.2.1, (XB.go hT hb.2.2 x.toInt).le (by omega)⟩, fun Γ => ?_, fun Γ => ?_⟩
  · refine (fcGo ht hT hb.2.2 (by omega) g1.1.1 C x).mono ?_
    rintro r h' ⟨⟨a, e, ea⟩, i1, m1, s1⟩
    exact ⟨by rw [e, i32of ea], g1.st i1 m1 (MGo_g1 ht) s1 ((pI_md m1 (MGo_g9 ht)).trans vC)⟩
  · refine (fmGo hT hb.2.2 (by omega) g2.1.1 g2.sm x).mono ?_
    rintro r h' ⟨⟨a, e, ea⟩, i1, m1, s1⟩
    exact ⟨by rw [e, i32of ea], g2.st i1 m1 (by decide +kernel) s1 ((pI_md m1 rfl).trans vM)⟩
/-- undo -/
theorem zps38 (l : Launch) {f1 f2 : zH} {A : zGb} (g1 : zGC A f1) (g2 : zGM A f2) {n : Int} (h0 : 0 ≤ n ∧ n ≤ 1990000000) (hb : zGB n A) : ∃ (a : Int32) (A' : zGb), zGB (n + 400000) A' ∧ (∀ Γ : zG, zSem l Γ false 10 (zhd 171) [.ref 0] f1 (fun r f => r = some (.int a) ∧ zGC A' f)) ∧ (∀ Γ : zG, zSem l Γ false 10 (zhd 306) [.ref 0] f2 (fun r f => r = some (.int a) ∧ zGM A' f)) := by
  have hT := g2.tb hb.2.1
  obtain ⟨t, ht, C⟩ := g1.sc
  have vC : pI f1 0 9 = A.1.2.2.1.2.2.2.1 := g1.1.2.2.2.2.1.2.2.2.1
  have vM : pI f2 0 82 = A.1.2.2.1.2.2.2.1 := g2.1.2.2.2.2.1.2.2.2.1
  refine ⟨Int32.ofInt (unN A.2), zGs A (unX A.2) A.1.2.2.1.2.2.2.1, ⟨hb.1, hb.2.1, (XB.un hb.2.2).le (by omega)⟩, fun Γ => ?_, fun Γ => ?_⟩
  · refine (fcUndo ht hb.2.2 (by omega) g1.1.1 C).mono ?_
    rintro r h' ⟨⟨a, e, ea⟩, i1, m1, s1⟩
    exact ⟨by rw [e, i32of ea], g1.st i1 m1 (by decide +kernel) s1 ((pI_md m1 rfl).trans vC)⟩
  · refine (fmUndo hT hb.2.2 g2.1.1 g2.sm).mono ?_
    rintro r h' ⟨⟨a, e, ea⟩, i1, m1, s1⟩
    exact ⟨by rw [e, i32of ea], g2.st i1 m1 (by decide +kernel) s1 ((pI_md m1 rfl).trans vM)⟩
/-- keep -/
theorem zps39 (l : Launch) {f1 f2 : zH} {A : zGb} (g1 : zGC A f1) (g2 : zGM A f2) {n : Int} (h0 : 0 ≤ n ∧ n ≤ 1990000000) (hb : zGB n A) : ∃ (a : Int32) (A' : zGb), zGB (n + 400000) A' ∧ (∀ Γ : zG, zSem l Γ false 10 (zhd 173) [.ref 0] f1 (fun r f => r = some (.int a) ∧ zGC A' f)) ∧ (∀ Γ : zG, zSem l Γ false 10 (zhd 308) [.ref 0] f2 (fun r f => r = some (.int a) ∧ zGM A' f)) := by
  have hT := g2.tb hb.2.1
  obtain ⟨t, ht, C⟩ := g1.sc
  have vC : pI f1 0 9 = A.1.2.2.1.2.2.2.1 := g1.1.2.2.2.2.1.2.2.2.1
  have vM : pI f2 0 82 = A.1.2.2.1.2.2.2.1 := g2.1.2.2.2.2.1.2.2.2.1
  refine ⟨Int32.ofInt (A.2.1 6 0), zGs A (keX A.2) 1, ⟨hb.1, hb.2.1, (XB.ke hb.2.2).le (by omega)⟩, fun Γ => ?_, fun Γ => ?_⟩
  · refine (fcKeep ht g1.1.1 C).mono ?_
    rintro r h' ⟨⟨a, e, ea⟩, i1, m1, s1, q⟩
    exact ⟨by rw [e, i32of ea], g1.st i1 m1 (by decide +kernel) s1 q⟩
  · refine (fmKeep hT g2.1.1 g2.sm).mono ?_
    rintro r h' ⟨⟨a, e, ea⟩, i1, m1, s1, q⟩
    exact ⟨by rw [e, i32of ea], g2.st i1 m1 (by decide +kernel) s1 q⟩
/-- back -/
theorem zps40 (l : Launch) {f1 f2 : zH} {A : zGb} (g1 : zGC A f1) (g2 : zGM A f2) {n : Int} (h0 : 0 ≤ n ∧ n ≤ 1990000000) (hb : zGB n A) : ∃ (a : Int32) (A' : zGb), zGB (n + 400000) A' ∧ (∀ Γ : zG, zSem l Γ false 10 (zhd 174) [.ref 0] f1 (fun r f => r = some (.int a) ∧ zGC A' f)) ∧ (∀ Γ : zG, zSem l Γ false 10 (zhd 309) [.ref 0] f2 (fun r f => r = some (.int a) ∧ zGM A' f)) := by
  have hT := g2.tb hb.2.1
  obtain ⟨t, ht, C⟩ := g1.sc
  have vC : pI f1 0 9 = A.1.2.2.1.2.2.2.1 := g1.1.2.2.2.2.1.2.2.2.1
  have vM : pI f2 0 82 = A.1.2.2.1.2.2.2.1 := g2.1.2.2.2.2.1.2.2.2.1
  refine ⟨Int32.ofInt (if A.1.2.2.1.2.2.2.1 = 1 then A.2.2.1 6 0 else -1), zGs A (baX A.2 A.1.2.2.1.2.2.2.1) A.1.2.2.1.2.2.2.1, ⟨hb.1, hb.2.1, (XB.ba hb.2.2 _).le (by omega)⟩, fun Γ => ?_, fun Γ => ?_⟩
  · refine (fcBack ht g1.1.1 C).mono ?_
    rintro r h' ⟨⟨a, e, ea⟩, i1, m1, s1⟩
    rw [vC] at ea s1
    exact ⟨by rw [e, i32of ea], g1.st i1 m1 (by decide +kernel) s1 ((pI_md m1 rfl).trans vC)⟩
  · refine (fmBack hT g2.1.1 g2.sm).mono ?_
    rintro r h' ⟨⟨a, e, ea⟩, i1, m1, s1⟩
    rw [vM] at ea s1
    exact ⟨by rw [e, i32of ea], g2.st i1 m1 (by decide +kernel) s1 ((pI_md m1 rfl).trans vM)⟩
