/-! the reference's token as a whole -/
def zcrB (mi pc ci n cl : Nat) : Bool := zcvB mi pc ci n cl
theorem zcallR {l : Launch} {Γ : zG} {d mi pc ci n cl q0 : Nat} {Kp : Option Value → zH → Prop} {lo : zL} {as rest : List Value} {h : zH} (hc : zcvB mi pc ci n cl = true) (hn : as.length = n) (hz : zwd rest ≤ 8) (hh : h.1[q0]? = some (0, ci))
    (hs : zSem l Γ false d (zhd cl) (.ref q0 :: as.reverse) h (fun r h' => zX l Γ false (d + 1) (zhd mi) (zMQ' Γ false (zhd mi) Kp) 0 0 (pc + 3) lo (r.toList ++ rest) h')) : zX l Γ false (d + 1) (zhd mi) (zMQ' Γ false (zhd mi) Kp) 0 0 pc lo (as ++ .ref q0 :: rest) h := by
  simp only [zcvB, Bool.and_eq_true, decide_eq_true_eq] at hc
  obtain ⟨c1, c2, c3, c4, c5⟩ := hc
  obtain ⟨q1, q2⟩ := zallP_get _ zCodes_ok mi
  rw [c1] at q1 q2
  split at c5
  · rename_i pc' x y c n' ci' z1 z2 e
    simp only [Bool.and_eq_true, beq_iff_eq] at c5
    obtain ⟨e1, e2, e3, e4⟩ := c5
    refine zstep_ok (M := (zhd mi, (zCodes.get mi).2)) (ρ := Prop) (bad := False) (tr := fun P => P) (sc := none) (G := sGp l Γ d) (K := Kp) (C := fun cs ss pc l' st' h => zX l Γ false (d + 1) (zhd mi) (zMQ' Γ false (zhd mi) Kp) cs ss pc l' st' h) (fun h => h) q1 (fun mi args h K' _ h1 => h1.2) (fun args h K' h1 => absurd rfl h1.1) (fun x hx => by cases hx) (fun _ _ _ _ h => h) (fun _ _ _ _ _ _ h => h) ?_
    unfold zstep
    rw [e]
    show (if pc' = pc then _ else _)
    rw [if_pos e1, e2, e3, e4]
    have d1 : (as ++ (.ref q0 : Value) :: rest).drop n = .ref q0 :: rest := by rw [← hn, List.drop_left]
    have d2 : (as ++ (.ref q0 : Value) :: rest).take n = as := by rw [← hn, List.take_left]
    simp only [zins, d1, d2]
    rw [if_pos ⟨hz, hn, by rw [c3]; exact Nat.zero_le _, by rw [c4]; exact Nat.zero_le _, hh⟩]
    refine ⟨c2, ?_⟩
    rw [c3, c4]
    exact hs.mono (fun r h' hx => hx)
  · cases c5
theorem zv_t0 : zcvB 195 124 12 2 197 = true := by decide +kernel
theorem zv_t1 : zcvB 195 183 12 2 198 = true := by decide +kernel
theorem zv_t2 : zcvB 195 278 12 0 200 = true := by decide +kernel
/-! behind wordAt -/
set_option maxRecDepth 100000 in
set_option maxHeartbeats 4000000 in
theorem zkW2 {l : Launch} {Γ : zG} {d : Nat} {Kp : Option Value → zH → Prop} {I : zHI} {Lg : zHL} {P : zHP} {R : Int32} {m : Int} (hm : (I 0 7 - I 0 10).toInt = m)
    (h0 : 0 ≤ R.toInt → Kp none (zshM, zu2 (zu2 I 0 9 R) 0 8 (Int32.ofInt 1), Lg, P)) (h1 : R.toInt < 0 → 6 < m → Kp none (zshM, zu2 (zu2 I 0 9 R) 0 8 (Int32.ofInt 6), Lg, P))
    (h2 : R.toInt < 0 → m ≤ 6 → zXt l Γ d Kp 183 [.int (I 0 7), .int (I 0 10), .ref 0, .ref 0] (zshM, zu2 (zu2 I 0 9 R) 0 8 (Int32.ofInt 2), Lg, P)) : zXt l Γ d Kp 127 [.int R, .ref 0] (zshM, I, Lg, P) := by
  refine zpcF (M := (zh195, zc195)) 195 183 rfl zckm195 (fun _ _ _ _ h => h) ?_
  by_cases hr : R.toInt < 0
  · refine zdecT (show R < 0 from dlt (by rw [show (0 : Int32).toInt = 0 from by decide]; exact hr)) (fun _ => ?_)
    by_cases h6 : m ≤ 6
    · refine zdecT (show I 0 7 - I 0 10 ≤ Int32.ofInt 6 from dle (by rw [hm, oI (by decide) (by decide)]; exact h6)) (fun _ => ?_)
      exact h2 hr h6
    · refine zdecF (show ¬ I 0 7 - I 0 10 ≤ Int32.ofInt 6 from dlen (by rw [hm, oI (by decide) (by decide)]; omega)) (fun _ => ?_)
      exact h1 hr (by omega)
  · refine zdecF (show ¬ R < 0 from dltn (by rw [show (0 : Int32).toInt = 0 from by decide]; omega)) (fun _ => ?_)
    exact h0 (by omega)
set_option maxRecDepth 100000 in
set_option maxHeartbeats 4000000 in
theorem zkW3 {l : Launch} {Γ : zG} {d : Nat} {Kp : Option Value → zH → Prop} {I : zHI} {Lg : zHL} {P : zHP} {v : Int32} (hK : Kp none (zshM, zu2 I 0 9 v, Lg, P)) : zXt l Γ d Kp 186 [.int v, .ref 0] (zshM, I, Lg, P) := by
  refine zpcF (M := (zh195, zc195)) 195 1000 rfl zckm195 (fun _ _ _ _ h => h) ?_
  exact hK
set_option maxRecDepth 100000 in
set_option maxHeartbeats 4000000 in
theorem zkRr {l : Launch} {Γ : zG} {d : Nat} {Kp : Option Value → zH → Prop} {h : zH} (hK : Kp none h) : zXt l Γ d Kp 281 [] h := by
  refine zpcF (M := (zh195, zc195)) 195 1000 rfl zckm195 (fun _ _ _ _ h => h) ?_
  exact hK
