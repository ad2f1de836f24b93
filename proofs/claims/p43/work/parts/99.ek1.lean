/-! comes -/
def cmS (N : zN) (b : Int) (p : Nat) : Int := if sgfn 2 (sgfn 4 b (N 9 p)) 1 = 1 then sgfn 0 b (sgfn 3 1 (N 10 p)) else b
def cmR (N : zN) : Nat → Nat → Int → Int
  | 0, _, b => b
  | m + 1, p, b => cmR N m (p + 1) (cmS N b p)
def cmK (N : zN) (P : Nat) : Nat → Int → Int
  | 0, b => b
  | k + 1, b => cmK N P k (cmR N P 0 b)
def cmA (N : zN) (S : zS) (g : Int) : Int := if 0 ≤ g ∧ g < (S 1 : Int) then cmK N (S 3) 8 (sgfn 3 1 g) else -1
theorem i32rg {N : zN} {v : Int} {h : zH} {q j : Nat} (e : pI h q j = v) : -2147483648 ≤ v ∧ v ≤ 2147483647 := by
  rw [← e]
  exact i32bd _
theorem cmC_p {l : Launch} {Γ : zG} {d t : Nat} (hd : 1 ≤ d) (ht : t < 2) {Kp : Option Value → zH → Prop} {N : zN} {S : zS} {h0 : zH} {k : Int} (hk : 0 ≤ k ∧ k ≤ 7) (hP : S 3 ≤ 10) (hC : CTt t N S h0) : ∀ (m p : Nat) (lo : zL) (h : zH) (b : Int), p + m = S 3 → sInv swC h → sMd [] h0 h → zget lo 0 = some (.ref 79) → zget lo 1 = some (.ref (17 * t + 9)) → zI lo 3 b → zI lo 4 k → zI lo 5 (p : Int) →
    (∀ lo' h', sInv swC h' → sMd [] h0 h' → zget lo' 0 = some (.ref 79) → zget lo' 1 = some (.ref (17 * t + 9)) → zI lo' 3 (cmR N m p b) → zI lo' 4 (k + 1) → zX l Γ false (d + 1) (zhd 137) (zMQ' Γ false (zhd 137) Kp) 0 0 7 lo' [] h') → zX l Γ false (d + 1) (zhd 137) (zMQ' Γ false (zhd 137) Kp) 0 0 17 lo [] h := by
  intro m
  induction m with
  | zero =>
    intro p lo h b hp hi hm l0 l1 l3 l4 l5 hE
    have hT := hC.md ht hm rfl
    exact cmC3 (by omega) ht (n := (S 3 : Int)) hi l3.bd ⟨by omega, by omega⟩ ⟨by omega, by omega⟩ ⟨by omega, by omega⟩ l0 l1 l3 l4 l5 hT.2.1.2.2.2.1 (by omega) (fun lo' h' i1 m1 g0 g1 g3 g4 => hE lo' h' i1 (hm.seq m1) g0 g1 g3 g4)
  | succ m ih =>
    intro p lo h b hp hi hm l0 l1 l3 l4 l5 hE
    have hT := hC.md ht hm rfl
    obtain ⟨q0, q1, -, -⟩ := hT.2.2.2.2.1 p (by omega)
    refine cmC2 hd (p := p) (by omega) ht (n := (S 3 : Int)) hi l3.bd ⟨by omega, by omega⟩ ⟨by omega, by omega⟩ (i32rg (N := N) q0) (i32rg (N := N) q1) l0 l1 l3 l4 l5 hT.2.1.2.2.2.1 q0 q1 (fun lo' h' w0 w1 w2 w3 i1 m1 e0 e1 e2 e3 e4 g0 g1 g3 g4 g5 => ?_) (fun lo' h' w0 w1 i1 m1 e0 e1 e2 g0 g1 g3 g4 g5 => ?_)
    · refine ih (p + 1) lo' h' w1 (by omega) i1 (hm.seq m1) g0 g1 g3 g4 g5 (fun lo2 h2 i2 m2 r0 r1 r3 r4 => hE lo2 h2 i2 m2 r0 r1 ?_ r4)
      have e : cmS N b p = w1 := by
        unfold cmS
        rw [← e2, ← e3, if_pos e4, ← e0, ← e1]
      show zI lo2 3 (cmR N m (p + 1) (cmS N b p))
      rw [e]
      exact r3
    · refine ih (p + 1) lo' h' b (by omega) i1 (hm.seq m1) g0 g1 g3 g4 g5 (fun lo2 h2 i2 m2 r0 r1 r3 r4 => hE lo2 h2 i2 m2 r0 r1 ?_ r4)
      have e : cmS N b p = b := by
        unfold cmS
        rw [← e0, ← e1, if_neg e2]
      show zI lo2 3 (cmR N m (p + 1) (cmS N b p))
      rw [e]
      exact r3
theorem cmC_k {l : Launch} {Γ : zG} {d t : Nat} (hd : 1 ≤ d) (ht : t < 2) {Kp : Option Value → zH → Prop} {N : zN} {S : zS} {h0 : zH} (hP : S 3 ≤ 10) (hC : CTt t N S h0) : ∀ (m : Nat) (lo : zL) (h : zH) (b : Int), m ≤ 8 → sInv swC h → sMd [] h0 h → zget lo 0 = some (.ref 79) → zget lo 1 = some (.ref (17 * t + 9)) → zI lo 3 b → zI lo 4 (8 - (m : Int)) →
    (∀ (y : Int32) h', sInv swC h' → sMd [] h0 h' → y.toInt = cmK N (S 3) m b → Kp (some (.int y)) h') → zX l Γ false (d + 1) (zhd 137) (zMQ' Γ false (zhd 137) Kp) 0 0 7 lo [] h := by
  intro m
  induction m with
  | zero =>
    intro lo h b hm8 hi hm l0 l1 l3 l4 hE
    exact cmC1 (by omega) ht hi l3.bd ⟨by omega, by omega⟩ l0 l1 l3 l4 (fun lo' h' i1 m1 c => by omega) (fun h' y i1 m1 c e => hE y h' i1 (hm.seq m1) e)
  | succ m ih =>
    intro lo h b hm8 hi hm l0 l1 l3 l4 hE
    refine cmC1 (by omega) ht hi l3.bd ⟨by omega, by omega⟩ l0 l1 l3 l4 (fun lo' h' i1 m1 c g0 g1 g3 g4 g5 => ?_) (fun h' y i1 m1 c e => by omega)
    refine cmC_p hd ht ⟨by omega, by omega⟩ hP hC (S 3) 0 lo' h' b (by omega) i1 (hm.seq m1) g0 g1 g3 g4 g5 (fun lo2 h2 i2 m2 r0 r1 r3 r4 => ?_)
    exact ih lo2 h2 _ (by omega) i2 m2 r0 r1 r3 (by
      have e : 8 - ((m + 1 : Nat) : Int) + 1 = 8 - (m : Int) := by omega
      rw [← e]
      exact r4) (fun y h3 i3 m3 e => hE y h3 i3 m3 e)
theorem cmM_p {l : Launch} {Γ : zG} {d : Nat} (hd : 1 ≤ d) {Kp : Option Value → zH → Prop} {N : zN} {S : zS} {h0 : zH} {k : Int} (hk : 0 ≤ k ∧ k ≤ 7) (hC : TMt N S h0) : ∀ (m p : Nat) (lo : zL) (h : zH) (b : Int), p + m = S 3 → sInv swM h → sMd [] h0 h → zget lo 0 = some (.ref 0) → zI lo 2 b → zI lo 3 k → zI lo 4 (p : Int) →
    (∀ lo' h', sInv swM h' → sMd [] h0 h' → zget lo' 0 = some (.ref 0) → zI lo' 2 (cmR N m p b) → zI lo' 3 (k + 1) → zX l Γ false (d + 1) (zhd 276) (zMQ' Γ false (zhd 276) Kp) 0 0 21 lo' [] h') → zX l Γ false (d + 1) (zhd 276) (zMQ' Γ false (zhd 276) Kp) 0 0 30 lo [] h := by
  have hP := hC.2.1.2.2.2.1
  intro m
  induction m with
  | zero =>
    intro p lo h b hp hi hm l0 l2 l3 l4 hE
    have hT := hC.md hm rfl
    exact cmM3 (by omega) (n := (S 3 : Int)) hi l2.bd ⟨by omega, by omega⟩ ⟨by omega, by omega⟩ ⟨by omega, by omega⟩ l0 l2 l3 l4 hT.1.2.2.2.1 (by omega) (fun lo' h' i1 m1 g0 g2 g3 => hE lo' h' i1 (hm.seq m1) g0 g2 g3)
  | succ m ih =>
    intro p lo h b hp hi hm l0 l2 l3 l4 hE
    have hT := hC.md hm rfl
    obtain ⟨q0, q1, -, -⟩ := hT.2.2.2.2.2.1 p (by omega)
    refine cmM2 hd (p := p) (by omega) (n := (S 3 : Int)) hi l2.bd ⟨by omega, by omega⟩ ⟨by omega, by omega⟩ (i32rg (N := N) q0) (i32rg (N := N) q1) l0 l2 l3 l4 hT.1.2.2.2.1 q0 q1 (fun lo' h' w0 w1 w2 w3 i1 m1 e0 e1 e2 e3 e4 g0 g2 g3 g4 => ?_) (fun lo' h' w0 w1 w2 i1 m1 e0 e1 e2 e3 g0 g2 g3 g4 => ?_)
    · refine ih (p + 1) lo' h' w1 (by omega) i1 (hm.seq m1) g0 g2 g3 g4 (fun lo2 h2 i2 m2 r0 r2 r3 => hE lo2 h2 i2 m2 r0 ?_ r3)
      have e : cmS N b p = w1 := by
        unfold cmS
        rw [← e2, ← e3, if_pos e4, ← e0, ← e1]
      show zI lo2 2 (cmR N m (p + 1) (cmS N b p))
      rw [e]
      exact r2
    · have e0 : w0 = b := by
        rw [e0]
        obtain ⟨x, -, rfl⟩ := l2
        show (Int32.ofInt x.toInt ||| Int32.ofInt 0).toInt = x.toInt
        rw [Int32.ofInt_toInt]
        exact congrArg Int32.toInt (Int32.or_zero)
      rw [e0] at g2
      refine ih (p + 1) lo' h' b (by omega) i1 (hm.seq m1) g0 g2 g3 g4 (fun lo2 h2 i2 m2 r0 r2 r3 => hE lo2 h2 i2 m2 r0 ?_ r3)
      have e : cmS N b p = b := by
        unfold cmS
        rw [← e1, ← e2, if_neg e3]
      show zI lo2 2 (cmR N m (p + 1) (cmS N b p))
      rw [e]
      exact r2
theorem cmM_k {l : Launch} {Γ : zG} {d : Nat} (hd : 1 ≤ d) {Kp : Option Value → zH → Prop} {N : zN} {S : zS} {h0 : zH} (hC : TMt N S h0) : ∀ (m : Nat) (lo : zL) (h : zH) (b : Int), m ≤ 8 → sInv swM h → sMd [] h0 h → zget lo 0 = some (.ref 0) → zI lo 2 b → zI lo 3 (8 - (m : Int)) →
    (∀ (y : Int32) h', sInv swM h' → sMd [] h0 h' → y.toInt = cmK N (S 3) m b → Kp (some (.int y)) h') → zX l Γ false (d + 1) (zhd 276) (zMQ' Γ false (zhd 276) Kp) 0 0 21 lo [] h := by
  intro m
  induction m with
  | zero =>
    intro lo h b hm8 hi hm l0 l2 l3 hE
    exact cmM1 (by omega) hi l2.bd ⟨by omega, by omega⟩ l0 l2 l3 (fun lo' h' i1 m1 c => by omega) (fun h' y i1 m1 c e => hE y h' i1 (hm.seq m1) e)
  | succ m ih =>
    intro lo h b hm8 hi hm l0 l2 l3 hE
    refine cmM1 (by omega) hi l2.bd ⟨by omega, by omega⟩ l0 l2 l3 (fun lo' h' i1 m1 c g0 g2 g3 g4 => ?_) (fun h' y i1 m1 c e => by omega)
    refine cmM_p hd ⟨by omega, by omega⟩ hC (S 3) 0 lo' h' b (by omega) i1 (hm.seq m1) g0 g2 g3 g4 (fun lo2 h2 i2 m2 r0 r2 r3 => ?_)
    exact ih lo2 h2 _ (by omega) i2 m2 r0 r2 (by
      have e : 8 - ((m + 1 : Nat) : Int) + 1 = 8 - (m : Int) := by omega
      rw [← e]
      exact r3) (fun y h3 i3 m3 e => hE y h3 i3 m3 e)
theorem i32of {x : Int32} {v : Int} (e : x.toInt = v) : x = Int32.ofInt v := by rw [← e, Int32.ofInt_toInt]
theorem zv_cm : zcvB 136 19 9 2 137 = true := by decide +kernel
theorem cmC {l : Launch} {Γ : zG} {d t : Nat} (hd : 1 ≤ d) (ht : t < 2) {N : zN} {S : zS} {h : zH} (hi : sInv swC h) (hP : S 3 ≤ 10) (hC : CTt t N S h) {x : Int32} (h0 : 0 ≤ x.toInt) (h7 : x.toInt ≤ 7) : zSem l Γ false (d + 1) (zhd 137) [.ref 79, .ref (17 * t + 9), .int x] h (fun r h' => sInv swC h' ∧ sMd [] h h' ∧ ∃ y : Int32, r = some (.int y) ∧ y.toInt = cmK N (S 3) 8 (sgfn 3 1 x.toInt)) := by
  refine cmC0 (by omega) ht (g := x.toInt) hi ⟨h0, h7⟩ rfl (fun lo' h' w0 i1 m1 e0 g0 g1 g3 g4 => ?_)
  rw [← e0]
  exact cmC_k hd ht hP hC 8 lo' h' w0 (by decide) i1 m1 g0 g1 g3 g4 (fun y h3 i3 m3 e => ⟨i3, m3, y, rfl, e⟩)
theorem zcmC (l : Launch) (Γ : zG) {f : zH} {A : zAb} (g : zRC A f) (hP : A.2.2.2.2 3 ≤ 10) (h8 : A.2.2.2.2 1 ≤ 8) (x : Int32) : zSem l Γ false 10 (zhd 136) [.ref 0, .int x] f (fun r f' => r = some (.int (Int32.ofInt (cmA A.2.2.2.1 A.2.2.2.2 x.toInt))) ∧ zRC A f') := by
  obtain ⟨t, ht, hC⟩ := CT.t g.2.2.2.2.2
  have q : ∀ f', sInv swC f' → sMd [] f f' → zRC A f' := fun f' i m => g.md i m (by decide +kernel)
  have eN : ¬ (0 ≤ x.toInt ∧ x.toInt < (A.2.2.2.2 1 : Int)) → cmA A.2.2.2.1 A.2.2.2.2 x.toInt = -1 := fun hn => if_neg hn
  refine cmT0 (d := 9) (by decide) ht (x := x.toInt) (n := (A.2.2.2.2 1 : Int)) g.1 (i32bd x) ⟨by omega, by omega⟩ rfl hC.2.1.2.1 hC.1 (fun lo' h' y0 i1 m1 c0 c1 c2 e => ?_) (fun h' r_ i1 m1 c0 e => ?_) (fun h' r_ i1 m1 c0 c1 e => ?_) (fun h' r_ i1 m1 c0 c1 c2 e => ?_)
  · refine zcallR (mi := 136) (as := [.int y0, .ref (17 * t + 9)]) (rest := []) (q0 := 79) zv_cm rfl (by decide) (by rw [i1.1]; rfl) ?_
    refine (cmC (d := 8) (by decide) ht i1 hP (hC.md ht m1 rfl) (x := y0) (by omega) (by omega)).mono ?_
    rintro r h2 ⟨i2, m2, y, rfl, ey⟩
    refine cmT1 (d := 9) (by decide) (y := y.toInt) i2 (i32bd y) rfl (fun h3 r_ i3 m3 e3 => ⟨?_, q h3 i3 ((m1.seq m2).seq m3)⟩)
    rw [i32of (e3.trans ey), show cmA A.2.2.2.1 A.2.2.2.2 x.toInt = cmK A.2.2.2.1 (A.2.2.2.2 3) 8 (sgfn 3 1 x.toInt) from if_pos ⟨by omega, by omega⟩, e]
  · rw [eN (by omega), i32of e]
    exact ⟨rfl, q h' i1 m1⟩
  · rw [eN (by omega), i32of e]
    exact ⟨rfl, q h' i1 m1⟩
  · rw [eN (by omega), i32of e]
    exact ⟨rfl, q h' i1 m1⟩
theorem zcmM (l : Launch) (Γ : zG) {f : zH} {A : zAb} (g : zRM A f) (x : Int32) : zSem l Γ false 10 (zhd 276) [.ref 0, .int x] f (fun r f' => r = some (.int (Int32.ofInt (cmA A.2.2.2.1 A.2.2.2.2 x.toInt))) ∧ zRM A f') := by
  have hC := TM.t g.1 g.2.2.2.2.2
  have h8 := hC.2.1.2.1
  have q : ∀ f', sInv swM f' → sMd [(0, 2, 3)] f f' → zRM A f' := fun f' i m => g.md i m (by decide +kernel)
  have eN : ¬ (0 ≤ x.toInt ∧ x.toInt < (A.2.2.2.2 1 : Int)) → cmA A.2.2.2.1 A.2.2.2.2 x.toInt = -1 := fun hn => if_neg hn
  refine cmU0 (d := 9) (by decide) (x := x.toInt) (n := (A.2.2.2.2 1 : Int)) g.1 (i32bd x) ⟨by omega, by omega⟩ rfl hC.1.2.1 (fun lo' h' w0 i1 m1 e0 c0 c1 _ g0 g2 g3 => ?_) (fun h' r_ i1 m1 c0 _ e => ?_) (fun h' r_ i1 m1 c0 c1 _ e => ?_)
  · refine cmM_k (d := 9) (by decide) (hC.md m1 (by decide)) 8 lo' h' w0 (by decide) i1 sMd.rf g0 g2 g3 (fun y h3 i3 m3 e => ⟨?_, q h3 i3 (m1.seq (m3.sub rfl))⟩)
    rw [i32of e, show cmA A.2.2.2.1 A.2.2.2.2 x.toInt = cmK A.2.2.2.1 (A.2.2.2.2 3) 8 (sgfn 3 1 x.toInt) from if_pos ⟨by omega, by omega⟩, e0]
  · rw [eN (by omega), i32of e]
    exact ⟨rfl, q h' i1 m1⟩
  · rw [eN (by omega), i32of e]
    exact ⟨rfl, q h' i1 m1⟩
theorem zpr18 (l : Launch) {f1 f2 : zH} {A : zAb} (g1 : zRC A f1) (g2 : zRM A f2) (hb : zB4 A.2.2.1) (x1 : Int32) : ∃ (a : Int32) (A' : zAb), zB4 A'.2.2.1 ∧ (∀ Γ : zG, zSem l Γ false 10 (zhd 136) [.ref 0, .int x1] f1 (fun r f => r = some (.int a) ∧ zRC A' f)) ∧ (∀ Γ : zG, zSem l Γ false 10 (zhd 276) [.ref 0, .int x1] f2 (fun r f => r = some (.int a) ∧ zRM A' f)) := by
  have hC := TM.t g2.1 g2.2.2.2.2.2
  exact ⟨_, A, hb, fun Γ => zcmC l Γ g1 hC.2.1.2.2.2.1 hC.2.1.2.1 x1, fun Γ => zcmM l Γ g2 x1⟩
