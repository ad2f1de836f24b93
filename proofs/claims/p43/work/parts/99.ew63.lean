/-! sums, SHORT ones, count -/
theorem zcallT {l : Launch} {Γ : zG} {d mi pc n cl : Nat} {Kp : Option Value → zH → Prop} {lo : zL} {as rest : List Value} {h : zH} (hc : zcsB mi pc n cl = true) (hn : as.length = n) (hz : zwd rest ≤ 8)
    (hs : zSem l Γ false d (zhd cl) as.reverse h (fun r h' => zX l Γ false (d + 1) (zhd mi) (zMQ' Γ false (zhd mi) Kp) 0 0 (pc + 3) lo (r.toList ++ rest) h')) : zX l Γ false (d + 1) (zhd mi) (zMQ' Γ false (zhd mi) Kp) 0 0 pc lo (as ++ rest) h := by
  simp only [zcsB, Bool.and_eq_true, decide_eq_true_eq] at hc
  obtain ⟨c1, c2, c3, c4, c5⟩ := hc
  obtain ⟨q1, q2⟩ := zallP_get _ zCodes_ok mi
  rw [c1] at q1 q2
  split at c5
  · rename_i pc' x y c n' z1 z2 z3 e
    simp only [Bool.and_eq_true, beq_iff_eq] at c5
    obtain ⟨e1, e2, e3⟩ := c5
    refine zstep_ok (M := (zhd mi, (zCodes.get mi).2)) (ρ := Prop) (bad := False) (tr := fun P => P) (sc := none) (G := sGp l Γ d) (K := Kp) (C := fun cs ss pc l' st' h => zX l Γ false (d + 1) (zhd mi) (zMQ' Γ false (zhd mi) Kp) cs ss pc l' st' h) (fun h => h) q1 (fun mi args h K' _ h1 => h1.2) (fun args h K' h1 => absurd rfl h1.1) (fun x hx => by cases hx) (fun _ _ _ _ h => h) (fun _ _ _ _ _ _ h => h) ?_
    unfold zstep
    rw [e]
    show (if pc' = pc then _ else _)
    rw [if_pos e1, e2, e3]
    have d1 : (as ++ rest).drop n = rest := by rw [← hn, List.drop_left]
    have d2 : (as ++ rest).take n = as := by rw [← hn, List.take_left]
    simp only [zins, d1, d2]
    rw [if_pos ⟨hz, hn, by rw [c3]; exact Nat.zero_le _, by rw [c4]; exact Nat.zero_le _⟩]
    refine ⟨c2, ?_⟩
    rw [c3, c4]
    exact hs.mono (fun r h' hx => hx)
  · cases c5
theorem suF_z0 {v : Nat → Int} : ∀ (k g : Nat) (a : Int), (∀ j, g ≤ j → j < g + k → v j = 0) → suF v k g a = a
  | 0, _, _, _ => rfl
  | k + 1, g, a, h => by
    have t := suF_z0 k (g + 1) (a + v g) (fun j p q => h j (by omega) (by omega))
    simp only [suF]
    rw [t, h g (Nat.le_refl _) (by omega), Int.add_zero]
theorem suF_z {v : Nat → Int} : ∀ (m k g : Nat) (a : Int), (∀ j, g + m ≤ j → j < g + m + k → v j = 0) → suF v (m + k) g a = suF v m g a
  | 0, k, g, a, h => by
    rw [Nat.zero_add]
    exact suF_z0 k g a (fun j p q => h j (by omega) (by omega))
  | m + 1, k, g, a, h => by
    have t := suF_z m k (g + 1) (a + v g) (fun j p q => h j (by omega) (by omega))
    rw [show m + 1 + k = m + k + 1 from by omega]
    simp only [suF]
    exact t
theorem suF_add {u v : Nat → Int} : ∀ (m g : Nat) (a b : Int), suF (fun j => u j + v j) m g (a + b) = suF u m g a + suF v m g b
  | 0, _, _, _ => rfl
  | m + 1, g, a, b => by
    have t := suF_add (u := u) (v := v) m (g + 1) (a + u g) (b + v g)
    simp only [suF]
    rw [show a + b + (u g + v g) = a + u g + (b + v g) from by omega]
    exact t
/-- a sum over all eight is one over the GLASSES that are told -/
theorem suF_8 {v : Nat → Int} {n : Nat} (hn : n ≤ 8) (h : ∀ g, n ≤ g → g < 8 → v g = 0) : suF v 8 0 0 = suF v n 0 0 := by
  have t := suF_z (v := v) n (8 - n) 0 0 (fun j p q => h j (by omega) (by omega))
  rw [show n + (8 - n) = 8 from by omega] at t
  exact t
theorem zSuC {l : Launch} {Γ : zG} {d : Nat} {h0 : zH} {u j q : Nat} (hu : u < 2) (hj : j < 4) (hq : q = j + 12 * u + 44) {v : Nat → Int} (hv : ∀ g, g < 8 → pI h0 q g = v g ∧ 0 ≤ v g ∧ v g ≤ 205800000) (hi0 : sInv swC h0) : zSem l Γ false (d + 1) (zhd 114) [.ref q] h0 (fun r h' => ∃ a : Int32, r = some (.int a) ∧ a.toInt = suF v 8 0 0 ∧ sInv swC h' ∧ sMd [] h0 h') := by
  subst hq
  generalize hV : suF v 8 0 0 = vv
  have loop : ∀ (m g : Nat) (a : Int) (lo : zL) (h : zH), g + m = 8 → (0 ≤ a ∧ a ≤ 205800000 * (g : Int)) → suF v m g a = vv → sInv swC h → sMd [] h0 h → zget lo 0 = some (.ref (j + 12 * u + 44)) → zI lo 1 a → zI lo 2 (g : Int) → zX l Γ false (d + 1) (zhd 114) (zMQ' Γ false (zhd 114) (fun r h' => ∃ a : Int32, r = some (.int a) ∧ a.toInt = vv ∧ sInv swC h' ∧ sMd [] h0 h')) 0 0 4 lo [] h := by
    intro m
    induction m with
    | zero =>
      intro g a lo h hg ha hv' hi hm l0 l1 l2
      obtain rfl : g = 8 := by omega
      exact ksA2 (d := d) (by omega) hj hu hi (by omega) l0 l1 l2 (fun h' r i1 m1 hr => ⟨r, rfl, hr.trans hv', i1, hm.seq (m1.sub rfl)⟩)
    | succ m ih =>
      intro g a lo h hg ha hv' hi hm l0 l1 l2
      have g8 : g < 8 := by omega
      obtain ⟨c0, c1, c2⟩ := hv g g8
      simp only [suF] at hv'
      exact ksA1 (d := d) (by omega) g8 hj hu (v := v g) hi (by omega) (by omega) l0 l1 l2 ((pI_md hm rfl).trans c0) (fun lo1 h1 i1 m1 a0 a1 a2 => ih (g + 1) (a + v g) lo1 h1 (by omega) (by omega) hv' i1 (hm.seq (m1.sub rfl)) a0 a1 (by rw [Int.natCast_add]; exact a2))
  exact ksA0 (d := d) (by omega) hj hu hi0 (fun lo1 h1 i1 m1 l0 l1 l2 => loop 8 0 0 lo1 h1 (by omega) (by omega) hV i1 (m1.sub rfl) l0 l1 l2)
theorem zv_ksb1 : zcsB 170 4 1 114 = true := by decide +kernel
theorem zv_ksb2 : zcsB 170 11 1 114 = true := by decide +kernel
theorem zv_ksp : zcsB 176 4 1 114 = true := by decide +kernel
theorem zv_kse : zcsB 113 4 1 114 = true := by decide +kernel
theorem suF_8b {v : Nat → Int} {c : Int} (h : ∀ j, j < 8 → 0 ≤ v j ∧ v j ≤ c) : 0 ≤ suF v 8 0 0 ∧ suF v 8 0 0 ≤ c * 8 := by
  have t := suF_b (v := v) (c := c) 8 0 0 (fun j p q => h j (by omega))
  omega
/-- GRAINS in all GLASSES -/
theorem zAgC {l : Launch} {Γ : zG} {d : Nat} {h0 : zH} {s : zSt} {S : zS} {u : Nat} (hu : u < 2) (hS : S 1 ≤ 8) (hC : CS (12 * u + 43) s h0) {n : Int} (hB : SB n s) (hZ : ZB S s) (hi0 : sInv swC h0) : zSem l Γ false (d + 2) (zhd 170) [.ref (12 * u + 43)] h0 (fun r h' => ∃ a : Int32, r = some (.int a) ∧ a.toInt = suF (fun g => s 0 g + s 1 g) (S 1) 0 0 ∧ sInv swC h' ∧ sMd [] h0 h') := by
  have b0 := suF_8b (v := s 0) (c := 999) (fun j hj => (hB.1 j hj).1)
  have b1 := suF_8b (v := s 1) (c := 999) (fun j hj => (hB.1 j hj).2.1)
  have ev : suF (fun g => s 0 g + s 1 g) (S 1) 0 0 = suF (s 0) 8 0 0 + suF (s 1) 8 0 0 := by
    have t := suF_add (u := s 0) (v := s 1) (S 1) 0 0 0
    rw [suF_8 (v := s 0) hS (fun g p q => hZ.1 g p q 0 (by decide)), suF_8 (v := s 1) hS (fun g p q => hZ.1 g p q 1 (by decide))]
    exact t
  refine ksB0 (d := d + 1) (by omega) hu hi0 (fun lo1 h1 i1 m1 l0 => ?_)
  have M1 : sMd [] h0 h1 := m1.sub rfl
  refine zcallT (mi := 170) (as := [.ref (12 * u + 44)]) (rest := []) zv_ksb1 rfl (by decide) ?_
  refine (zSuC (d := d) (u := u) (j := 0) (v := s 0) hu (by decide) (by omega) (fun g hg => ⟨(pI_md M1 rfl).trans (hC.1 g hg).1, (hB.1 g hg).1.1, by have := (hB.1 g hg).1.2; omega⟩) i1).mono (fun v h2 hv => ?_)
  obtain ⟨a, rfl, ha, i2, m2⟩ := hv
  refine ksB1 (d := d + 1) (by omega) hu (v1 := a.toInt) i2 (by omega) l0 rfl (fun lo3 h3 y1 i3 m3 hy => ?_)
  have M3 : sMd [] h0 h3 := (M1.seq m2).seq (m3.sub rfl)
  refine zcallT (mi := 170) (as := [.ref (12 * u + 45)]) (rest := [.int y1]) zv_ksb2 rfl (Nat.le_of_ble_eq_true rfl) ?_
  refine (zSuC (d := d) (u := u) (j := 1) (v := s 1) hu (by decide) (by omega) (fun g hg => ⟨(pI_md M3 rfl).trans (hC.1 g hg).2.1, (hB.1 g hg).2.1.1, by have := (hB.1 g hg).2.1.2; omega⟩) i3).mono (fun v h4 hv => ?_)
  obtain ⟨b, rfl, hb, i4, m4⟩ := hv
  exact ksB2 (d := d + 1) (by omega) (v2 := b.toInt) (v1 := a.toInt) i4 (by omega) (by omega) rfl hy (fun h5 r i5 m5 hr => ⟨r, rfl, by rw [hr, ev, ha, hb, Int.add_comm], i5, (M3.seq m4).seq (m5.sub rfl)⟩)
/-- PAID by all -/
theorem zApC {l : Launch} {Γ : zG} {d : Nat} {h0 : zH} {s : zSt} {S : zS} {u : Nat} (hu : u < 2) (hS : S 1 ≤ 8) (hC : CS (12 * u + 43) s h0) {n : Int} (hn : n ≤ 205800000) (hB : SB n s) (hZ : ZB S s) (hi0 : sInv swC h0) : zSem l Γ false (d + 2) (zhd 176) [.ref (12 * u + 43)] h0 (fun r h' => ∃ a : Int32, r = some (.int a) ∧ a.toInt = suF (s 4) (S 1) 0 0 ∧ sInv swC h' ∧ sMd [] h0 h') := by
  have b0 := suF_8b (v := s 4) (c := 205800000) (fun j hj => ⟨(hB.1 j hj).2.2.2.2.1, by have := (hB.1 j hj).2.2.2.2.2; omega⟩)
  rw [← suF_8 (v := s 4) hS (fun g p q => hZ.1 g p q 4 (by decide))]
  refine ksP0 (d := d + 1) (by omega) hu hi0 (fun lo1 h1 i1 m1 => ?_)
  have M1 : sMd [] h0 h1 := m1.sub rfl
  refine zcallT (mi := 176) (as := [.ref (12 * u + 47)]) (rest := []) zv_ksp rfl (by decide) ?_
  refine (zSuC (d := d) (u := u) (j := 3) (v := s 4) hu (by decide) (by omega) (fun g hg => ⟨(pI_md M1 rfl).trans (hC.1 g hg).2.2.2, (hB.1 g hg).2.2.2.2.1, by have := (hB.1 g hg).2.2.2.2.2; omega⟩) i1).mono (fun v h2 hv => ?_)
  obtain ⟨a, rfl, ha, i2, m2⟩ := hv
  exact ksP1 (d := d + 1) (by omega) (v1 := a.toInt) i2 (by omega) rfl (fun h5 r i5 m5 hr => ⟨r, rfl, hr.trans ha, i5, (M1.seq m2).seq (m5.sub rfl)⟩)
/-- EMPTIED in all -/
theorem zAeC {l : Launch} {Γ : zG} {d : Nat} {h0 : zH} {s : zSt} {S : zS} {u : Nat} (hu : u < 2) (hS : S 1 ≤ 8) (hC : CS (12 * u + 43) s h0) {n : Int} (hn : n ≤ 205800000) (hB : SB n s) (hZ : ZB S s) (hi0 : sInv swC h0) : zSem l Γ false (d + 2) (zhd 113) [.ref (12 * u + 43)] h0 (fun r h' => ∃ a : Int32, r = some (.int a) ∧ a.toInt = suF (s 3) (S 1) 0 0 ∧ sInv swC h' ∧ sMd [] h0 h') := by
  have b0 := suF_8b (v := s 3) (c := 205800000) (fun j hj => ⟨(hB.1 j hj).2.2.2.1.1, by have := (hB.1 j hj).2.2.2.1.2; omega⟩)
  rw [← suF_8 (v := s 3) hS (fun g p q => hZ.1 g p q 3 (by decide))]
  refine ksE0 (d := d + 1) (by omega) hu hi0 (fun lo1 h1 i1 m1 => ?_)
  have M1 : sMd [] h0 h1 := m1.sub rfl
  refine zcallT (mi := 113) (as := [.ref (12 * u + 46)]) (rest := []) zv_kse rfl (by decide) ?_
  refine (zSuC (d := d) (u := u) (j := 2) (v := s 3) hu (by decide) (by omega) (fun g hg => ⟨(pI_md M1 rfl).trans (hC.1 g hg).2.2.1, (hB.1 g hg).2.2.2.1.1, by have := (hB.1 g hg).2.2.2.1.2; omega⟩) i1).mono (fun v h2 hv => ?_)
  obtain ⟨a, rfl, ha, i2, m2⟩ := hv
  exact ksE1 (d := d + 1) (by omega) (v1 := a.toInt) i2 (by omega) rfl (fun h5 r i5 m5 hr => ⟨r, rfl, hr.trans ha, i5, (M1.seq m2).seq (m5.sub rfl)⟩)
/-! how many bits -/
def bcU (x : Int32) (k : Int) : Int32 := (x.toUInt32 >>> ((Int32.ofInt k).toUInt32 &&& Int32.toUInt32 31)).toInt32
def bcF1 (x : Int32) : Int32 := x - (bcU x 1 &&& Int32.ofInt 1431655765)
def bcF2 (x : Int32) : Int32 := (x &&& Int32.ofInt 858993459) + (bcU x 2 &&& Int32.ofInt 858993459)
def bcF3 (x : Int32) : Int32 := (x + bcU x 4) &&& Int32.ofInt 252645135
def bcF4 (x : Int32) : Int32 := x + bcU x 8
def bcF5 (x : Int32) : Int32 := x + bcU x 16
def bcF (x : Int32) : Int32 := bcF5 (bcF4 (bcF3 (bcF2 (bcF1 x)))) &&& Int32.ofInt 63
def bcI (a : Int) : Int := (bcF (Int32.ofInt a)).toInt
set_option maxRecDepth 100000 in
theorem zBc {l : Launch} {Γ : zG} {d : Nat} {Kp : Option Value → zH → Prop} {h : zH} {x : Int32} (hK : Kp (some (.int (bcF x))) h) : zSem l Γ false (d + 1) (zhd 117) [.int x] h Kp := zr1F hK
theorem bcT : ((List.range 10).all fun p => (List.range (2 ^ p)).all fun a => decide (sgfn 0 (a : Int) (sgfn 3 1 (p : Int)) = ((a + 2 ^ p : Nat) : Int)) && decide (bcI ((a + 2 ^ p : Nat) : Int) = bcI (a : Int) + 1)) = true := by decide +kernel
theorem bcT_at {p a : Nat} (hp : p < 10) (ha : a < 2 ^ p) : sgfn 0 (a : Int) (sgfn 3 1 (p : Int)) = ((a + 2 ^ p : Nat) : Int) ∧ bcI ((a + 2 ^ p : Nat) : Int) = bcI (a : Int) + 1 := by
  have t := zall_r (zall_r bcT hp) ha
  simp only [Bool.and_eq_true, decide_eq_true_eq] at t
  exact t
/-- bits of those that are so -/
def soB (c : Nat → Bool) : Nat → Nat → Nat → Nat
  | 0, _, a => a
  | m + 1, p, a => soB c m (p + 1) (if c p = true then a + 2 ^ p else a)
theorem soB_b {c : Nat → Bool} : ∀ (m p a : Nat), a < 2 ^ p → soB c m p a < 2 ^ (p + m)
  | 0, _, _, ha => ha
  | m + 1, p, a, ha => by
    have e : 2 ^ (p + 1) = 2 ^ p + 2 ^ p := by rw [Nat.pow_succ]; omega
    simp only [soB]
    rw [show p + (m + 1) = p + 1 + m from by omega]
    exact soB_b m (p + 1) _ (by split <;> omega)
theorem soB_n {c : Nat → Bool} : ∀ (m p a : Nat), p + m ≤ 10 → a < 2 ^ p → bcI (soB c m p a : Nat) = suF (fun j => if c j = true then 1 else 0) m p (bcI (a : Int))
  | 0, _, _, _, _ => by simp only [soB, suF]
  | m + 1, p, a, hp, ha => by
    have e : 2 ^ (p + 1) = 2 ^ p + 2 ^ p := by rw [Nat.pow_succ]; omega
    have t := (bcT_at (p := p) (by omega) ha).2
    simp only [soB, suF]
    by_cases h : c p = true
    · rw [if_pos h, if_pos h, ← t]
      exact soB_n m (p + 1) _ (by omega) (by omega)
    · rw [if_neg h, if_neg h, Int.add_zero]
      exact soB_n m (p + 1) _ (by omega) (by omega)
def soC (s : zSt) (p : Nat) : Bool := decide (s 5 p = 2)
def soV (s : zSt) (p : Nat) : Int := if soC s p = true then 1 else 0
/-- SHORT ones, bits -/
theorem zShC {l : Launch} {Γ : zG} {d : Nat} {h0 : zH} {s : zSt} {u : Nat} (hu : u < 2) (hC : CS (12 * u + 43) s h0) {n : Int} (hB : SB n s) (hi0 : sInv swC h0) : zSem l Γ false (d + 1) (zhd 116) [.ref (12 * u + 43)] h0 (fun r h' => ∃ a : Int32, r = some (.int a) ∧ a.toInt = (soB (soC s) 10 0 0 : Nat) ∧ sInv swC h' ∧ sMd [] h0 h') := by
  generalize hV : soB (soC s) 10 0 0 = vv
  have loop : ∀ (m p a : Nat) (lo : zL) (h : zH), p + m = 10 → a < 2 ^ p → soB (soC s) m p a = vv → sInv swC h → sMd [] h0 h → zget lo 0 = some (.ref (12 * u + 43)) → zI lo 1 (a : Int) → zI lo 2 (p : Int) → zX l Γ false (d + 1) (zhd 116) (zMQ' Γ false (zhd 116) (fun r h' => ∃ a : Int32, r = some (.int a) ∧ a.toInt = (vv : Nat) ∧ sInv swC h' ∧ sMd [] h0 h')) 0 0 4 lo [] h := by
    intro m
    induction m with
    | zero =>
      intro p a lo h hp ha hv hi hm l0 l1 l2
      obtain rfl : p = 10 := by omega
      have ha : a < 1024 := ha
      exact ksD2 (d := d) (by omega) hu hi (by omega) l0 l1 l2 (fun h' r i1 m1 hr => ⟨r, rfl, by rw [hr, ← hv]; rfl, i1, hm.seq (m1.sub rfl)⟩)
    | succ m ih =>
      intro p a lo h hp ha hv hi hm l0 l1 l2
      have p10 : p < 10 := by omega
      have e : 2 ^ (p + 1) = 2 ^ p + 2 ^ p := by rw [Nat.pow_succ]; omega
      have a10 : a < 1024 := Nat.lt_of_lt_of_le ha (Nat.pow_le_pow_right (by decide) (by omega : p ≤ 10))
      have t := (bcT_at p10 ha).1
      have c5 := hC.2.1 p p10
      have b5 := hB.2.1 p p10
      simp only [soB] at hv
      refine ksD1 (d := d) (by omega) p10 hu (dn := s 5 p) hi (by omega) b5 l0 l1 l2 ((pI_md hm rfl).trans c5) (fun lo1 h1 w0 w1 i1 m1 f0 f1 c a0 a1 a2 => ?_) (fun lo1 h1 i1 m1 c a0 a1 a2 => ?_)
      · rw [if_pos (show soC s p = true from decide_eq_true c)] at hv
        rw [f1, f0, t] at a1
        exact ih (p + 1) (a + 2 ^ p) lo1 h1 (by omega) (by omega) hv i1 (hm.seq (m1.sub rfl)) a0 a1 (by rw [Int.natCast_add]; exact a2)
      · rw [if_neg (by unfold soC; simp [c])] at hv
        exact ih (p + 1) a lo1 h1 (by omega) (by omega) hv i1 (hm.seq (m1.sub rfl)) a0 a1 (by rw [Int.natCast_add]; exact a2)
  exact ksD0 (d := d) (by omega) hu hi0 (fun lo1 h1 i1 m1 l0 l1 l2 => loop 10 0 0 lo1 h1 (by omega) (by decide) hV i1 (m1.sub rfl) l0 l1 l2)
theorem zv_ksf1 : zcvB 115 1 7 0 116 = true := by decide +kernel
theorem zv_ksf2 : zcsB 115 4 1 117 = true := by decide +kernel
theorem soV_10 {S : zS} {s : zSt} (hS : S 3 ≤ 10) (hZ : ZB S s) : bcI (soB (soC s) 10 0 0 : Nat) = suF (soV s) (S 3) 0 0 := by
  have t := suF_z (v := soV s) (S 3) (10 - S 3) 0 0 (fun j p q => by
    unfold soV soC
    rw [hZ.2 j (by omega)]
    exact if_neg (by decide))
  rw [show S 3 + (10 - S 3) = 10 from by omega] at t
  have b0 : bcI ((0 : Nat) : Int) = 0 := by decide +kernel
  have q := soB_n (c := soC s) 10 0 0 (by decide) (by decide)
  rw [b0] at q
  exact q.trans t
theorem soV_b {s : zSt} {m : Nat} (hm : m ≤ 10) : 0 ≤ suF (soV s) m 0 0 ∧ suF (soV s) m 0 0 ≤ 10 := by
  have t := suF_b (v := soV s) (c := 1) m 0 0 (fun j p q => by
    unfold soV
    split <;> omega)
  omega
/-- how many are SHORT -/
theorem zShN {l : Launch} {Γ : zG} {d : Nat} {h0 : zH} {s : zSt} {S : zS} {u : Nat} (hu : u < 2) (hS : S 3 ≤ 10) (hC : CS (12 * u + 43) s h0) {n : Int} (hB : SB n s) (hZ : ZB S s) (hi0 : sInv swC h0) : zSem l Γ false (d + 2) (zhd 115) [.ref (12 * u + 43)] h0 (fun r h' => ∃ a : Int32, r = some (.int a) ∧ a.toInt = suF (soV s) (S 3) 0 0 ∧ sInv swC h' ∧ sMd [] h0 h') := by
  have ev := soV_10 (s := s) hS hZ
  have bd := soV_b (s := s) hS
  refine ksF0 (d := d + 1) (by omega) hu hi0 (fun lo1 h1 i1 m1 => ?_)
  have M1 : sMd [] h0 h1 := m1.sub rfl
  refine zcallR (mi := 115) (as := []) (rest := []) (q0 := 12 * u + 43) zv_ksf1 rfl (by decide) (shBu hu i1) ?_
  refine (zShC (d := d) (u := u) (s := s) hu (CS.md hC M1 (fun _ _ _ _ => rfl)) hB i1).mono (fun v h2 hv => ?_)
  obtain ⟨a, rfl, ha, i2, m2⟩ := hv
  refine zcallT (mi := 115) (as := [.int a]) (rest := []) zv_ksf2 rfl (by decide) ?_
  refine zBc (d := d) ?_
  have e2 : (bcF a).toInt = suF (soV s) (S 3) 0 0 := by
    rw [← ev, i32of ha]
    rfl
  exact ksF1 (d := d + 1) (by omega) (v1 := suF (soV s) (S 3) 0 0) i2 bd e2 (fun h5 r i5 m5 hr => ⟨r, rfl, hr, i5, (M1.seq m2).seq (m5.sub rfl)⟩)
/-! the reference -/
theorem zAgM {l : Launch} {Γ : zG} {d : Nat} {h0 : zH} {s : zSt} {N : zN} {S : zS} {k : Nat} (hk : k < 2) (hS : S 1 ≤ 8) (hM : MS S k s h0) (hT : TMt N S h0) {n : Int} (hB : SB n s) (hi0 : sInv swM h0) {y : Int32} (hy : y.toInt = (k : Int)) : zSem l Γ false (d + 1) (zhd 305) [.ref 0, .int y] h0 (fun r h' => ∃ a : Int32, r = some (.int a) ∧ a.toInt = suF (fun g => s 0 g + s 1 g) (S 1) 0 0 ∧ sInv swM h' ∧ sMd [] h0 h') := by
  have loop : ∀ (m g : Nat) (a : Int) (lo : zL) (h : zH), g + m = S 1 → (0 ≤ a ∧ a ≤ 1998 * (g : Int)) → suF (fun g => s 0 g + s 1 g) m g a = suF (fun g => s 0 g + s 1 g) (S 1) 0 0 → sInv swM h → sMd [] h0 h → zget lo 0 = some (.ref 0) → zI lo 1 (k : Int) → zI lo 2 a → zI lo 3 (g : Int) → zX l Γ false (d + 1) (zhd 305) (zMQ' Γ false (zhd 305) (fun r h' => ∃ a : Int32, r = some (.int a) ∧ a.toInt = suF (fun g => s 0 g + s 1 g) (S 1) 0 0 ∧ sInv swM h' ∧ sMd [] h0 h')) 0 0 4 lo [] h := by
    intro m
    induction m with
    | zero =>
      intro g a lo h hg ha hv hi hm l0 l1 l2 l3
      exact ktA2 (d := d) (by omega) (g := g) (by omega) hk (n := (S 1 : Int)) hi (by omega) (by omega) l0 l1 l2 l3 ((pI_md hm rfl).trans hT.1.2.1) (fun h' r i1 m1 hr => ⟨r, rfl, hr.trans hv, i1, hm.seq (m1.sub rfl)⟩)
    | succ m ih =>
      intro g a lo h hg ha hv hi hm l0 l1 l2 l3
      have g8 : g < 8 := by omega
      obtain ⟨w0, w1, -⟩ := hB.1 g g8
      obtain ⟨c0, c1, -⟩ := hM.1 g (by omega)
      rw [show 8 * k + g = g + 8 * k from by omega] at c0 c1
      simp only [suF] at hv
      exact ktA1 (d := d) (by omega) g8 hk (n := (S 1 : Int)) (ab := s 0 g) (bl := s 1 g) hi (by omega) (by omega) w0 w1 l0 l1 l2 l3 ((pI_md hm rfl).trans hT.1.2.1) ((pI_md hm rfl).trans c0) ((pI_md hm rfl).trans c1) (fun lo1 h1 i1 m1 a0 a1 a2 a3 => ih (g + 1) (a + (s 0 g + s 1 g)) lo1 h1 (by omega) (by omega) hv i1 (hm.seq (m1.sub rfl)) a0 a1 (by rw [← Int.add_assoc]; exact a2) (by rw [Int.natCast_add]; exact a3))
  exact ktA0 (d := d) (by omega) hk hi0 hy (fun lo1 h1 i1 m1 l0 l1 l2 l3 => loop (S 1) 0 0 lo1 h1 (by omega) (by omega) rfl i1 (m1.sub rfl) l0 l1 l2 l3)
theorem zAeM {l : Launch} {Γ : zG} {d : Nat} {h0 : zH} {s : zSt} {N : zN} {S : zS} {k : Nat} (hk : k < 2) (hS : S 1 ≤ 8) (hM : MS S k s h0) (hT : TMt N S h0) {n : Int} (hn : n ≤ 205800000) (hB : SB n s) (hi0 : sInv swM h0) {y : Int32} (hy : y.toInt = (k : Int)) : zSem l Γ false (d + 1) (zhd 265) [.ref 0, .int y] h0 (fun r h' => ∃ a : Int32, r = some (.int a) ∧ a.toInt = suF (s 3) (S 1) 0 0 ∧ sInv swM h' ∧ sMd [] h0 h') := by
  have loop : ∀ (m g : Nat) (a : Int) (lo : zL) (h : zH), g + m = S 1 → (0 ≤ a ∧ a ≤ 205800000 * (g : Int)) → suF (s 3) m g a = suF (s 3) (S 1) 0 0 → sInv swM h → sMd [] h0 h → zget lo 0 = some (.ref 0) → zI lo 1 (k : Int) → zI lo 2 a → zI lo 3 (g : Int) → zX l Γ false (d + 1) (zhd 265) (zMQ' Γ false (zhd 265) (fun r h' => ∃ a : Int32, r = some (.int a) ∧ a.toInt = suF (s 3) (S 1) 0 0 ∧ sInv swM h' ∧ sMd [] h0 h')) 0 0 4 lo [] h := by
    intro m
    induction m with
    | zero =>
      intro g a lo h hg ha hv hi hm l0 l1 l2 l3
      exact ktE2 (d := d) (by omega) (g := g) (by omega) hk (n := (S 1 : Int)) hi (by omega) (by omega) l0 l1 l2 l3 ((pI_md hm rfl).trans hT.1.2.1) (fun h' r i1 m1 hr => ⟨r, rfl, hr.trans hv, i1, hm.seq (m1.sub rfl)⟩)
    | succ m ih =>
      intro g a lo h hg ha hv hi hm l0 l1 l2 l3
      have g8 : g < 8 := by omega
      obtain ⟨-, -, -, w3, -⟩ := hB.1 g g8
      obtain ⟨-, -, -, c3, -⟩ := hM.1 g (by omega)
      rw [show 8 * k + g = g + 8 * k from by omega] at c3
      simp only [suF] at hv
      exact ktE1 (d := d) (by omega) g8 hk (n := (S 1 : Int)) (v := s 3 g) hi (by omega) (by omega) (by omega) l0 l1 l2 l3 ((pI_md hm rfl).trans hT.1.2.1) ((pI_md hm rfl).trans c3) (fun lo1 h1 i1 m1 a0 a1 a2 a3 => ih (g + 1) (a + s 3 g) lo1 h1 (by omega) (by omega) hv i1 (hm.seq (m1.sub rfl)) a0 a1 a2 (by rw [Int.natCast_add]; exact a3))
  exact ktE0 (d := d) (by omega) hk hi0 hy (fun lo1 h1 i1 m1 l0 l1 l2 l3 => loop (S 1) 0 0 lo1 h1 (by omega) (by omega) rfl i1 (m1.sub rfl) l0 l1 l2 l3)
theorem zShM {l : Launch} {Γ : zG} {d : Nat} {h0 : zH} {s : zSt} {N : zN} {S : zS} {k : Nat} (hk : k < 2) (hS : S 3 ≤ 10) (hM : MS S k s h0) (hT : TMt N S h0) {n : Int} (hB : SB n s) (hi0 : sInv swM h0) {y : Int32} (hy : y.toInt = (k : Int)) : zSem l Γ false (d + 1) (zhd 266) [.ref 0, .int y] h0 (fun r h' => ∃ a : Int32, r = some (.int a) ∧ a.toInt = suF (soV s) (S 3) 0 0 ∧ sInv swM h' ∧ sMd [] h0 h') := by
  have loop : ∀ (m p : Nat) (a : Int) (lo : zL) (h : zH), p + m = S 3 → (0 ≤ a ∧ a ≤ (p : Int)) → suF (soV s) m p a = suF (soV s) (S 3) 0 0 → sInv swM h → sMd [] h0 h → zget lo 0 = some (.ref 0) → zI lo 1 (k : Int) → zI lo 2 a → zI lo 3 (p : Int) → zX l Γ false (d + 1) (zhd 266) (zMQ' Γ false (zhd 266) (fun r h' => ∃ a : Int32, r = some (.int a) ∧ a.toInt = suF (soV s) (S 3) 0 0 ∧ sInv swM h' ∧ sMd [] h0 h')) 0 0 4 lo [] h := by
    intro m
    induction m with
    | zero =>
      intro p a lo h hp ha hv hi hm l0 l1 l2 l3
      exact ktD2 (d := d) (by omega) hk (p := p) (by omega) (n := (S 3 : Int)) hi (by omega) (by omega) l0 l1 l2 l3 ((pI_md hm rfl).trans hT.1.2.2.2.1) (fun h' r i1 m1 hr => ⟨r, rfl, hr.trans hv, i1, hm.seq (m1.sub rfl)⟩)
    | succ m ih =>
      intro p a lo h hp ha hv hi hm l0 l1 l2 l3
      have p10 : p < 10 := by omega
      have b5 := hB.2.1 p p10
      have c5 := hM.2.1 p p10
      simp only [suF] at hv
      refine ktD1 (d := d) (by omega) hk p10 (n := (S 3 : Int)) (dn := s 5 p) hi (by omega) (by omega) b5 l0 l1 l2 l3 ((pI_md hm rfl).trans hT.1.2.2.2.1) ((pI_md hm rfl).trans c5) (fun lo1 h1 i1 m1 c a0 a1 a2 a3 => ?_) (fun lo1 h1 i1 m1 c a0 a1 a2 a3 => ?_)
      · have e : soV s p = 1 := if_pos (show soC s p = true from decide_eq_true c)
        rw [e] at hv
        exact ih (p + 1) (a + 1) lo1 h1 (by omega) (by omega) hv i1 (hm.seq (m1.sub rfl)) a0 a1 a2 (by rw [Int.natCast_add]; exact a3)
      · have e : soV s p = 0 := if_neg (by unfold soC; simp [c])
        rw [e, Int.add_zero] at hv
        exact ih (p + 1) a lo1 h1 (by omega) (by omega) hv i1 (hm.seq (m1.sub rfl)) a0 a1 a2 (by rw [Int.natCast_add]; exact a3)
  exact ktD0 (d := d) (by omega) hk hi0 hy (fun lo1 h1 i1 m1 l0 l1 l2 l3 => loop (S 3) 0 0 lo1 h1 (by omega) (by omega) rfl i1 (m1.sub rfl) l0 l1 l2 l3)
/-! count -/
def ctV (A : zGb) : Nat → Int
  | 0 => ((A.1.2.2.2.2 0 : Nat) : Int)
  | 1 => ((A.1.2.2.2.2 1 : Nat) : Int)
  | 2 => ((A.1.2.2.2.2 3 : Nat) : Int)
  | 3 => ((A.1.2.2.2.2 4 : Nat) : Int)
  | 4 => ((A.1.2.2.2.2 10 : Nat) : Int)
  | 5 => A.2.1 6 0
  | 6 => suF (fun g => A.2.1 0 g + A.2.1 1 g) (A.1.2.2.2.2 1) 0 0
  | 7 => suF (A.2.1 4) (A.1.2.2.2.2 1) 0 0
  | 8 => A.2.1 6 1
  | 9 => suF (soV A.2.1) (A.1.2.2.2.2 3) 0 0
  | 10 => suF (A.2.1 3) (A.1.2.2.2.2 1) 0 0
  | 11 => A.1.2.2.1.2.2.2.2.2.1
  | 12 => if A.1.2.2.1.2.2.2.2.2.2 = -1 then A.1.2.2.1.2.2.2.2.2.1 else A.1.2.2.1.2.2.2.2.2.2
  | _ => ((A.2.2.2.1 : Nat) : Int)
def ctQ (v : Nat → Int) (x : Int) : Int := if 0 ≤ x ∧ x ≤ 13 then v x.toNat else -1
theorem ctQ_at {v : Nat → Int} {x : Int} {k : Nat} (hx : x = (k : Int)) (hk : k ≤ 13) : ctQ v x = v k := by
  unfold ctQ
  rw [if_pos (by omega), hx, Int.toNat_natCast]
theorem ctQ_no {v : Nat → Int} {x : Int} (hx : x < 0 ∨ 13 < x) : ctQ v x = -1 := if_neg (by omega)
theorem CT.kn {N : zN} {S : zS} {h : zH} {t : Nat} (H : CT N S h) (h5 : h.2.2.2 0 5 = some (17 * t + 9)) : pI h (17 * t + 20) 2 = (S 10 : Int) := by
  obtain ⟨d0, -, e, -, R⟩ := H
  have q : d0 = 17 * t + 9 := Option.some.inj (e.symm.trans h5)
  subst q
  exact R.2.1
theorem zv_ksc1 : zcvB 175 139 7 0 170 = true := by decide +kernel
theorem zv_ksc2 : zcvB 175 147 7 0 176 = true := by decide +kernel
theorem zv_ksc3 : zcvB 175 163 7 0 115 = true := by decide +kernel
theorem zv_ksc4 : zcvB 175 171 7 0 113 = true := by decide +kernel
theorem zv_ktc1 : zcvB 310 114 12 1 305 = true := by decide +kernel
theorem zv_ktc2 : zcvB 310 154 12 1 266 = true := by decide +kernel
theorem zv_ktc3 : zcvB 310 160 12 1 265 = true := by decide +kernel
theorem zps41 (l : Launch) {fC fM : zH} {A : zGb} (g1 : zGC A fC) (g2 : zGM A fM) {n : Int} (h0 : 0 ≤ n ∧ n ≤ 205200000) (hb : zGB n A) (x : Int32) : ∃ (a : Int32) (A' : zGb), zGB n A' ∧ (∀ Γ : zG, zSem l Γ false 10 (zhd 175) [.ref 0, .int x] fC (fun r f => r = some (.int a) ∧ zGC A' f)) ∧ (∀ Γ : zG, zSem l Γ false 10 (zhd 310) [.ref 0, .int x] fM (fun r f => r = some (.int a) ∧ zGM A' f)) := by
  obtain ⟨t, ht, C⟩ := g1.sc
  have Tc := C.1.1
  obtain ⟨Tm, Lm, Ms, -, Um⟩ := g2.sm
  obtain ⟨hS0, hS1, hS2, hS3, hS4⟩ := hb.2.1.1
  have hB := hb.2.2.1.1
  have hZ := hb.2.2.1.2
  have b60 := hB.2.2.1
  have b61 := hB.2.2.2
  have hU : A.2.2.2.1 ≤ 20 := hb.2.2.2.2.1
  have hL : A.1.2.2.2.2 10 ≤ 64 := Lm.1
  have kC := CT.kn g1.1.2.2.2.2.2 Tc.1
  have kM : pI fM 0 17 = (A.1.2.2.2.2 10 : Int) := g2.1.2.2.2.2.2.2.1
  obtain ⟨b1, b2, b3, b4, b5⟩ := hb.1
  obtain ⟨-, -, -, -, -, c6, c7⟩ := g1.1.2.2.2.2.1
  obtain ⟨-, -, -, -, -, d6, d7⟩ := g2.1.2.2.2.2.1
  refine ⟨Int32.ofInt (ctQ (ctV A) x.toInt), A, hb, fun Γ => ?_, fun Γ => ?_⟩
  · have fin : ∀ (h' : zH) (r : Int32), sInv swC h' → sMd [] fC h' → r.toInt = ctQ (ctV A) x.toInt → (some (Value.int r) = some (.int (Int32.ofInt (ctQ (ctV A) x.toInt))) ∧ zGC A h') := fun h' r i m e => ⟨by rw [i32of e], g1.md i m (by decide +kernel) (by decide +kernel)⟩
    have at_ : ∀ (h' : zH) (r : Int32) (k : Nat), sInv swC h' → sMd [] fC h' → x.toInt = (k : Int) → k ≤ 13 → r.toInt = ctV A k → (some (Value.int r) = some (.int (Int32.ofInt (ctQ (ctV A) x.toInt))) ∧ zGC A h') := fun h' r k i m hx hk e => fin h' r i m (e.trans (ctQ_at hx hk).symm)
    refine ksC0 (d := 9) (by omega) ht (n0 := (A.1.2.2.2.2 0 : Int)) (n1 := (A.1.2.2.2.2 1 : Int)) (n3 := (A.1.2.2.2.2 3 : Int)) (n4 := (A.1.2.2.2.2 4 : Int)) (kn := (A.1.2.2.2.2 10 : Int)) (mi := A.2.1 6 0) (tx := A.2.1 6 1) (sz := A.1.2.2.1.2.2.2.2.2.1) (kb := A.1.2.2.1.2.2.2.2.2.2) (un := (A.2.2.2.1 : Int)) g1.1.1 (i32bd x) (by omega) (by omega) (by omega) (by omega) (by omega) (by omega) (by omega) (by omega) (by omega) (by omega) rfl Tc.2.1.1 Tc.2.1.2.1 Tc.2.1.2.2.2.1 Tc.2.1.2.2.2.2 kC C.2.1.2.2.1.1 C.2.1.2.2.1.2.1 c6 c7 C.2.2.2.1 Tc.1 (by omega) (fun lo1 h1 i m f0 f1 f2 f3 f4 f5 f6 => ?_) (fun lo1 h1 i m f0 f1 f2 f3 f4 f5 f6 f7 => ?_) (fun lo1 h1 i m f0 f1 f2 f3 f4 f5 f6 f7 f8 f9 => ?_) (fun lo1 h1 i m f0 f1 f2 f3 f4 f5 f6 f7 f8 f9 f10 => ?_) (fun h1 r_ i m f0 f1 => at_ h1 r_ 0 i (m.sub rfl) (by omega) (by decide) (f1.trans rfl)) (fun h1 r_ i m f0 f1 f2 => at_ h1 r_ 1 i (m.sub rfl) (by omega) (by decide) (f2.trans rfl)) (fun h1 r_ i m f0 f1 f2 f3 => at_ h1 r_ 2 i (m.sub rfl) (by omega) (by decide) (f3.trans rfl)) (fun h1 r_ i m f0 f1 f2 f3 f4 => at_ h1 r_ 3 i (m.sub rfl) (by omega) (by decide) (f4.trans rfl)) (fun h1 r_ i m f0 f1 f2 f3 f4 f5 => at_ h1 r_ 4 i (m.sub rfl) (by omega) (by decide) (f5.trans rfl)) (fun h1 r_ i m f0 f1 f2 f3 f4 f5 f6 => at_ h1 r_ 5 i (m.sub rfl) (by omega) (by decide) (f6.trans rfl)) (fun h1 r_ i m f0 f1 f2 f3 f4 f5 f6 f7 f8 f9 => at_ h1 r_ 8 i (m.sub rfl) (by omega) (by decide) (f9.trans rfl)) (fun h1 r_ i m f0 f1 f2 f3 f4 f5 f6 f7 f8 f9 f10 f11 f12 => at_ h1 r_ 11 i (m.sub rfl) (by omega) (by decide) (f12.trans rfl)) (fun h1 r_ i m f0 f1 f2 f3 f4 f5 f6 f7 f8 f9 f10 f11 f12 f13 f14 => at_ h1 r_ 12 i (m.sub rfl) (by omega) (by decide) (f14.trans (if_pos (by omega)).symm)) (fun h1 r_ i m f0 f1 f2 f3 f4 f5 f6 f7 f8 f9 f10 f11 f12 f13 f14 => at_ h1 r_ 12 i (m.sub rfl) (by omega) (by decide) (f14.trans (if_neg (by omega)).symm)) (fun h1 r_ i m f0 f1 f2 f3 f4 f5 f6 f7 f8 f9 f10 f11 f12 f13 f14 => at_ h1 r_ 13 i (m.sub rfl) (by omega) (by decide) (f14.trans rfl)) (fun h1 r_ i m f0 f1 f2 f3 f4 f5 f6 f7 f8 f9 f10 f11 f12 f13 f14 => fin h1 r_ i (m.sub rfl) (f14.trans (ctQ_no (by omega)).symm))
    · have M1 : sMd [] _ h1 := m.sub rfl
      refine zcallR (mi := 175) (as := []) (rest := []) (q0 := 43) zv_ksc1 rfl (by decide) (shS i) ?_
      refine (zAgC (d := 7) (u := 0) (s := A.2.1) (by decide) hS1 (CS.md C.2.1 M1 (fun _ _ _ _ => rfl)) hB hZ i).mono (fun v h2 hv => ?_)
      obtain ⟨a, rfl, ha, i2, m2⟩ := hv
      have bd := suF_b (v := fun g => A.2.1 0 g + A.2.1 1 g) (c := 1998) (A.1.2.2.2.2 1) 0 0 (fun j p q => by
        obtain ⟨w0, w1, -⟩ := hB.1 j (by omega)
        show 0 ≤ A.2.1 0 j + A.2.1 1 j ∧ A.2.1 0 j + A.2.1 1 j ≤ 1998
        omega)
      exact ksC1a (d := 9) (by omega) (v := a.toInt) i2 (by omega) rfl (fun h3 r i3 m3 hr => at_ h3 r 6 i3 ((M1.seq m2).seq (m3.sub rfl)) (by omega) (by decide) (hr.trans ha))
    · have M1 : sMd [] _ h1 := m.sub rfl
      refine zcallR (mi := 175) (as := []) (rest := []) (q0 := 43) zv_ksc2 rfl (by decide) (shS i) ?_
      refine (zApC (d := 7) (u := 0) (s := A.2.1) (by decide) hS1 (CS.md C.2.1 M1 (fun _ _ _ _ => rfl)) (n := n) (by omega) hB hZ i).mono (fun v h2 hv => ?_)
      obtain ⟨a, rfl, ha, i2, m2⟩ := hv
      have bd := suF_b (v := A.2.1 4) (c := 205200000) (A.1.2.2.2.2 1) 0 0 (fun j p q => by
        have w := (hB.1 j (by omega)).2.2.2.2
        omega)
      exact ksC1b (d := 9) (by omega) (v := a.toInt) i2 (by omega) rfl (fun h3 r i3 m3 hr => at_ h3 r 7 i3 ((M1.seq m2).seq (m3.sub rfl)) (by omega) (by decide) (hr.trans ha))
    · have M1 : sMd [] _ h1 := m.sub rfl
      refine zcallR (mi := 175) (as := []) (rest := []) (q0 := 43) zv_ksc3 rfl (by decide) (shS i) ?_
      refine (zShN (d := 7) (u := 0) (s := A.2.1) (by decide) hS3 (CS.md C.2.1 M1 (fun _ _ _ _ => rfl)) hB hZ i).mono (fun v h2 hv => ?_)
      obtain ⟨a, rfl, ha, i2, m2⟩ := hv
      have bd := soV_b (s := A.2.1) hS3
      exact ksC1c (d := 9) (by omega) (v := a.toInt) i2 (by omega) rfl (fun h3 r i3 m3 hr => at_ h3 r 9 i3 ((M1.seq m2).seq (m3.sub rfl)) (by omega) (by decide) (hr.trans ha))
    · have M1 : sMd [] _ h1 := m.sub rfl
      refine zcallR (mi := 175) (as := []) (rest := []) (q0 := 43) zv_ksc4 rfl (by decide) (shS i) ?_
      refine (zAeC (d := 7) (u := 0) (s := A.2.1) (by decide) hS1 (CS.md C.2.1 M1 (fun _ _ _ _ => rfl)) (n := n) (by omega) hB hZ i).mono (fun v h2 hv => ?_)
      obtain ⟨a, rfl, ha, i2, m2⟩ := hv
      have bd := suF_b (v := A.2.1 3) (c := 205200000) (A.1.2.2.2.2 1) 0 0 (fun j p q => by
        have w := (hB.1 j (by omega)).2.2.2.1
        omega)
      exact ksC1d (d := 9) (by omega) (v := a.toInt) i2 (by omega) rfl (fun h3 r i3 m3 hr => at_ h3 r 10 i3 ((M1.seq m2).seq (m3.sub rfl)) (by omega) (by decide) (hr.trans ha))
  · have fin : ∀ (h' : zH) (r : Int32), sInv swM h' → sMd [(0, 2, 3)] fM h' → r.toInt = ctQ (ctV A) x.toInt → (some (Value.int r) = some (.int (Int32.ofInt (ctQ (ctV A) x.toInt))) ∧ zGM A h') := fun h' r i m e => ⟨by rw [i32of e], g2.md' i m (by decide +kernel)⟩
    have at_ : ∀ (h' : zH) (r : Int32) (k : Nat), sInv swM h' → sMd [(0, 2, 3)] fM h' → x.toInt = (k : Int) → k ≤ 13 → r.toInt = ctV A k → (some (Value.int r) = some (.int (Int32.ofInt (ctQ (ctV A) x.toInt))) ∧ zGM A h') := fun h' r k i m hx hk e => fin h' r i m (e.trans (ctQ_at hx hk).symm)
    refine ktC0 (d := 9) (by omega) (n0 := (A.1.2.2.2.2 0 : Int)) (n1 := (A.1.2.2.2.2 1 : Int)) (n3 := (A.1.2.2.2.2 3 : Int)) (n4 := (A.1.2.2.2.2 4 : Int)) (kn := (A.1.2.2.2.2 10 : Int)) (mi := A.2.1 6 0) (tx := A.2.1 6 1) g2.1.1 (i32bd x) (by omega) (by omega) (by omega) (by omega) (by omega) (by omega) (by omega) rfl Tm.1.1 Tm.1.2.1 Tm.1.2.2.2.1 Tm.1.2.2.2.2 kM Ms.2.2.1 Ms.2.2.2.1 (fun lo1 h1 y0 i m f0 f1 f2 f3 f4 f5 f6 f7 f8 => ?_) (fun lo1 h1 i m f0 f1 f2 f3 f4 f5 f6 f7 f8 f9 f10 f11 => ?_) (fun lo1 h1 y0 i m f0 f1 f2 f3 f4 f5 f6 f7 f8 f9 f10 f11 => ?_) (fun lo1 h1 y0 i m f0 f1 f2 f3 f4 f5 f6 f7 f8 f9 f10 f11 f12 => ?_) (fun lo1 h1 i m f0 f1 f2 f3 f4 f5 f6 f7 f8 f9 f10 f11 f12 f13 => ?_) (fun lo1 h1 i m f0 f1 f2 f3 f4 f5 f6 f7 f8 f9 f10 f11 f12 f13 f14 => ?_) (fun lo1 h1 i m f0 f1 f2 f3 f4 f5 f6 f7 f8 f9 f10 f11 f12 f13 f14 f15 => ?_) (fun h1 r_ i m f0 f1 f2 => at_ h1 r_ 0 i (m.sub rfl) (by omega) (by decide) (f2.trans rfl)) (fun h1 r_ i m f0 f1 f2 f3 => at_ h1 r_ 1 i (m.sub rfl) (by omega) (by decide) (f3.trans rfl)) (fun h1 r_ i m f0 f1 f2 f3 f4 => at_ h1 r_ 2 i (m.sub rfl) (by omega) (by decide) (f4.trans rfl)) (fun h1 r_ i m f0 f1 f2 f3 f4 f5 => at_ h1 r_ 3 i (m.sub rfl) (by omega) (by decide) (f5.trans rfl)) (fun h1 r_ i m f0 f1 f2 f3 f4 f5 f6 => at_ h1 r_ 4 i (m.sub rfl) (by omega) (by decide) (f6.trans rfl)) (fun h1 r_ i m f0 f1 f2 f3 f4 f5 f6 f7 => at_ h1 r_ 5 i (m.sub rfl) (by omega) (by decide) (f7.trans rfl)) (fun h1 r_ i m f0 f1 f2 f3 f4 f5 f6 f7 f8 f9 f10 => at_ h1 r_ 8 i (m.sub rfl) (by omega) (by decide) (f10.trans rfl)) (fun h1 r_ i m f0 f1 f2 f3 f4 f5 f6 f7 f8 f9 f10 f11 f12 f13 f14 f15 => fin h1 r_ i (m.sub rfl) (f15.trans (ctQ_no (by omega)).symm))
    · have M1 : sMd [(0, 2, 3)] _ h1 := m.sub rfl
      refine zcallR (mi := 310) (as := [.int y0]) (rest := []) (q0 := 0) zv_ktc1 rfl (by decide) (shM i) ?_
      refine (zAgM (d := 8) (k := 0) (s := A.2.1) (by decide) hS1 (Ms.m2 M1) (Tm.md M1 rfl) hB i f8).mono (fun v h2 hv => ?_)
      obtain ⟨a, rfl, ha, i2, m2⟩ := hv
      have bd := suF_b (v := fun g => A.2.1 0 g + A.2.1 1 g) (c := 1998) (A.1.2.2.2.2 1) 0 0 (fun j p q => by
        obtain ⟨w0, w1, -⟩ := hB.1 j (by omega)
        show 0 ≤ A.2.1 0 j + A.2.1 1 j ∧ A.2.1 0 j + A.2.1 1 j ≤ 1998
        omega)
      exact ktC1a (d := 9) (by omega) (v := a.toInt) i2 (by omega) rfl (fun h3 r i3 m3 hr => at_ h3 r 6 i3 ((M1.seq (m2.sub rfl)).seq (m3.sub rfl)) (by omega) (by decide) (hr.trans ha))
    · have M1 : sMd [(0, 2, 3)] _ h1 := m.sub rfl
      have bv : ∀ j, j < 8 → 0 ≤ A.2.1 4 j ∧ A.2.1 4 j ≤ 205200000 := fun j hj => by
        have w := (hB.1 j hj).2.2.2.2
        omega
      have loop : ∀ (k g : Nat) (a : Int) (lo : zL) (h : zH), g + k = A.1.2.2.2.2 1 → (0 ≤ a ∧ a ≤ 205200000 * (g : Int)) → suF (A.2.1 4) k g a = suF (A.2.1 4) (A.1.2.2.2.2 1) 0 0 → sInv swM h → sMd [(0, 2, 3)] fM h → zget lo 0 = some (.ref 0) → zI lo 2 a → zI lo 3 (g : Int) → zX l Γ false 10 (zhd 310) (zMQ' Γ false (zhd 310) (fun r f => r = some (.int (Int32.ofInt (ctQ (ctV A) x.toInt))) ∧ zGM A f)) 0 0 120 lo [] h := by
        intro k
        induction k with
        | zero =>
          intro g a lo h hg ha hv hi hm l0 l2 l3
          exact ktP2 (d := 9) (by omega) (g := g) (by omega) (n := (A.1.2.2.2.2 1 : Int)) hi (by omega) (by omega) l0 l2 l3 ((pI_md hm rfl).trans Tm.1.2.1) (fun h' r i1 m1 hr => at_ h' r 7 i1 (hm.seq (m1.sub rfl)) (by omega) (by decide) (hr.trans hv))
        | succ k ih =>
          intro g a lo h hg ha hv hi hm l0 l2 l3
          have g8 : g < 8 := by omega
          have w := bv g g8
          obtain ⟨-, -, -, -, c4⟩ := Ms.1 g (by omega)
          rw [show 8 * 0 + g = g from by omega] at c4
          simp only [suF] at hv
          exact ktP1 (d := 9) (by omega) g8 (n := (A.1.2.2.2.2 1 : Int)) (v := A.2.1 4 g) hi (by omega) (by omega) (by omega) l0 l2 l3 ((pI_md hm rfl).trans Tm.1.2.1) ((pI_md hm (smemc (by omega) smem0)).trans c4) (fun lo1 h1 i1 m1 a0 a2 a3 => ih (g + 1) (a + A.2.1 4 g) lo1 h1 (by omega) (by omega) hv i1 (hm.seq (m1.sub rfl)) a0 a2 (by rw [Int.natCast_add]; exact a3))
      exact loop (A.1.2.2.2.2 1) 0 0 lo1 h1 (by omega) (by omega) rfl i M1 f9 f10 f11
    · have M1 : sMd [(0, 2, 3)] _ h1 := m.sub rfl
      refine zcallR (mi := 310) (as := [.int y0]) (rest := []) (q0 := 0) zv_ktc2 rfl (by decide) (shM i) ?_
      refine (zShM (d := 8) (k := 0) (s := A.2.1) (by decide) hS3 (Ms.m2 M1) (Tm.md M1 rfl) hB i f11).mono (fun v h2 hv => ?_)
      obtain ⟨a, rfl, ha, i2, m2⟩ := hv
      have bd := soV_b (s := A.2.1) hS3
      exact ktC1b (d := 9) (by omega) (v := a.toInt) i2 (by omega) rfl (fun h3 r i3 m3 hr => at_ h3 r 9 i3 ((M1.seq (m2.sub rfl)).seq (m3.sub rfl)) (by omega) (by decide) (hr.trans ha))
    · have M1 : sMd [(0, 2, 3)] _ h1 := m.sub rfl
      refine zcallR (mi := 310) (as := [.int y0]) (rest := []) (q0 := 0) zv_ktc3 rfl (by decide) (shM i) ?_
      refine (zAeM (d := 8) (k := 0) (s := A.2.1) (by decide) hS1 (Ms.m2 M1) (Tm.md M1 rfl) (n := n) (by omega) hB i f12).mono (fun v h2 hv => ?_)
      obtain ⟨a, rfl, ha, i2, m2⟩ := hv
      have bd := suF_b (v := A.2.1 3) (c := 205200000) (A.1.2.2.2.2 1) 0 0 (fun j p q => by
        have w := (hB.1 j (by omega)).2.2.2.1
        omega)
      exact ktC1c (d := 9) (by omega) (v := a.toInt) i2 (by omega) rfl (fun h3 r i3 m3 hr => at_ h3 r 10 i3 ((M1.seq (m2.sub rfl)).seq (m3.sub rfl)) (by omega) (by decide) (hr.trans ha))
    · have M1 : sMd [(0, 2, 3)] _ h1 := m.sub rfl
      obtain ⟨k, hk⟩ : ∃ k : Nat, A.1.2.2.1.2.2.2.2.2.1 = (k : Int) := ⟨(A.1.2.2.1.2.2.2.2.2.1).toNat, by omega⟩
      exact ktC2 (d := 9) (by omega) (k := k) (by omega) i f13 ((pI_md M1 rfl).trans (d6.trans hk)) (fun h3 r i3 m3 hr => at_ h3 r 11 i3 (M1.seq (m3.sub rfl)) (by omega) (by decide) (hr.trans hk.symm))
    · have M1 : sMd [(0, 2, 3)] _ h1 := m.sub rfl
      by_cases hkb : A.1.2.2.1.2.2.2.2.2.2 = -1
      · obtain ⟨k, hk⟩ : ∃ k : Nat, A.1.2.2.1.2.2.2.2.2.1 = (k : Int) := ⟨(A.1.2.2.1.2.2.2.2.2.1).toNat, by omega⟩
        exact ktC3 (d := 9) (by omega) (k := k) (by omega) i f14 ((pI_md M1 rfl).trans (d7.trans hkb)) ((pI_md M1 rfl).trans (d6.trans hk)) (fun h3 r i3 m3 hr => at_ h3 r 12 i3 (M1.seq (m3.sub rfl)) (by omega) (by decide) ((hr.trans hk.symm).trans (if_pos hkb).symm))
      · exact ktC4 (d := 9) (by omega) (kb := A.1.2.2.1.2.2.2.2.2.2) i (by omega) f14 ((pI_md M1 rfl).trans d7) (fun h3 r i3 m3 hr => at_ h3 r 12 i3 (M1.seq (m3.sub rfl)) (by omega) (by decide) (hr.trans (if_neg hkb).symm))
    · have M1 : sMd [(0, 2, 3)] _ h1 := m.sub rfl
      exact ktC5 (d := 9) (by omega) (k := A.2.2.2.1) (by omega) i f15 ((pI_md M1 rfl).trans Um.1) (fun h3 r i3 m3 hr => at_ h3 r 13 i3 (M1.seq (m3.sub rfl)) (by omega) (by decide) hr)
