/-! sums over the GLASSES -/
def suF (v : Nat → Int) : Nat → Nat → Int → Int
  | 0, _, a => a
  | m + 1, g, a => suF v m (g + 1) (a + v g)
/-! sift -/
def siV (N : zN) (s : zSt) (x : Int) (g : Nat) : Int := if N 6 g ≤ x then s 0 g + s 1 g else 0
theorem zSiC {l : Launch} {Γ : zG} {Kp : Option Value → zH → Prop} {h0 : zH} {s : zSt} {N : zN} {S : zS} {t : Nat} (ht : t < 2) (hS : S 1 ≤ 8) (hC : CS 43 s h0) (hT : CTt t N S h0) {n : Int} (hB : SB n s) {x v : Int} (hx : 1 ≤ x ∧ x ≤ 9) (hK : ∀ (r : Int32) (h' : zH), sInv swC h' → sMd [] h0 h' → r.toInt = v → Kp (some (.int r)) h') : ∀ (m g : Nat) (a : Int) (lo : zL) (h : zH), g + m = S 1 → (0 ≤ a ∧ a ≤ 1998 * (g : Int)) → suF (siV N s x) m g a = v → sInv swC h → sMd [] h0 h → zget lo 0 = some (.ref 0) → zI lo 1 x → zI lo 2 a → zI lo 3 (g : Int) → zX l Γ false 10 (zhd 155) (zMQ' Γ false (zhd 155) Kp) 0 0 16 lo [] h
  | 0, g, a, lo, h, hg, ha, hv, hi, hm, l0, l1, l2, l3 => by
    refine kqS2 (d := 9) (by omega) (g := g) (by omega) ht (n := (S 1 : Int)) hi hx (by omega) (by omega) l0 l1 l2 l3 ((pI_md hm rfl).trans hT.2.1.2.1) ((hm 0 5 rfl).2.1.trans hT.1) (fun h' r i1 m1 hr => hK r h' i1 (hm.seq (m1.sub rfl)) (hr.trans hv))
  | m + 1, g, a, lo, h, hg, ha, hv, hi, hm, l0, l1, l2, l3 => by
    have g8 : g < 8 := by omega
    obtain ⟨w0, w1, -⟩ := hB.1 g g8
    obtain ⟨c0, c1, -, -⟩ := hC.1 g g8
    have q := (hT.2.2.1 g (by omega)).2.2.2.2.2
    simp only [suF] at hv
    refine kqS1 (d := 9) (by omega) g8 ht (n := (S 1 : Int)) (co := N 6 g) (ab := s 0 g) (bl := s 1 g) hi hx (by omega) (by omega) (by rw [← q]; exact i32bd _) w0 w1 l0 l1 l2 l3 ((pI_md hm rfl).trans hT.2.1.2.1) ((pI_md hm rfl).trans q) ((pI_md hm rfl).trans c0) ((pI_md hm rfl).trans c1) ((hm 0 5 rfl).2.1.trans hT.1) (fun lo1 h1 i1 m1 c a0 a1 a2 a3 => ?_) (fun lo1 h1 i1 m1 c a0 a1 a2 a3 => ?_)
    · have e : siV N s x g = 0 := if_neg (by omega)
      rw [e] at hv
      exact zSiC ht hS hC hT hB hx hK m (g + 1) (a + 0) lo1 h1 (by omega) (by omega) hv i1 (hm.seq (m1.sub rfl)) a0 a1 (by rw [Int.add_zero]; exact a2) (by rw [Int.natCast_add]; exact a3)
    · have e : siV N s x g = s 0 g + s 1 g := if_pos (by omega)
      rw [e] at hv
      exact zSiC ht hS hC hT hB hx hK m (g + 1) (a + (s 0 g + s 1 g)) lo1 h1 (by omega) (by omega) hv i1 (hm.seq (m1.sub rfl)) a0 a1 (by rw [← Int.add_assoc]; exact a2) (by rw [Int.natCast_add]; exact a3)
theorem zSiM {l : Launch} {Γ : zG} {Kp : Option Value → zH → Prop} {h0 : zH} {s : zSt} {N : zN} {S : zS} (hS : S 1 ≤ 8) (hM : MS S 0 s h0) (hT : TMt N S h0) {n : Int} (hB : SB n s) {x v : Int} (hx : 1 ≤ x ∧ x ≤ 9) (hK : ∀ (r : Int32) (h' : zH), sInv swM h' → sMd [(0, 2, 3)] h0 h' → r.toInt = v → Kp (some (.int r)) h') : ∀ (m g : Nat) (a : Int) (lo : zL) (h : zH), g + m = S 1 → (0 ≤ a ∧ a ≤ 1998 * (g : Int)) → suF (siV N s x) m g a = v → sInv swM h → sMd [(0, 2, 3)] h0 h → zget lo 0 = some (.ref 0) → zI lo 1 x → zI lo 2 a → zI lo 3 (g : Int) → zX l Γ false 10 (zhd 293) (zMQ' Γ false (zhd 293) Kp) 0 0 21 lo [] h
  | 0, g, a, lo, h, hg, ha, hv, hi, hm, l0, l1, l2, l3 => by
    refine krS2 (d := 9) (by omega) (g := g) (by omega) (n := (S 1 : Int)) hi hx (by omega) (by omega) l0 l1 l2 l3 ((pI_md hm rfl).trans hT.1.2.1) (fun h' r i1 m1 hr => hK r h' i1 (hm.seq (m1.sub rfl)) (hr.trans hv))
  | m + 1, g, a, lo, h, hg, ha, hv, hi, hm, l0, l1, l2, l3 => by
    have g8 : g < 8 := by omega
    obtain ⟨w0, w1, -⟩ := hB.1 g g8
    obtain ⟨c0, c1, -⟩ := hM.1 g (by omega)
    rw [show 8 * 0 + g = g from by omega] at c0 c1
    have q := (hT.2.2.2.1 g (by omega)).2.2.2.2.2
    simp only [suF] at hv
    have n1 : ∀ q j, 1 ≤ q → pI h q j = pI h0 q j := fun q j hq => pI_md hm (smemc (by omega) smem0)
    refine krS1 (d := 9) (by omega) g8 (n := (S 1 : Int)) (co := N 6 g) (ab := s 0 g) (bl := s 1 g) hi hx (by omega) (by omega) (by rw [← q]; exact i32bd _) w0 w1 l0 l1 l2 l3 ((pI_md hm rfl).trans hT.1.2.1) ((n1 _ _ (by decide)).trans q) ((n1 _ _ (by decide)).trans c0) ((n1 _ _ (by decide)).trans c1) (fun lo1 h1 i1 m1 c a0 a1 a2 a3 => ?_) (fun lo1 h1 i1 m1 c a0 a1 a2 a3 => ?_)
    · have e : siV N s x g = 0 := if_neg (by omega)
      rw [e] at hv
      exact zSiM hS hM hT hB hx hK m (g + 1) (a + 0) lo1 h1 (by omega) (by omega) hv i1 (hm.seq (m1.sub rfl)) a0 a1 (by rw [Int.add_zero]; exact a2) (by rw [Int.natCast_add]; exact a3)
    · have e : siV N s x g = s 0 g + s 1 g := if_pos (by omega)
      rw [e] at hv
      exact zSiM hS hM hT hB hx hK m (g + 1) (a + (s 0 g + s 1 g)) lo1 h1 (by omega) (by omega) hv i1 (hm.seq (m1.sub rfl)) a0 a1 (by rw [← Int.add_assoc]; exact a2) (by rw [Int.natCast_add]; exact a3)
def siQ (N : zN) (S : zS) (s : zSt) (x : Int) : Int := if 1 ≤ x ∧ x ≤ 9 then suF (siV N s x) (S 1) 0 0 else -1
theorem zps29 (l : Launch) {f1 f2 : zH} {A : zGb} (g1 : zGC A f1) (g2 : zGM A f2) {n : Int} (_h0 : 0 ≤ n ∧ n ≤ 1990000000) (hb : zGB n A) (x : Int32) : ∃ (a : Int32) (A' : zGb), zGB n A' ∧ (∀ Γ : zG, zSem l Γ false 10 (zhd 155) [.ref 0, .int x] f1 (fun r f => r = some (.int a) ∧ zGC A' f)) ∧ (∀ Γ : zG, zSem l Γ false 10 (zhd 293) [.ref 0, .int x] f2 (fun r f => r = some (.int a) ∧ zGM A' f)) := by
  obtain ⟨t, ht, C⟩ := g1.sc
  have hS := hb.2.1.1.2.1
  refine ⟨Int32.ofInt (siQ A.1.2.2.2.1 A.1.2.2.2.2 A.2.1 x.toInt), A, hb, fun Γ => ?_, fun Γ => ?_⟩
  · have fin : ∀ (h' : zH) (r : Int32), sInv swC h' → sMd [] f1 h' → r.toInt = siQ A.1.2.2.2.1 A.1.2.2.2.2 A.2.1 x.toInt → (some (Value.int r) = some (.int (Int32.ofInt (siQ A.1.2.2.2.1 A.1.2.2.2.2 A.2.1 x.toInt))) ∧ zGC A h') := fun h' r i m e => ⟨by rw [i32of e], g1.md i m (by decide +kernel) (by decide +kernel)⟩
    have no : ¬ (1 ≤ x.toInt ∧ x.toInt ≤ 9) → siQ A.1.2.2.2.1 A.1.2.2.2.2 A.2.1 x.toInt = -1 := fun h => if_neg h
    refine kqS0 (d := 9) (by omega) g1.1.1 (i32bd x) rfl (fun lo1 h1 i1 m1 c0 c1 l0 l1 l2 l3 => ?_) (fun h' r i m c e => fin h' r i (m.sub rfl) (e.trans (no (by omega)).symm)) (fun h' r i m c c' e => fin h' r i (m.sub rfl) (e.trans (no (by omega)).symm))
    exact zSiC (h0 := f1) (s := A.2.1) (N := A.1.2.2.2.1) ht hS C.2.1 C.1.1 hb.2.2.1.1 (x := x.toInt) (v := siQ A.1.2.2.2.1 A.1.2.2.2.2 A.2.1 x.toInt) (by omega) (fun r h' i m e => fin h' r i m e) (A.1.2.2.2.2 1) 0 0 lo1 h1 (by omega) (by omega) (if_pos (by omega)).symm i1 (m1.sub rfl) l0 l1 l2 l3
  · have fin : ∀ (h' : zH) (r : Int32), sInv swM h' → sMd [(0, 2, 3)] f2 h' → r.toInt = siQ A.1.2.2.2.1 A.1.2.2.2.2 A.2.1 x.toInt → (some (Value.int r) = some (.int (Int32.ofInt (siQ A.1.2.2.2.1 A.1.2.2.2.2 A.2.1 x.toInt))) ∧ zGM A h') := fun h' r i m e => ⟨by rw [i32of e], g2.md' i m (by decide +kernel)⟩
    have no : ¬ (1 ≤ x.toInt ∧ x.toInt ≤ 9) → siQ A.1.2.2.2.1 A.1.2.2.2.2 A.2.1 x.toInt = -1 := fun h => if_neg h
    refine krS0 (d := 9) (by omega) g2.1.1 (i32bd x) rfl (fun lo1 h1 i1 m1 c0 c1 _ l0 l1 l2 l3 => ?_) (fun h' r i m c _ e => fin h' r i (m.sub rfl) (e.trans (no (by omega)).symm)) (fun h' r i m c c' _ e => fin h' r i (m.sub rfl) (e.trans (no (by omega)).symm))
    exact zSiM (h0 := f2) (s := A.2.1) (N := A.1.2.2.2.1) hS g2.2.1 g2.sm.1 hb.2.2.1.1 (x := x.toInt) (v := siQ A.1.2.2.2.1 A.1.2.2.2.2 A.2.1 x.toInt) (by omega) (fun r h' i m e => fin h' r i m e) (A.1.2.2.2.2 1) 0 0 lo1 h1 (by omega) (by omega) (if_pos (by omega)).symm i1 (m1.sub rfl) l0 l1 l2 l3
/-! heaviest -/
def hvT (s : zSt) (g : Nat) : Int := s 0 g + s 1 g
def hvF (s : zSt) : Nat → Nat → Int → Int
  | 0, _, b => b
  | m + 1, g, b => hvF s m (g + 1) (if b < 0 ∨ hvT s b.toNat < hvT s g then (g : Int) else b)
theorem zHvC {l : Launch} {Γ : zG} {Kp : Option Value → zH → Prop} {h0 : zH} {s : zSt} {N : zN} {S : zS} {t : Nat} (ht : t < 2) (hS : S 1 ≤ 8) (hC : CS 43 s h0) (hT : CTt t N S h0) {n : Int} (hB : SB n s) {v : Int} (hK : ∀ (r : Int32) (h' : zH), sInv swC h' → sMd [] h0 h' → r.toInt = v → Kp (some (.int r)) h') : ∀ (m g : Nat) (b bv : Int) (lo : zL) (h : zH), g + m = S 1 → ((b = -1 ∧ bv = -1) ∨ (0 ≤ b ∧ b < (g : Int) ∧ bv = hvT s b.toNat)) → hvF s m g b = v → sInv swC h → sMd [] h0 h → zget lo 0 = some (.ref 0) → zI lo 1 b → zI lo 2 bv → zI lo 3 (g : Int) → zX l Γ false 10 (zhd 152) (zMQ' Γ false (zhd 152) Kp) 0 0 6 lo [] h
  | 0, g, b, bv, lo, h, hg, ha, hv, hi, hm, l0, l1, l2, l3 => by
    have bb : -1 ≤ bv ∧ bv ≤ 1998 := by
      rcases ha with ⟨e1, e2⟩ | ⟨e1, e2, e3⟩
      · omega
      · obtain ⟨w0, w1, -⟩ := hB.1 b.toNat (by omega)
        unfold hvT at e3
        omega
    refine kqH2 (d := 9) (by omega) (g := g) (by omega) ht (n := (S 1 : Int)) hi (by omega) bb (by omega) l0 l1 l2 l3 ((pI_md hm rfl).trans hT.2.1.2.1) ((hm 0 5 rfl).2.1.trans hT.1) (fun h' r i1 m1 hr => hK r h' i1 (hm.seq (m1.sub rfl)) (hr.trans hv))
  | m + 1, g, b, bv, lo, h, hg, ha, hv, hi, hm, l0, l1, l2, l3 => by
    have g8 : g < 8 := by omega
    obtain ⟨w0, w1, -⟩ := hB.1 g g8
    obtain ⟨c0, c1, -, -⟩ := hC.1 g g8
    have bb : -1 ≤ bv ∧ bv ≤ 1998 := by
      rcases ha with ⟨e1, e2⟩ | ⟨e1, e2, e3⟩
      · omega
      · obtain ⟨w0, w1, -⟩ := hB.1 b.toNat (by omega)
        unfold hvT at e3
        omega
    have eg : hvT s g = s 0 g + s 1 g := rfl
    simp only [hvF] at hv
    refine kqH1 (d := 9) (by omega) g8 ht (n := (S 1 : Int)) (ab := s 0 g) (bl := s 1 g) hi (by omega) bb (by omega) w0 w1 l0 l1 l2 l3 ((pI_md hm rfl).trans hT.2.1.2.1) ((pI_md hm rfl).trans c0) ((pI_md hm rfl).trans c1) ((hm 0 5 rfl).2.1.trans hT.1) (fun lo1 h1 i1 m1 c a0 a1 a2 a3 => ?_) (fun lo1 h1 i1 m1 c a0 a1 a2 a3 => ?_)
    · rw [if_neg (by omega)] at hv
      exact zHvC ht hS hC hT hB hK m (g + 1) b bv lo1 h1 (by omega) (by omega) hv i1 (hm.seq (m1.sub rfl)) a0 a1 a2 (by rw [Int.natCast_add]; exact a3)
    · rw [if_pos (by omega)] at hv
      exact zHvC ht hS hC hT hB hK m (g + 1) (g : Int) (s 0 g + s 1 g) lo1 h1 (by omega) (Or.inr ⟨by omega, by omega, by rw [Int.toNat_natCast]; rfl⟩) hv i1 (hm.seq (m1.sub rfl)) a0 a1 a2 (by rw [Int.natCast_add]; exact a3)
theorem zHvM {l : Launch} {Γ : zG} {Kp : Option Value → zH → Prop} {h0 : zH} {s : zSt} {N : zN} {S : zS} (hS : S 1 ≤ 8) (hM : MS S 0 s h0) (hT : TMt N S h0) {n : Int} (hB : SB n s) {v : Int} (hK : ∀ (r : Int32) (h' : zH), sInv swM h' → sMd [(0, 2, 3)] h0 h' → r.toInt = v → Kp (some (.int r)) h') : ∀ (m g : Nat) (b : Int) (lo : zL) (h : zH), g + m = S 1 → (b = -1 ∨ (0 ≤ b ∧ b < (g : Int))) → hvF s m g b = v → sInv swM h → sMd [(0, 2, 3)] h0 h → zget lo 0 = some (.ref 0) → zI lo 1 b → zI lo 2 (g : Int) → zX l Γ false 10 (zhd 290) (zMQ' Γ false (zhd 290) Kp) 0 0 9 lo [] h
  | 0, g, b, lo, h, hg, ha, hv, hi, hm, l0, l1, l2 => by
    refine krH3 (d := 9) (by omega) (g := g) (by omega) (n := (S 1 : Int)) hi (by omega) (by omega) l0 l1 l2 ((pI_md hm rfl).trans hT.1.2.1) (fun h' r i1 m1 hr => hK r h' i1 (hm.seq (m1.sub rfl)) (hr.trans hv))
  | m + 1, g, b, lo, h, hg, ha, hv, hi, hm, l0, l1, l2 => by
    have g8 : g < 8 := by omega
    have n1 : ∀ q j, 1 ≤ q → pI h q j = pI h0 q j := fun q j hq => pI_md hm (smemc (by omega) smem0)
    have cc : ∀ j, j < S 1 → pI h 29 j = s 0 j ∧ pI h 30 j = s 1 j := fun j hj => by
      obtain ⟨c0, c1, -⟩ := hM.1 j hj
      rw [show 8 * 0 + j = j from by omega] at c0 c1
      exact ⟨(n1 _ _ (by decide)).trans c0, (n1 _ _ (by decide)).trans c1⟩
    simp only [hvF] at hv
    rcases ha with rfl | ⟨e1, e2⟩
    · refine krH1 (d := 9) (by omega) g8 (n := (S 1 : Int)) hi (by omega) l0 l1 l2 ((pI_md hm rfl).trans hT.1.2.1) (fun lo1 h1 i1 m1 a0 a1 a2 => ?_)
      rw [if_pos (Or.inl (by decide))] at hv
      exact zHvM hS hM hT hB hK m (g + 1) (g : Int) lo1 h1 (by omega) (by omega) hv i1 (hm.seq (m1.sub rfl)) a0 a1 (by rw [Int.natCast_add]; exact a2)
    · obtain ⟨c, rfl⟩ : ∃ c : Nat, b = (c : Int) := ⟨b.toNat, by omega⟩
      obtain ⟨w0, w1, -⟩ := hB.1 g g8
      obtain ⟨x0, x1, -⟩ := hB.1 c (by omega)
      obtain ⟨p0, p1⟩ := cc g (by omega)
      obtain ⟨q0, q1⟩ := cc c (by omega)
      have eg : hvT s g = s 0 g + s 1 g := rfl
      have ec : hvT s c = s 0 c + s 1 c := rfl
      rw [Int.toNat_natCast] at hv
      have ez : ((c : Int) + 0).toNat = c := by omega
      refine krH2 (d := 9) (by omega) g8 (bb := (c : Int)) (n := (S 1 : Int)) (ab := s 0 g) (bl := s 1 g) (ax := s 0 c) (bx := s 1 c) hi (by omega) (by omega) w0 w1 x0 x1 l0 l1 l2 ((pI_md hm rfl).trans hT.1.2.1) p0 p1 (by rw [ez]; exact q0) (by rw [ez]; exact q1) (fun lo1 h1 i1 m1 c a0 a1 a2 => ?_) (fun lo1 h1 i1 m1 c a0 a1 a2 => ?_)
      · rw [if_neg (by omega)] at hv
        exact zHvM hS hM hT hB hK m (g + 1) _ lo1 h1 (by omega) (by omega) hv i1 (hm.seq (m1.sub rfl)) a0 a1 (by rw [Int.natCast_add]; exact a2)
      · rw [if_pos (by omega)] at hv
        exact zHvM hS hM hT hB hK m (g + 1) _ lo1 h1 (by omega) (by omega) hv i1 (hm.seq (m1.sub rfl)) a0 a1 (by rw [Int.natCast_add]; exact a2)
theorem zps26 (l : Launch) {f1 f2 : zH} {A : zGb} (g1 : zGC A f1) (g2 : zGM A f2) {n : Int} (_h0 : 0 ≤ n ∧ n ≤ 1990000000) (hb : zGB n A) : ∃ (a : Int32) (A' : zGb), zGB n A' ∧ (∀ Γ : zG, zSem l Γ false 10 (zhd 152) [.ref 0] f1 (fun r f => r = some (.int a) ∧ zGC A' f)) ∧ (∀ Γ : zG, zSem l Γ false 10 (zhd 290) [.ref 0] f2 (fun r f => r = some (.int a) ∧ zGM A' f)) := by
  obtain ⟨t, ht, C⟩ := g1.sc
  have hS := hb.2.1.1.2.1
  refine ⟨Int32.ofInt (hvF A.2.1 (A.1.2.2.2.2 1) 0 (-1)), A, hb, fun Γ => ?_, fun Γ => ?_⟩
  · refine kqH0 (d := 9) (by omega) g1.1.1 (fun lo1 h1 i1 m1 l0 l1 l2 l3 => ?_)
    exact zHvC (h0 := f1) (s := A.2.1) ht hS C.2.1 C.1.1 hb.2.2.1.1 (fun r h' i m e => ⟨by rw [i32of e], g1.md i m (by decide +kernel) (by decide +kernel)⟩) (A.1.2.2.2.2 1) 0 (-1) (-1) lo1 h1 (by omega) (Or.inl ⟨rfl, rfl⟩) rfl i1 (m1.sub rfl) l0 l1 l2 l3
  · refine krH0 (d := 9) (by omega) g2.1.1 (fun lo1 h1 i1 m1 _ l0 l1 l2 => ?_)
    exact zHvM (h0 := f2) (s := A.2.1) hS g2.2.1 g2.sm.1 hb.2.2.1.1 (fun r h' i m e => ⟨by rw [i32of e], g2.md' i m (by decide +kernel)⟩) (A.1.2.2.2.2 1) 0 (-1) lo1 h1 (by omega) (Or.inl rfl) rfl i1 (m1.sub rfl) l0 l1 l2
