/-! wets -/
theorem wsT : ((List.range 256).all fun w => (List.range 8).all fun g => (decide (wbT w g ≠ 0) || decide (w % 2 ^ (g + 1) = w % 2 ^ g)) && ((decide (wbT w g ≠ 1) || decide (sgfn 0 ((w % 2 ^ g : Nat) : Int) (sgfn 3 1 (g : Int)) = ((w % 2 ^ (g + 1) : Nat) : Int))) && decide (sgfn 0 ((w % 2 ^ g : Nat) : Int) 0 = ((w % 2 ^ g : Nat) : Int)))) = true := by decide +kernel
theorem wsT_at {w g : Nat} (hw : w < 256) (hg : g < 8) : (wbT w g = 0 → w % 2 ^ (g + 1) = w % 2 ^ g) ∧ (wbT w g = 1 → sgfn 0 ((w % 2 ^ g : Nat) : Int) (sgfn 3 1 (g : Int)) = ((w % 2 ^ (g + 1) : Nat) : Int)) ∧ sgfn 0 ((w % 2 ^ g : Nat) : Int) 0 = ((w % 2 ^ g : Nat) : Int) := by
  have t := zall_r (zall_r wsT hw) hg
  simp only [Bool.and_eq_true, Bool.or_eq_true, decide_eq_true_eq] at t
  obtain ⟨t1, t2, t3⟩ := t
  exact ⟨fun e => t1.resolve_left (fun h => h e), fun e => t2.resolve_left (fun h => h e), t3⟩
theorem wsE {w : Nat} (hw : w < 256) : ∀ (m g : Nat), g + m = 8 → (∀ j, g ≤ j → j < 8 → wbT w j = 0) → w % 2 ^ g = w
  | 0, g, h, _ => by
    have : g = 8 := by omega
    subst this
    exact Nat.mod_eq_of_lt hw
  | m + 1, g, h, hz => by
    rw [← (wsT_at hw (show g < 8 by omega)).1 (hz g (Nat.le_refl _) (by omega))]
    exact wsE hw m (g + 1) (by omega) (fun j a b => hz j (by omega) b)
theorem zWeL {l : Launch} {Γ : zG} {Kp : Option Value → zH → Prop} {h0 : zH} {s : zSt} {S : zS} {w : Nat} (hw : w < 256) (hS : S 1 ≤ 8) (hs : ∀ g, g < 8 → wbT w g = s 2 g) (hz : ∀ g, S 1 ≤ g → g < 8 → s 2 g = 0) (hM : MS S 0 s h0) (hn : pI h0 0 13 = (S 1 : Int)) (hb : ∀ g, g < 8 → s 2 g = 0 ∨ s 2 g = 1) (hK : ∀ (r : Int32) (h' : zH), sInv swM h' → sMd [(0, 2, 3)] h0 h' → r.toInt = (w : Int) → Kp (some (.int r)) h') : ∀ (m g : Nat) (lo : zL) (h : zH), g + m = S 1 → sInv swM h → sMd [(0, 2, 3)] h0 h → zget lo 0 = some (.ref 0) → zI lo 1 ((w % 2 ^ g : Nat) : Int) → zI lo 2 (g : Int) → zX l Γ false 10 (zhd 291) (zMQ' Γ false (zhd 291) Kp) 0 0 9 lo [] h
  | 0, g, lo, h, hg, hi, hm, l0, l1, l2 => by
    have hl : w % 2 ^ g < 256 := Nat.lt_of_le_of_lt (Nat.mod_le _ _) hw
    refine krW2 (d := 9) (by omega) (g := g) (by omega) (n := (S 1 : Int)) hi (by omega) (by omega) l0 l1 l2 ((pI_md hm rfl).trans hn) (fun h' r i1 m1 hr => hK r h' i1 (hm.seq (m1.sub rfl)) ?_)
    rw [hr, wsE hw (8 - g) g (by omega) (fun j a b => (hs j b).trans (hz j (by omega) b))]
  | m + 1, g, lo, h, hg, hi, hm, l0, l1, l2 => by
    have g8 : g < 8 := by omega
    have hl : w % 2 ^ g < 256 := Nat.lt_of_le_of_lt (Nat.mod_le _ _) hw
    obtain ⟨t1, t2, t3⟩ := wsT_at hw g8
    have e := (hM.1 g (by omega)).2.2.1
    rw [show 8 * 0 + g = g from by omega] at e
    refine krW1 (d := 9) (by omega) g8 (n := (S 1 : Int)) (wv := s 2 g) hi (by omega) (by omega) (by have := hb g g8; omega) l0 l1 l2 ((pI_md hm rfl).trans hn) ((pI_md hm rfl).trans e) (fun lo1 h1 w0 i1 m1 e0 c0 a0 a1 a2 => ?_) (fun lo1 h1 w0 w1 i1 m1 e0 e1 c0 a0 a1 a2 => ?_)
    · rw [e0, t3, ← t1 ((hs g g8).trans c0)] at a1
      exact zWeL hw hS hs hz hM hn hb hK m (g + 1) lo1 h1 (by omega) i1 (hm.seq (m1.sub rfl)) a0 a1 (by rw [Int.natCast_add]; exact a2)
    · rw [e1, e0, t2 ((hs g g8).trans ((hb g g8).resolve_left c0))] at a1
      exact zWeL hw hS hs hz hM hn hb hK m (g + 1) lo1 h1 (by omega) i1 (hm.seq (m1.sub rfl)) a0 a1 (by rw [Int.natCast_add]; exact a2)
theorem zps27 (l : Launch) {f1 f2 : zH} {A : zGb} (g1 : zGC A f1) (g2 : zGM A f2) {n : Int} (_h0 : 0 ≤ n ∧ n ≤ 1990000000) (hb : zGB n A) : ∃ (a : Int32) (A' : zGb), zGB n A' ∧ (∀ Γ : zG, zSem l Γ false 10 (zhd 153) [.ref 0] f1 (fun r f => r = some (.int a) ∧ zGC A' f)) ∧ (∀ Γ : zG, zSem l Γ false 10 (zhd 291) [.ref 0] f2 (fun r f => r = some (.int a) ∧ zGM A' f)) := by
  obtain ⟨w0, w1, w2⟩ := g1.2.1.2.2.2
  obtain ⟨w, hw⟩ : ∃ w : Nat, pI f1 43 3 = (w : Int) := ⟨(pI f1 43 3).toNat, by omega⟩
  rw [hw] at w2
  have hS := hb.2.1.1.2.1
  have hX := hb.2.2.1
  refine ⟨Int32.ofInt (w : Int), A, hb, fun Γ => ?_, fun Γ => ?_⟩
  · exact kqW (d := 9) (by omega) g1.1.1 (wv := (w : Int)) (by omega) hw (fun h' r i1 m1 hr => ⟨by rw [i32of hr], g1.md i1 m1 (by decide +kernel) (by decide +kernel)⟩)
  · refine krW0 (d := 9) (by omega) g2.1.1 (fun lo1 h1 i1 m1 _ a0 a1 a2 => ?_)
    refine zWeL (h0 := f2) (s := A.2.1) (S := A.1.2.2.2.2) (w := w) (by omega) hS w2 (fun g a b => hX.2.1 g a b 2 (by decide)) g2.2.1 (g2.sm.1.1.2.1) (fun g hg => (hX.1.1 g hg).2.2.1) (fun r h' i' m' hr => ⟨by rw [i32of hr], g2.md' i' m' (by decide +kernel)⟩) (A.1.2.2.2.2 1) 0 lo1 h1 (by omega) i1 (m1.sub rfl) a0 ?_ a2
    rw [show w % 2 ^ 0 = 0 from Nat.mod_one w]
    exact a1
/-! toCome -/
def tcF (s : zSt) : Nat → Nat → Int → Int
  | 0, _, a => a
  | m + 1, p, a => tcF s m (p + 1) (if s 5 p = 0 then sgfn 0 a (sgfn 3 1 (p : Int)) else a)
theorem tcTb : ((List.range 1024).all fun a => decide (sgfn 0 (a : Int) 0 = (a : Int)) && (List.range 10).all fun p => decide (0 ≤ sgfn 0 (a : Int) (sgfn 3 1 (p : Int))) && decide (sgfn 0 (a : Int) (sgfn 3 1 (p : Int)) ≤ 1023)) = true := by decide +kernel
theorem tcTb_at {a : Int} (h0 : 0 ≤ a) (h1 : a ≤ 1023) : sgfn 0 a 0 = a ∧ ∀ p : Nat, p < 10 → 0 ≤ sgfn 0 a (sgfn 3 1 (p : Int)) ∧ sgfn 0 a (sgfn 3 1 (p : Int)) ≤ 1023 := by
  obtain ⟨n, rfl⟩ : ∃ n : Nat, a = (n : Int) := ⟨a.toNat, by omega⟩
  have t := zall_r tcTb (k := n) (by omega)
  simp only [Bool.and_eq_true, decide_eq_true_eq] at t
  refine ⟨t.1, fun p hp => ?_⟩
  have t2 := zall_r t.2 hp
  simp only [Bool.and_eq_true, decide_eq_true_eq] at t2
  exact t2
theorem zTcC {l : Launch} {Γ : zG} {Kp : Option Value → zH → Prop} {h0 : zH} {s : zSt} {N : zN} {S : zS} {t : Nat} (ht : t < 2) (hS : S 3 ≤ 10) (hC : CS 43 s h0) (hT : CTt t N S h0) (hb : ∀ p, p < 10 → 0 ≤ s 5 p ∧ s 5 p ≤ 2) {v : Int} (hK : ∀ (r : Int32) (h' : zH), sInv swC h' → sMd [] h0 h' → r.toInt = v → Kp (some (.int r)) h') : ∀ (m p : Nat) (a : Int) (lo : zL) (h : zH), p + m = S 3 → (0 ≤ a ∧ a ≤ 1023) → tcF s m p a = v → sInv swC h → sMd [] h0 h → zget lo 0 = some (.ref 0) → zI lo 1 a → zI lo 2 (p : Int) → zX l Γ false 10 (zhd 157) (zMQ' Γ false (zhd 157) Kp) 0 0 4 lo [] h
  | 0, p, a, lo, h, hp, ha, hv, hi, hm, l0, l1, l2 => by
    refine kqT2 (d := 9) (by omega) (p := p) (by omega) ht (n := (S 3 : Int)) hi ha (by omega) l0 l1 l2 ((pI_md hm rfl).trans hT.2.1.2.2.2.1) ((hm 0 5 rfl).2.1.trans hT.1) (fun h' r i1 m1 hr => hK r h' i1 (hm.seq (m1.sub rfl)) (hr.trans hv))
  | m + 1, p, a, lo, h, hp, ha, hv, hi, hm, l0, l1, l2 => by
    have p10 : p < 10 := by omega
    have q := (tcTb_at ha.1 ha.2).2 p p10
    refine kqT1 (d := 9) (by omega) p10 ht (n := (S 3 : Int)) (dn := s 5 p) hi ha (by omega) (hb p p10) l0 l1 l2 ((pI_md hm rfl).trans hT.2.1.2.2.2.1) ((pI_md hm rfl).trans (hC.2.1 p p10)) ((hm 0 5 rfl).2.1.trans hT.1) (fun lo1 h1 w0 w1 i1 m1 e0 e1 c0 a0 a1 a2 => ?_) (fun lo1 h1 i1 m1 c0 a0 a1 a2 => ?_)
    · rw [e1, e0] at a1
      refine zTcC ht hS hC hT hb hK m (p + 1) _ lo1 h1 (by omega) q ?_ i1 (hm.seq (m1.sub rfl)) a0 a1 (by rw [Int.natCast_add]; exact a2)
      rw [← hv]
      simp only [tcF]
      rw [if_pos c0]
    · refine zTcC ht hS hC hT hb hK m (p + 1) a lo1 h1 (by omega) ha ?_ i1 (hm.seq (m1.sub rfl)) a0 a1 (by rw [Int.natCast_add]; exact a2)
      rw [← hv]
      simp only [tcF]
      rw [if_neg c0]
theorem zTcM {l : Launch} {Γ : zG} {Kp : Option Value → zH → Prop} {h0 : zH} {s : zSt} {S : zS} (hS : S 3 ≤ 10) (hM : MS S 0 s h0) (hn : pI h0 0 15 = (S 3 : Int)) (hb : ∀ p, p < 10 → 0 ≤ s 5 p ∧ s 5 p ≤ 2) {v : Int} (hK : ∀ (r : Int32) (h' : zH), sInv swM h' → sMd [(0, 2, 3)] h0 h' → r.toInt = v → Kp (some (.int r)) h') : ∀ (m p : Nat) (a : Int) (lo : zL) (h : zH), p + m = S 3 → (0 ≤ a ∧ a ≤ 1023) → tcF s m p a = v → sInv swM h → sMd [(0, 2, 3)] h0 h → zget lo 0 = some (.ref 0) → zI lo 1 a → zI lo 2 (p : Int) → zX l Γ false 10 (zhd 292) (zMQ' Γ false (zhd 292) Kp) 0 0 9 lo [] h
  | 0, p, a, lo, h, hp, ha, hv, hi, hm, l0, l1, l2 => by
    refine krT2 (d := 9) (by omega) (p := p) (by omega) (n := (S 3 : Int)) hi ha (by omega) l0 l1 l2 ((pI_md hm rfl).trans hn) (fun h' r i1 m1 hr => hK r h' i1 (hm.seq (m1.sub rfl)) (hr.trans hv))
  | m + 1, p, a, lo, h, hp, ha, hv, hi, hm, l0, l1, l2 => by
    have p10 : p < 10 := by omega
    obtain ⟨q0, q⟩ := tcTb_at ha.1 ha.2
    have q := q p p10
    have e := hM.2.1 p p10
    rw [show 10 * 0 + p = p from by omega] at e
    refine krT1 (d := 9) (by omega) p10 (n := (S 3 : Int)) (dn := s 5 p) hi ha (by omega) (hb p p10) l0 l1 l2 ((pI_md hm rfl).trans hn) ((pI_md hm rfl).trans e) (fun lo1 h1 w0 w1 i1 m1 e0 e1 c0 a0 a1 a2 => ?_) (fun lo1 h1 w0 i1 m1 e0 c0 a0 a1 a2 => ?_)
    · rw [e1, e0] at a1
      refine zTcM hS hM hn hb hK m (p + 1) _ lo1 h1 (by omega) q ?_ i1 (hm.seq (m1.sub rfl)) a0 a1 (by rw [Int.natCast_add]; exact a2)
      rw [← hv]
      simp only [tcF]
      rw [if_pos c0]
    · rw [e0, q0] at a1
      refine zTcM hS hM hn hb hK m (p + 1) a lo1 h1 (by omega) ha ?_ i1 (hm.seq (m1.sub rfl)) a0 a1 (by rw [Int.natCast_add]; exact a2)
      rw [← hv]
      simp only [tcF]
      rw [if_neg c0]
theorem zps31 (l : Launch) {f1 f2 : zH} {A : zGb} (g1 : zGC A f1) (g2 : zGM A f2) {n : Int} (_h0 : 0 ≤ n ∧ n ≤ 1990000000) (hb : zGB n A) : ∃ (a : Int32) (A' : zGb), zGB n A' ∧ (∀ Γ : zG, zSem l Γ false 10 (zhd 157) [.ref 0] f1 (fun r f => r = some (.int a) ∧ zGC A' f)) ∧ (∀ Γ : zG, zSem l Γ false 10 (zhd 292) [.ref 0] f2 (fun r f => r = some (.int a) ∧ zGM A' f)) := by
  obtain ⟨t, ht, C⟩ := g1.sc
  have hS := hb.2.1.1.2.2.2.1
  have hX := hb.2.2.1.1.2.1
  refine ⟨Int32.ofInt (tcF A.2.1 (A.1.2.2.2.2 3) 0 0), A, hb, fun Γ => ?_, fun Γ => ?_⟩
  · refine kqT0 (d := 9) (by omega) g1.1.1 (fun lo1 h1 i1 m1 a0 a1 a2 => ?_)
    exact zTcC (h0 := f1) (s := A.2.1) ht hS C.2.1 C.1.1 hX (fun r h' i' m' hr => ⟨by rw [i32of hr], g1.md i' m' (by decide +kernel) (by decide +kernel)⟩) (A.1.2.2.2.2 3) 0 0 lo1 h1 (by omega) (by decide) rfl i1 (m1.sub rfl) a0 a1 a2
  · refine krT0 (d := 9) (by omega) g2.1.1 (fun lo1 h1 i1 m1 _ a0 a1 a2 => ?_)
    exact zTcM (h0 := f2) (s := A.2.1) hS g2.2.1 g2.sm.1.1.2.2.2.1 hX (fun r h' i' m' hr => ⟨by rw [i32of hr], g2.md' i' m' (by decide +kernel)⟩) (A.1.2.2.2.2 3) 0 0 lo1 h1 (by omega) (by decide) rfl i1 (m1.sub rfl) a0 a1 a2
/-! payment -/
def pyQ (N : zN) (S : zS) (s : zSt) (x y : Int) : Int := if 0 ≤ x ∧ x < (S 3 : Int) then (if y = 0 then N 9 x.toNat else if y = 1 then N 10 x.toNat else if y = 2 then N 11 x.toNat else if y = 3 then N 12 x.toNat else if y = 4 then s 5 x.toNat else -1) else -1
theorem zps6 (l : Launch) {f1 f2 : zH} {A : zGb} (g1 : zGC A f1) (g2 : zGM A f2) {n : Int} (_h0 : 0 ≤ n ∧ n ≤ 1990000000) (hb : zGB n A) (x y : Int32) : ∃ (a : Int32) (A' : zGb), zGB n A' ∧ (∀ Γ : zG, zSem l Γ false 10 (zhd 82) [.ref 0, .int x, .int y] f1 (fun r f => r = some (.int a) ∧ zGC A' f)) ∧ (∀ Γ : zG, zSem l Γ false 10 (zhd 235) [.ref 0, .int x, .int y] f2 (fun r f => r = some (.int a) ∧ zGM A' f)) := by
  obtain ⟨t, ht, C⟩ := g1.sc
  have T := C.1.1
  have M := g2.sm.1
  have hS := hb.2.1.1.2.2.2.1
  have hX := hb.2.2.1.1.2.1
  refine ⟨Int32.ofInt (pyQ A.1.2.2.2.1 A.1.2.2.2.2 A.2.1 x.toInt y.toInt), A, hb, fun Γ => ?_, fun Γ => ?_⟩
  · have fin : ∀ (h' : zH) (r : Int32) (v : Int), sInv swC h' → sMd [] f1 h' → r.toInt = v → pyQ A.1.2.2.2.1 A.1.2.2.2.2 A.2.1 x.toInt y.toInt = v → (some (Value.int r) = some (.int (Int32.ofInt (pyQ A.1.2.2.2.1 A.1.2.2.2.2 A.2.1 x.toInt y.toInt))) ∧ zGC A h') := fun h' r v i m e ev => ⟨by rw [i32of (e.trans ev.symm)], g1.md i m (by decide +kernel) (by decide +kernel)⟩
    have no : ¬ (0 ≤ x.toInt ∧ x.toInt < (A.1.2.2.2.2 3 : Int)) → pyQ A.1.2.2.2.1 A.1.2.2.2.2 A.2.1 x.toInt y.toInt = -1 := fun h => if_neg h
    refine kqP0 (d := 9) (by omega) ht (n := (A.1.2.2.2.2 3 : Int)) g1.1.1 (i32bd x) (i32bd y) (by omega) rfl rfl T.2.1.2.2.2.1 T.1 (fun lo1 h1 i1 m1 c0 c1 c2 l0 l1 l2 => ?_) (fun h' r i m c e => fin h' r _ i (m.sub rfl) e (no (by omega))) (fun h' r i m c c' e => fin h' r _ i (m.sub rfl) e (no (by omega))) (fun h' r i m c c' c'' e => fin h' r _ i (m.sub rfl) e (no (by omega)))
    obtain ⟨p, hp⟩ : ∃ p : Nat, x.toInt = (p : Int) := ⟨x.toInt.toNat, by omega⟩
    have p3 : p < A.1.2.2.2.2 3 := by omega
    have ex : x.toInt.toNat = p := by omega
    obtain ⟨q0, q1, q2, q3⟩ := T.2.2.2.2.1 p p3
    have yes : ∀ v, (if y.toInt = 0 then A.1.2.2.2.1 9 p else if y.toInt = 1 then A.1.2.2.2.1 10 p else if y.toInt = 2 then A.1.2.2.2.1 11 p else if y.toInt = 3 then A.1.2.2.2.1 12 p else if y.toInt = 4 then A.2.1 5 p else -1) = v → pyQ A.1.2.2.2.1 A.1.2.2.2.2 A.2.1 x.toInt y.toInt = v := fun v h => by
      unfold pyQ
      rw [if_pos ⟨by omega, by omega⟩, ex]
      exact h
    have n1 : ∀ q j, pI h1 q j = pI f1 q j := fun q j => pI_md m1 rfl
    rw [hp] at l1
    have k : ∀ h', sMd [] h1 h' → sMd [] f1 h' := fun h' m => (m1.sub rfl).seq m
    refine kqP1 (d := 9) (by omega) (p := p) (by omega) ht (y := y.toInt) (dn := A.2.1 5 p) (n := (A.1.2.2.2.2 3 : Int)) i1 (i32bd y) (by rw [← q0]; exact i32bd _) (by rw [← q1]; exact i32bd _) (by rw [← q2]; exact i32bd _) (by rw [← q3]; exact i32bd _) (hX p (by omega)) (by omega) l0 l1 l2 ((n1 _ _).trans q0) ((n1 _ _).trans q1) ((n1 _ _).trans q2) ((n1 _ _).trans q3) ((n1 _ _).trans (C.2.1.2.1 p (by omega))) ((n1 _ _).trans T.2.1.2.2.2.1) (((m1 0 5 rfl).2.1).trans T.1) (fun h' r i m c e => fin h' r _ i (k h' (m.sub rfl)) e (yes _ (if_pos c))) (fun h' r i m c c0 e => fin h' r _ i (k h' (m.sub rfl)) e (yes _ (by rw [if_neg c0, if_pos c]))) (fun h' r i m c c0 c1 e => fin h' r _ i (k h' (m.sub rfl)) e (yes _ (by rw [if_neg c0, if_neg c1, if_pos c]))) (fun h' r i m c c0 c1 c2 e => fin h' r _ i (k h' (m.sub rfl)) e (yes _ (by rw [if_neg c0, if_neg c1, if_neg c2, if_pos c]))) (fun h' r i m c c0 c1 c2 c3 e => fin h' r _ i (k h' (m.sub rfl)) e (yes _ (by rw [if_neg c0, if_neg c1, if_neg c2, if_neg c3, if_pos c]))) (fun h' r i m c0 c1 c2 c3 c4 e => fin h' r _ i (k h' (m.sub rfl)) e (yes _ (by rw [if_neg c0, if_neg c1, if_neg c2, if_neg c3, if_neg c4])))
  · have fin : ∀ (h' : zH) (r : Int32) (v : Int), sInv swM h' → sMd [(0, 2, 3)] f2 h' → r.toInt = v → pyQ A.1.2.2.2.1 A.1.2.2.2.2 A.2.1 x.toInt y.toInt = v → (some (Value.int r) = some (.int (Int32.ofInt (pyQ A.1.2.2.2.1 A.1.2.2.2.2 A.2.1 x.toInt y.toInt))) ∧ zGM A h') := fun h' r v i m e ev => ⟨by rw [i32of (e.trans ev.symm)], g2.md' i m (by decide +kernel)⟩
    have no : ¬ (0 ≤ x.toInt ∧ x.toInt < (A.1.2.2.2.2 3 : Int)) → pyQ A.1.2.2.2.1 A.1.2.2.2.2 A.2.1 x.toInt y.toInt = -1 := fun h => if_neg h
    refine krP0 (d := 9) (by omega) (n := (A.1.2.2.2.2 3 : Int)) g2.1.1 (i32bd x) (i32bd y) (by omega) rfl rfl M.1.2.2.2.1 (fun lo1 h1 i1 m1 c0 c1 _ l0 l1 l2 => ?_) (fun h' r i m c _ e => fin h' r _ i (m.sub rfl) e (no (by omega))) (fun h' r i m c c' _ e => fin h' r _ i (m.sub rfl) e (no (by omega)))
    obtain ⟨p, hp⟩ : ∃ p : Nat, x.toInt = (p : Int) := ⟨x.toInt.toNat, by omega⟩
    have p3 : p < A.1.2.2.2.2 3 := by omega
    have ex : x.toInt.toNat = p := by omega
    obtain ⟨q0, q1, q2, q3⟩ := M.2.2.2.2.2.1 p p3
    have q4 := g2.2.1.2.1 p (by omega)
    rw [show 10 * 0 + p = p from by omega] at q4
    have yes : ∀ v, (if y.toInt = 0 then A.1.2.2.2.1 9 p else if y.toInt = 1 then A.1.2.2.2.1 10 p else if y.toInt = 2 then A.1.2.2.2.1 11 p else if y.toInt = 3 then A.1.2.2.2.1 12 p else if y.toInt = 4 then A.2.1 5 p else -1) = v → pyQ A.1.2.2.2.1 A.1.2.2.2.2 A.2.1 x.toInt y.toInt = v := fun v h => by
      unfold pyQ
      rw [if_pos ⟨by omega, by omega⟩, ex]
      exact h
    have n1 : ∀ q j, 1 ≤ q → pI h1 q j = pI f2 q j := fun q j hq => pI_md m1 (smemc (by omega) smem0)
    rw [hp] at l1
    have k : ∀ h', sMd [] h1 h' → sMd [(0, 2, 3)] f2 h' := fun h' m => (m1.sub rfl).seq (m.sub rfl)
    exact krP1 (d := 9) (by omega) (p := p) (by omega) (y := y.toInt) (dn := A.2.1 5 p) i1 (i32bd y) (by rw [← q0]; exact i32bd _) (by rw [← q1]; exact i32bd _) (by rw [← q2]; exact i32bd _) (by rw [← q3]; exact i32bd _) (hX p (by omega)) l0 l1 l2 ((n1 _ _ (by decide)).trans q0) ((n1 _ _ (by decide)).trans q1) ((n1 _ _ (by decide)).trans q2) ((n1 _ _ (by decide)).trans q3) ((n1 _ _ (by decide)).trans q4) (fun h' r i m c e => fin h' r _ i (k h' (m.sub rfl)) e (yes _ (if_pos c))) (fun h' r i m c c0 e => fin h' r _ i (k h' (m.sub rfl)) e (yes _ (by rw [if_neg c0, if_pos c]))) (fun h' r i m c c0 c1 e => fin h' r _ i (k h' (m.sub rfl)) e (yes _ (by rw [if_neg c0, if_neg c1, if_pos c]))) (fun h' r i m c c0 c1 c2 e => fin h' r _ i (k h' (m.sub rfl)) e (yes _ (by rw [if_neg c0, if_neg c1, if_neg c2, if_pos c]))) (fun h' r i m c c0 c1 c2 c3 e => fin h' r _ i (k h' (m.sub rfl)) e (yes _ (by rw [if_neg c0, if_neg c1, if_neg c2, if_neg c3, if_pos c]))) (fun h' r i m c0 c1 c2 c3 c4 e => fin h' r _ i (k h' (m.sub rfl)) e (yes _ (by rw [if_neg c0, if_neg c1, if_neg c2, if_neg c3, if_neg c4])))
