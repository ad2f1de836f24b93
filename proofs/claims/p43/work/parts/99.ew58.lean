/-! man -/
def gN (c : Nat → Bool) : Nat → Nat → Nat → Nat
  | 0, _, a => a
  | m + 1, g, a => gN c m (g + 1) (if c g = true then a ||| 2 ^ g else a)
theorem gnT : ((List.range 256).all fun a => decide (sgfn 0 (a : Int) 0 = (a : Int)) && (List.range 8).all fun g => decide (sgfn 0 (a : Int) (sgfn 3 1 (g : Int)) = ((a ||| 2 ^ g : Nat) : Int)) && (decide (a ||| 2 ^ g < 256) && decide (2 ^ g &&& a = if wbT a g = 0 then 0 else 2 ^ g))) = true := by decide +kernel
theorem gnT_at {a : Nat} (ha : a < 256) : sgfn 0 (a : Int) 0 = (a : Int) ∧ ∀ g : Nat, g < 8 → sgfn 0 (a : Int) (sgfn 3 1 (g : Int)) = ((a ||| 2 ^ g : Nat) : Int) ∧ a ||| 2 ^ g < 256 ∧ 2 ^ g &&& a = if wbT a g = 0 then 0 else 2 ^ g := by
  have t := zall_r gnT ha
  simp only [Bool.and_eq_true, decide_eq_true_eq] at t
  refine ⟨t.1, fun g hg => ?_⟩
  have t2 := zall_r t.2 hg
  simp only [Bool.and_eq_true, decide_eq_true_eq] at t2
  exact t2
theorem anT : ((List.range 256).all fun a => (List.range 256).all fun b => decide (sgfn 2 (a : Int) (b : Int) = ((a &&& b : Nat) : Int))) = true := by decide +kernel
theorem gN_and {c : Nat → Bool} {w : Nat} (hw : w < 256) : ∀ (m g a : Nat), g + m ≤ 8 → gN c m g a &&& w = gN (fun j => c j && decide (wbT w j ≠ 0)) m g (a &&& w)
  | 0, _, _, _ => rfl
  | m + 1, g, a, h => by
    have e := ((gnT_at hw).2 g (by omega)).2.2
    simp only [gN]
    rw [gN_and hw m (g + 1) _ (by omega)]
    congr 1
    by_cases hc : c g = true
    · rw [if_pos hc, Nat.and_or_distrib_right, e]
      by_cases h0 : wbT w g = 0
      · rw [if_pos h0, if_neg (by rw [hc]; simp [h0])]
        exact Nat.or_zero _
      · rw [if_neg h0, if_pos (by rw [hc]; simp [h0])]
    · rw [if_neg hc, if_neg (by simp [hc])]
def maC (N : zN) (q : Int) (g : Nat) : Bool := decide (N 2 g = q)
theorem gN_c {c c' : Nat → Bool} : ∀ (m g a : Nat), (∀ j, g ≤ j → j < g + m → c j = c' j) → gN c m g a = gN c' m g a
  | 0, _, _, _ => rfl
  | m + 1, g, a, h => by
    simp only [gN]
    rw [h g (Nat.le_refl _) (by omega)]
    exact gN_c m (g + 1) _ (fun j a b => h j (by omega) (by omega))
theorem gN_b {c : Nat → Bool} : ∀ (m g a : Nat), g + m ≤ 8 → a < 256 → gN c m g a < 256
  | 0, _, _, _, ha => ha
  | m + 1, g, a, h, ha => by
    simp only [gN]
    refine gN_b m (g + 1) _ (by omega) ?_
    split
    · exact ((gnT_at ha).2 g (by omega)).2.1
    · exact ha
theorem zGoC {l : Launch} {Γ : zG} {d : Nat} {h0 : zH} {N : zN} {S : zS} {t : Nat} (ht : t < 2) (hS : S 1 ≤ 8) (hT : CTt t N S h0) (hi0 : sInv swC h0) {x : Int32} {q : Int} (hq : x.toInt = q) : zSem l Γ false (d + 2) (zhd 81) [.ref (17 * t + 9), .int x] h0 (fun r h' => ∃ a : Int32, r = some (.int a) ∧ a.toInt = (gN (maC N q) (S 1) 0 0 : Nat) ∧ sInv swC h' ∧ sMd [] h0 h') := by
  have bq : -2147483648 ≤ q ∧ q ≤ 2147483647 := by rw [← hq]; exact i32bd x
  have loop : ∀ (m g a : Nat) (lo : zL) (h : zH), g + m = S 1 → a < 256 → gN (maC N q) m g a = gN (maC N q) (S 1) 0 0 → sInv swC h → sMd [] h0 h → zget lo 0 = some (.ref (17 * t + 9)) → zI lo 1 q → zI lo 2 (a : Int) → zI lo 3 (g : Int) → zX l Γ false (d + 2) (zhd 81) (zMQ' Γ false (zhd 81) (fun r h' => ∃ a : Int32, r = some (.int a) ∧ a.toInt = (gN (maC N q) (S 1) 0 0 : Nat) ∧ sInv swC h' ∧ sMd [] h0 h')) 0 0 4 lo [] h := by
    intro m
    induction m with
    | zero =>
      intro g a lo h hg ha hv hi hm l0 l1 l2 l3
      exact kqG2 (d := d + 1) (by omega) (g := g) (by omega) ht (n := (S 1 : Int)) hi bq (by omega) (by omega) l0 l1 l2 l3 ((pI_md hm rfl).trans hT.2.1.2.1) (fun h' r i1 m1 hr => ⟨r, rfl, by rw [hr, ← hv]; rfl, i1, hm.seq (m1.sub rfl)⟩)
    | succ m ih =>
      intro g a lo h hg ha hv hi hm l0 l1 l2 l3
      have g8 : g < 8 := by omega
      have qw := (hT.2.2.1 g (by omega)).2.1
      obtain ⟨e1, e2, -⟩ := (gnT_at ha).2 g g8
      simp only [gN] at hv
      refine kqG1 (d := d + 1) (by omega) g8 ht (n := (S 1 : Int)) (who := N 2 g) hi bq (by omega) (by omega) (by rw [← qw]; exact i32bd _) l0 l1 l2 l3 ((pI_md hm rfl).trans hT.2.1.2.1) ((pI_md hm rfl).trans qw) (fun lo1 h1 w0 w1 i1 m1 f0 f1 c a0 a1 a2 a3 => ?_) (fun lo1 h1 i1 m1 c a0 a1 a2 a3 => ?_)
      · rw [if_pos (show maC N q g = true from decide_eq_true c)] at hv
        rw [f1, f0, e1] at a2
        exact ih (g + 1) (a ||| 2 ^ g) lo1 h1 (by omega) e2 hv i1 (hm.seq (m1.sub rfl)) a0 a1 a2 (by rw [Int.natCast_add]; exact a3)
      · rw [if_neg (by unfold maC; simp [c])] at hv
        exact ih (g + 1) a lo1 h1 (by omega) ha hv i1 (hm.seq (m1.sub rfl)) a0 a1 a2 (by rw [Int.natCast_add]; exact a3)
  exact kqG0 (d := d + 1) (by omega) ht hi0 bq hq (fun lo1 h1 i1 m1 l0 l1 l2 l3 => loop (S 1) 0 0 lo1 h1 (by omega) (by decide) rfl i1 (m1.sub rfl) l0 l1 l2 l3)
def maW (N : zN) (s : zSt) (q : Int) (g : Nat) : Bool := decide (N 2 g = q) && decide (s 2 g ≠ 0)
theorem zGoM {l : Launch} {Γ : zG} {d : Nat} {h0 : zH} {s : zSt} {N : zN} {S : zS} (hS : S 1 ≤ 8) (hM : MS S 0 s h0) (hT : TMt N S h0) {n : Int} (hB : SB n s) (hi0 : sInv swM h0) {x y : Int32} {q : Int} (hq : x.toInt = q) (hy : y.toInt = 0) : zSem l Γ false (d + 2) (zhd 234) [.ref 0, .int x, .int y] h0 (fun r h' => ∃ a : Int32, r = some (.int a) ∧ a.toInt = (gN (maC N q) (S 1) 0 0 : Nat) ∧ sInv swM h' ∧ sMd [] h0 h') := by
  have bq : -2147483648 ≤ q ∧ q ≤ 2147483647 := by rw [← hq]; exact i32bd x
  have loop : ∀ (m g a : Nat) (lo : zL) (h : zH), g + m = S 1 → a < 256 → gN (maC N q) m g a = gN (maC N q) (S 1) 0 0 → sInv swM h → sMd [] h0 h → zget lo 0 = some (.ref 0) → zI lo 1 q → zI lo 2 0 → zI lo 3 (a : Int) → zI lo 4 (g : Int) → zX l Γ false (d + 2) (zhd 234) (zMQ' Γ false (zhd 234) (fun r h' => ∃ a : Int32, r = some (.int a) ∧ a.toInt = (gN (maC N q) (S 1) 0 0 : Nat) ∧ sInv swM h' ∧ sMd [] h0 h')) 0 0 5 lo [] h := by
    intro m
    induction m with
    | zero =>
      intro g a lo h hg ha hv hi hm l0 l1 l2 l3 l4
      exact krGa2 (d := d + 1) (by omega) (g := g) (by omega) (n := (S 1 : Int)) hi bq (by omega) (by omega) l0 l1 l2 l3 l4 ((pI_md hm rfl).trans hT.1.2.1) (fun h' r i1 m1 hr => ⟨r, rfl, by rw [hr, ← hv]; rfl, i1, hm.seq (m1.sub rfl)⟩)
    | succ m ih =>
      intro g a lo h hg ha hv hi hm l0 l1 l2 l3 l4
      have g8 : g < 8 := by omega
      have qw := (hT.2.2.2.1 g (by omega)).2.1
      have c2 := (hM.1 g (by omega)).2.2.1
      rw [show 8 * 0 + g = g from by omega] at c2
      have w2 := (hB.1 g g8).2.2.1
      obtain ⟨e0, e⟩ := gnT_at ha
      obtain ⟨e1, e2, -⟩ := e g g8
      simp only [gN] at hv
      have yes : ∀ (lo1 : zL) (h1 : zH) (w0 w1 : Int), sInv swM h1 → sMd [] h h1 → w0 = sgfn 3 1 (g : Int) → w1 = sgfn 0 (a : Int) w0 → N 2 g = q → zget lo1 0 = some (.ref 0) → zI lo1 1 q → zI lo1 2 0 → zI lo1 3 w1 → zI lo1 4 ((g : Int) + 1) → zX l Γ false (d + 2) (zhd 234) (zMQ' Γ false (zhd 234) (fun r h' => ∃ a : Int32, r = some (.int a) ∧ a.toInt = (gN (maC N q) (S 1) 0 0 : Nat) ∧ sInv swM h' ∧ sMd [] h0 h')) 0 0 5 lo1 [] h1 := fun lo1 h1 w0 w1 i1 m1 f0 f1 c a0 a1 a2 a3 a4 => by
        rw [if_pos (show maC N q g = true from decide_eq_true c)] at hv
        rw [f1, f0, e1] at a3
        exact ih (g + 1) (a ||| 2 ^ g) lo1 h1 (by omega) e2 hv i1 (hm.seq m1) a0 a1 a2 a3 (by rw [Int.natCast_add]; exact a4)
      refine krGa1 (d := d + 1) (by omega) g8 (n := (S 1 : Int)) (who := N 2 g) (wt := s 2 g) hi bq (by omega) (by omega) (by rw [← qw]; exact i32bd _) (by omega) l0 l1 l2 l3 l4 ((pI_md hm rfl).trans hT.1.2.1) ((pI_md hm rfl).trans qw) ((pI_md hm rfl).trans c2) (fun lo1 h1 w0 w1 i1 m1 f0 f1 c _ a0 a1 a2 a3 a4 => yes lo1 h1 w0 w1 i1 (m1.sub rfl) f0 f1 c a0 a1 a2 a3 a4) (fun lo1 h1 w0 w1 i1 m1 f0 f1 c _ a0 a1 a2 a3 a4 => yes lo1 h1 w0 w1 i1 (m1.sub rfl) f0 f1 c a0 a1 a2 a3 a4) (fun lo1 h1 w0 i1 m1 f0 c a0 a1 a2 a3 a4 => ?_)
      rw [if_neg (by unfold maC; simp [c])] at hv
      rw [f0, e0] at a3
      exact ih (g + 1) a lo1 h1 (by omega) ha hv i1 (hm.seq (m1.sub rfl)) a0 a1 a2 a3 (by rw [Int.natCast_add]; exact a4)
  exact krGa0 (d := d + 1) (by omega) hi0 bq hq hy (fun lo1 h1 i1 m1 l0 l1 l2 l3 l4 => loop (S 1) 0 0 lo1 h1 (by omega) (by decide) rfl i1 (m1.sub rfl) l0 l1 l2 l3 l4)
theorem zGwM {l : Launch} {Γ : zG} {d : Nat} {h0 : zH} {s : zSt} {N : zN} {S : zS} (hS : S 1 ≤ 8) (hM : MS S 0 s h0) (hT : TMt N S h0) {n : Int} (hB : SB n s) (hi0 : sInv swM h0) {x y : Int32} {q : Int} (hq : x.toInt = q) (hy : y.toInt = 1) : zSem l Γ false (d + 2) (zhd 234) [.ref 0, .int x, .int y] h0 (fun r h' => ∃ a : Int32, r = some (.int a) ∧ a.toInt = (gN (maW N s q) (S 1) 0 0 : Nat) ∧ sInv swM h' ∧ sMd [] h0 h') := by
  have bq : -2147483648 ≤ q ∧ q ≤ 2147483647 := by rw [← hq]; exact i32bd x
  have loop : ∀ (m g a : Nat) (lo : zL) (h : zH), g + m = S 1 → a < 256 → gN (maW N s q) m g a = gN (maW N s q) (S 1) 0 0 → sInv swM h → sMd [] h0 h → zget lo 0 = some (.ref 0) → zI lo 1 q → zI lo 2 1 → zI lo 3 (a : Int) → zI lo 4 (g : Int) → zX l Γ false (d + 2) (zhd 234) (zMQ' Γ false (zhd 234) (fun r h' => ∃ a : Int32, r = some (.int a) ∧ a.toInt = (gN (maW N s q) (S 1) 0 0 : Nat) ∧ sInv swM h' ∧ sMd [] h0 h')) 0 0 5 lo [] h := by
    intro m
    induction m with
    | zero =>
      intro g a lo h hg ha hv hi hm l0 l1 l2 l3 l4
      exact krGb2 (d := d + 1) (by omega) (g := g) (by omega) (n := (S 1 : Int)) hi bq (by omega) (by omega) l0 l1 l2 l3 l4 ((pI_md hm rfl).trans hT.1.2.1) (fun h' r i1 m1 hr => ⟨r, rfl, by rw [hr, ← hv]; rfl, i1, hm.seq (m1.sub rfl)⟩)
    | succ m ih =>
      intro g a lo h hg ha hv hi hm l0 l1 l2 l3 l4
      have g8 : g < 8 := by omega
      have qw := (hT.2.2.2.1 g (by omega)).2.1
      have c2 := (hM.1 g (by omega)).2.2.1
      rw [show 8 * 0 + g = g from by omega] at c2
      have w2 := (hB.1 g g8).2.2.1
      obtain ⟨e0, e⟩ := gnT_at ha
      obtain ⟨e1, e2, -⟩ := e g g8
      simp only [gN] at hv
      have no : ∀ (lo1 : zL) (h1 : zH) (w0 : Int), sInv swM h1 → sMd [] h h1 → w0 = sgfn 0 (a : Int) 0 → maW N s q g ≠ true → zget lo1 0 = some (.ref 0) → zI lo1 1 q → zI lo1 2 1 → zI lo1 3 w0 → zI lo1 4 ((g : Int) + 1) → zX l Γ false (d + 2) (zhd 234) (zMQ' Γ false (zhd 234) (fun r h' => ∃ a : Int32, r = some (.int a) ∧ a.toInt = (gN (maW N s q) (S 1) 0 0 : Nat) ∧ sInv swM h' ∧ sMd [] h0 h')) 0 0 5 lo1 [] h1 := fun lo1 h1 w0 i1 m1 f0 c a0 a1 a2 a3 a4 => by
        rw [if_neg c] at hv
        rw [f0, e0] at a3
        exact ih (g + 1) a lo1 h1 (by omega) ha hv i1 (hm.seq m1) a0 a1 a2 a3 (by rw [Int.natCast_add]; exact a4)
      refine krGb1 (d := d + 1) (by omega) g8 (n := (S 1 : Int)) (who := N 2 g) (wt := s 2 g) hi bq (by omega) (by omega) (by rw [← qw]; exact i32bd _) (by omega) l0 l1 l2 l3 l4 ((pI_md hm rfl).trans hT.1.2.1) ((pI_md hm rfl).trans qw) ((pI_md hm rfl).trans c2) (fun lo1 h1 w0 i1 m1 f0 c c' a0 a1 a2 a3 a4 => no lo1 h1 w0 i1 (m1.sub rfl) f0 (by unfold maW; simp [c']) a0 a1 a2 a3 a4) (fun lo1 h1 w0 w1 i1 m1 f0 f1 c c' a0 a1 a2 a3 a4 => ?_) (fun lo1 h1 w0 i1 m1 f0 c a0 a1 a2 a3 a4 => no lo1 h1 w0 i1 (m1.sub rfl) f0 (by unfold maW; simp [c]) a0 a1 a2 a3 a4)
      rw [if_pos (by unfold maW; simp [c, c'])] at hv
      rw [f1, f0, e1] at a3
      exact ih (g + 1) (a ||| 2 ^ g) lo1 h1 (by omega) e2 hv i1 (hm.seq (m1.sub rfl)) a0 a1 a2 a3 (by rw [Int.natCast_add]; exact a4)
  exact krGb0 (d := d + 1) (by omega) hi0 bq hq hy (fun lo1 h1 i1 m1 l0 l1 l2 l3 l4 => loop (S 1) 0 0 lo1 h1 (by omega) (by decide) rfl i1 (m1.sub rfl) l0 l1 l2 l3 l4)
