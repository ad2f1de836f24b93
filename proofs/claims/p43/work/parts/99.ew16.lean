/-! how things stand, told once: above 0, below 1, wet 2, emptied 3, paid 4 (by glasses), done 5 (by payments), 6: minute, taxed, number; one minute as a function -/
abbrev zSt := Nat → Nat → Int
def stS (s : zSt) (k g : Nat) (v : Int) : zSt := fun a b => if a = k ∧ b = g then v else s a b
theorem stS_s {s : zSt} {k g : Nat} {v : Int} : stS s k g v k g = v := if_pos ⟨rfl, rfl⟩
theorem stS_n {s : zSt} {k g a b : Nat} {v : Int} (h : ¬ (a = k ∧ b = g)) : stS s k g v a b = s a b := if_neg h
theorem stS_id {s : zSt} {k g : Nat} {v : Int} (h : v = s k g) : stS s k g v = s := by
  funext a b
  unfold stS
  split
  · rename_i e
    rw [e.1, e.2, h]
  · rfl
def lsG (a b : Int) : Int := if a < b then a else b
theorem lsG_b (a b : Int) : (a < b ∧ lsG a b = a) ∨ (b ≤ a ∧ lsG a b = b) := by
  unfold lsG
  split
  · exact Or.inl ⟨by assumption, rfl⟩
  · exact Or.inr ⟨by omega, rfl⟩
/-- a GLASS's bit -/
def wbT (w : Int) (g : Nat) : Int := sgfn 2 (sgfn 4 w (g : Int)) 1
theorem wbT_tab : ((List.range 256).all fun w => (List.range 8).all fun g => (decide (wbT w g = 0) || decide (wbT w g = 1)) && ((decide (0 ≤ sgfn 0 w (sgfn 3 1 g)) && decide (sgfn 0 w (sgfn 3 1 g) < 256)) && (List.range 8).all fun j => decide (wbT (sgfn 0 w (sgfn 3 1 g)) j = if j = g then 1 else wbT w j))) = true := by decide +kernel
theorem wbT_or {w : Int} (h0 : 0 ≤ w) (h1 : w < 256) {g : Nat} (hg : g < 8) : (wbT w g = 0 ∨ wbT w g = 1) ∧ (0 ≤ sgfn 0 w (sgfn 3 1 (g : Int)) ∧ sgfn 0 w (sgfn 3 1 (g : Int)) < 256) ∧ ∀ j, j < 8 → wbT (sgfn 0 w (sgfn 3 1 (g : Int))) j = if j = g then 1 else wbT w j := by
  obtain ⟨n, rfl⟩ : ∃ n : Nat, w = (n : Int) := ⟨w.toNat, by omega⟩
  have t := List.all_eq_true.mp wbT_tab n (List.mem_range.mpr (by omega))
  have t2 := List.all_eq_true.mp t g (List.mem_range.mpr hg)
  simp only [Bool.and_eq_true, Bool.or_eq_true, decide_eq_true_eq] at t2
  exact ⟨t2.1, t2.2.1, fun j hj => by
    have t3 := List.all_eq_true.mp t2.2.2 j (List.mem_range.mpr hj)
    exact of_decide_eq_true t3⟩
/-- the options: 0 by numbers, 1 left out, 2 who doesn't pyG, 3 odd GLASS, 4 its NECK -/
def nkS (N : zN) (o : Nat → Int) (g : Nat) : Int := if (g : Int) = o 3 then o 4 else N 5 g
def nmS (N : zN) (o : Nat → Int) (s : zSt) (g : Nat) : Nat → Int := fun k => if k = 0 then s 0 g else if k = 1 then s 1 g else if k = 2 then nkS N o g else if k = 3 then N 6 g else if k = 4 then s 2 g else if k = 5 then s 4 g else s 6 0
def lwV (N : zN) (S : zS) (j : Nat) (nm : Nat → Int) : Option Int := if S (7 + j) = 0 then none else match evS nm (lsF (N (20 + j)) (S (11 + j))) with
  | some [v] => some v
  | _ => none
def bdV (o : Option Int) (w : Int) : Int := match o with
  | some v => if v < 0 then 0 else if 99 < v then 99 else v
  | none => w
theorem bdV_b {o : Option Int} {w : Int} (h : 0 ≤ w ∧ w ≤ 99) : 0 ≤ bdV o w ∧ bdV o w ≤ 99 := by
  unfold bdV
  split
  · split
    · omega
    · split <;> omega
  · exact h
def itG (f : zSt → Nat → zSt) : Nat → Nat → zSt → zSt
  | 0, _, s => s
  | n + 1, r, s => itG f n (r + 1) (f s r)
def swS (s : zSt) (g : Nat) : zSt := stS (stS s 0 g (s 1 g)) 1 g (s 0 g)
def tnG (N : zN) (s : zSt) (r : Nat) : zSt := if N 8 r = s 6 0 then swS s (N 7 r).toNat else s
def txS (N : zN) (S : zS) (o : Nat → Int) (s : zSt) (g : Nat) : Int := if o 1 = 3 then 0 else bdV (lwV N S 1 (nmS N o s g)) 0
def py1 (N : zN) (s : zSt) (r f : Nat) : zSt := stS (stS s 5 r (if s 1 f < N 12 r then 2 else 1)) 4 f (s 4 f + lsG (N 12 r) (s 1 f))
def py2 (s : zSt) (f : Nat) (g x : Int) : zSt := stS (stS s 1 f (s 1 f - g)) 6 1 (s 6 1 + x)
def py3 (s : zSt) (q : Nat) (g x : Int) : zSt := stS s 0 q (lsG 999 (s 0 q + g - x))
def pyG (N : zN) (S : zS) (o : Nat → Int) (s : zSt) (r : Nat) : zSt := if N 11 r = s 6 0 ∧ N 9 r ≠ o 2 then
    py3 (py2 (py1 N s r (N 9 r).toNat) (N 9 r).toNat (lsG (N 12 r) (s 1 (N 9 r).toNat)) (lsG (txS N S o (py1 N s r (N 9 r).toNat) (N 9 r).toNat) (lsG (N 12 r) (s 1 (N 9 r).toNat)))) (N 10 r).toNat (lsG (N 12 r) (s 1 (N 9 r).toNat)) (lsG (txS N S o (py1 N s r (N 9 r).toNat) (N 9 r).toNat) (lsG (N 12 r) (s 1 (N 9 r).toNat)))
  else s
def dwG (n : Int) : Int := sgfn 12 (sgfn 19 (sgfn 16 n 1103515245) 12345) 2147483647
def dpG (N : zN) (o : Nat → Int) (s : zSt) (g : Nat) : zSt := if s 2 g = 1 then s else if o 0 = 1 ∧ 0 < N 14 0 ∧ N 14 0 < 100 then (if dwG (s 6 2) / 65536 % 100 < N 14 0 then stS (stS s 6 2 (dwG (s 6 2))) 2 g 1 else stS s 6 2 (dwG (s 6 2))) else if (o 0 = 1 ∧ 100 ≤ N 14 0) ∨ (o 0 ≠ 1 ∧ 50 ≤ N 14 0) then stS s 2 g 1 else s
def plS (N : zN) (o : Nat → Int) (s : zSt) (g : Nat) : Int := if s 2 g = 1 then nkS N o g / 2 else nkS N o g
def flG (N : zN) (S : zS) (o : Nat → Int) (s : zSt) (g : Nat) : Int := bdV (lwV N S 0 (nmS N o s g)) (plS N o s g)
def rnS (s : zSt) (g : Nat) (x : Int) : zSt := stS (stS (stS s 0 g (s 0 g - x)) 1 g (lsG 999 (s 1 g + x))) 3 g (if s 0 g ≠ 0 ∧ s 0 g - x = 0 then s 3 g + 1 else s 3 g)
def rnG (N : zN) (S : zS) (o : Nat → Int) (s : zSt) (g : Nat) : zSt := rnS s g (lsG (s 0 g) (flG N S o s g))
def wnG (N : zN) (S : zS) (o : Nat → Int) (s : zSt) (g : Nat) : zSt := stS s 1 g (s 1 g - lsG (bdV (lwV N S 2 (nmS N o s g)) 0) (s 1 g))
def mn1 (N : zN) (S : zS) (o : Nat → Int) (s : zSt) : zSt := if o 1 = 4 then s else itG (tnG N) (S 2) 0 s
def mn3 (N : zN) (S : zS) (o : Nat → Int) (s : zSt) : zSt := if o 1 = 0 then s else itG (dpG N o) (S 1) 0 s
def mn5 (N : zN) (S : zS) (o : Nat → Int) (s : zSt) : zSt := if o 1 ≠ 1 ∧ s 6 0 % 10 = 9 then itG (wnG N S o) (S 1) 0 s else s
def mnt (N : zN) (S : zS) (o : Nat → Int) (s : zSt) : zSt :=
  let s5 := mn5 N S o (itG (rnG N S o) (S 1) 0 (mn3 N S o (itG (pyG N S o) (S 3) 0 (mn1 N S o s))))
  stS s5 6 0 (s5 6 0 + 1)
def mnK (N : zN) (S : zS) (o : Nat → Int) : Nat → zSt → zSt
  | 0, s => s
  | n + 1, s => mnK N S o n (mnt N S o s)
/-- the bounds: nothing above n -/
def SB (n : Int) (s : zSt) : Prop := (∀ g, g < 8 → (0 ≤ s 0 g ∧ s 0 g ≤ 999) ∧ (0 ≤ s 1 g ∧ s 1 g ≤ 999) ∧ (s 2 g = 0 ∨ s 2 g = 1) ∧ (0 ≤ s 3 g ∧ s 3 g ≤ n) ∧ (0 ≤ s 4 g ∧ s 4 g ≤ n)) ∧ (∀ p, p < 10 → 0 ≤ s 5 p ∧ s 5 p ≤ 2) ∧ (0 ≤ s 6 0 ∧ s 6 0 ≤ n) ∧ (0 ≤ s 6 1 ∧ s 6 1 ≤ n)
theorem SB.le {n m : Int} {s : zSt} (h : SB n s) (hn : n ≤ m) : SB m s := ⟨fun g hg => by
  obtain ⟨a, b, c, d, e⟩ := h.1 g hg
  exact ⟨a, b, c, by omega, by omega⟩, h.2.1, by have := h.2.2.1; omega, by have := h.2.2.2; omega⟩
/-- what is told lies in its bounds -/
def LB (N : zN) (S : zS) : Prop := ∀ j, j < 3 → S (7 + j) ≠ 0 → S (14 + j) + S (11 + j) ≤ 64 ∧ (∃ kd pt ot, kR kd pt ot (S (14 + j)) (lsF (N (20 + j)) (S (11 + j)))) ∧ (ixs (S (14 + j)) (lsF (N (20 + j)) (S (11 + j)))).length = 1 ∧ ∀ x, x ∈ lsF (N (20 + j)) (S (11 + j)) → x ≤ 9999
def TB (N : zN) (S : zS) : Prop := (S 0 ≤ 5 ∧ S 1 ≤ 8 ∧ S 2 ≤ 10 ∧ S 3 ≤ 10 ∧ S 4 ≤ 6) ∧ (∀ i, i < S 1 → (0 ≤ N 2 i ∧ N 2 i ≤ 4) ∧ (0 ≤ N 3 i ∧ N 3 i ≤ 99) ∧ (0 ≤ N 4 i ∧ N 4 i ≤ 99) ∧ (0 ≤ N 5 i ∧ N 5 i ≤ 9) ∧ (0 ≤ N 6 i ∧ N 6 i ≤ 9)) ∧ (∀ i, i < S 2 → 0 ≤ N 7 i ∧ N 7 i < (S 1 : Int)) ∧ (∀ i, i < S 3 → (0 ≤ N 9 i ∧ N 9 i < (S 1 : Int)) ∧ (0 ≤ N 10 i ∧ N 10 i < (S 1 : Int)) ∧ (0 ≤ N 12 i ∧ N 12 i ≤ 99)) ∧ (0 ≤ N 14 0 ∧ N 14 0 ≤ 100) ∧ LB N S
/-- the options lie in theirs -/
def OB (o : Nat → Int) : Prop := (o 0 = 0 ∨ o 0 = 1) ∧ (o 1 ≠ 2 → o 2 = -1) ∧ (o 3 = -1 ∨ 0 ≤ o 3) ∧ (0 ≤ o 4 ∧ o 4 ≤ 9)
theorem nkS_b {N : zN} {S : zS} {o : Nat → Int} {g : Nat} (hT : TB N S) (hO : OB o) (hg : g < S 1) : 0 ≤ nkS N o g ∧ nkS N o g ≤ 9 := by
  unfold nkS
  split
  · exact hO.2.2.2
  · exact (hT.2.1 g hg).2.2.2.1
theorem plS_b {N : zN} {S : zS} {o : Nat → Int} {s : zSt} {g : Nat} (hT : TB N S) (hO : OB o) (hg : g < S 1) : 0 ≤ plS N o s g ∧ plS N o s g ≤ 9 := by
  have := nkS_b hT hO hg
  unfold plS
  split <;> omega
theorem flG_b {N : zN} {S : zS} {o : Nat → Int} {s : zSt} {g : Nat} (hT : TB N S) (hO : OB o) (hg : g < S 1) : 0 ≤ flG N S o s g ∧ flG N S o s g ≤ 99 := by
  have := plS_b (s := s) hT hO hg
  exact bdV_b (by omega)
theorem txS_b {N : zN} {S : zS} {o : Nat → Int} {s : zSt} {g : Nat} : 0 ≤ txS N S o s g ∧ txS N S o s g ≤ 99 := by
  unfold txS
  split
  · omega
  · exact bdV_b (by omega)
/-! the bounds stay -/
theorem swS_b {n : Int} {s : zSt} (h : SB n s) {g : Nat} (hg : g < 8) : SB n (swS s g) := by
  refine ⟨fun j hj => ?_, h.2.1, h.2.2⟩
  obtain ⟨a, b, c⟩ := h.1 j hj
  by_cases e : j = g
  · subst e
    have e0 : swS s j 0 j = s 1 j := by
      unfold swS
      rw [stS_n (by omega), stS_s]
    have e1 : swS s j 1 j = s 0 j := by
      unfold swS
      rw [stS_s]
    exact ⟨by rw [e0]; exact b, by rw [e1]; exact a, c⟩
  · have e0 : swS s g 0 j = s 0 j := by
      unfold swS
      rw [stS_n (by omega), stS_n (by omega)]
    have e1 : swS s g 1 j = s 1 j := by
      unfold swS
      rw [stS_n (by omega), stS_n (by omega)]
    exact ⟨by rw [e0]; exact a, by rw [e1]; exact b, c⟩
theorem tnG_b {N : zN} {S : zS} {n : Int} {s : zSt} (hT : TB N S) (h : SB n s) {r : Nat} (hr : r < S 2) : SB n (tnG N s r) := by
  unfold tnG
  split
  · have := hT.2.2.1 r hr
    have := hT.1.2.1
    exact swS_b h (by omega)
  · exact h
/-- a glass's number changes -/
theorem SB.s0 {n : Int} {s : zSt} (h : SB n s) {g : Nat} {v : Int} (hv : 0 ≤ v ∧ v ≤ 999) : SB n (stS s 0 g v) := ⟨fun j hj => by
  obtain ⟨a, b⟩ := h.1 j hj
  refine ⟨?_, b⟩
  by_cases e : j = g
  · subst e
    rw [stS_s]
    exact hv
  · rw [stS_n (by omega)]
    exact a, h.2⟩
theorem SB.s1 {n : Int} {s : zSt} (h : SB n s) {g : Nat} {v : Int} (hv : 0 ≤ v ∧ v ≤ 999) : SB n (stS s 1 g v) := ⟨fun j hj => by
  obtain ⟨a, b, c⟩ := h.1 j hj
  refine ⟨a, ?_, c⟩
  by_cases e : j = g
  · subst e
    rw [stS_s]
    exact hv
  · rw [stS_n (by omega)]
    exact b, h.2⟩
theorem SB.s2 {n : Int} {s : zSt} (h : SB n s) {g : Nat} {v : Int} (hv : v = 0 ∨ v = 1) : SB n (stS s 2 g v) := ⟨fun j hj => by
  obtain ⟨a, b, c, d⟩ := h.1 j hj
  refine ⟨a, b, ?_, d⟩
  by_cases e : j = g
  · subst e
    rw [stS_s]
    exact hv
  · rw [stS_n (by omega)]
    exact c, h.2⟩
theorem SB.s3 {n : Int} {s : zSt} (h : SB n s) {g : Nat} {v : Int} (hv : 0 ≤ v ∧ v ≤ n) : SB n (stS s 3 g v) := ⟨fun j hj => by
  obtain ⟨a, b, c, d, f⟩ := h.1 j hj
  refine ⟨a, b, c, ?_, f⟩
  by_cases e : j = g
  · subst e
    rw [stS_s]
    exact hv
  · rw [stS_n (by omega)]
    exact d, h.2⟩
theorem SB.s4 {n : Int} {s : zSt} (h : SB n s) {g : Nat} {v : Int} (hv : 0 ≤ v ∧ v ≤ n) : SB n (stS s 4 g v) := ⟨fun j hj => by
  obtain ⟨a, b, c, d, f⟩ := h.1 j hj
  refine ⟨a, b, c, d, ?_⟩
  by_cases e : j = g
  · subst e
    rw [stS_s]
    exact hv
  · rw [stS_n (by omega)]
    exact f, h.2⟩
theorem SB.s5 {n : Int} {s : zSt} (h : SB n s) {g : Nat} {v : Int} (hv : 0 ≤ v ∧ v ≤ 2) : SB n (stS s 5 g v) := ⟨h.1, fun j hj => by
  by_cases e : j = g
  · subst e
    rw [stS_s]
    exact hv
  · rw [stS_n (by omega)]
    exact h.2.1 j hj, h.2.2⟩
theorem SB.s60 {n : Int} {s : zSt} (h : SB n s) {v : Int} (hv : 0 ≤ v ∧ v ≤ n) : SB n (stS s 6 0 v) := ⟨h.1, h.2.1, hv, h.2.2.2⟩
theorem SB.s61 {n : Int} {s : zSt} (h : SB n s) {v : Int} (hv : 0 ≤ v ∧ v ≤ n) : SB n (stS s 6 1 v) := ⟨h.1, h.2.1, h.2.2.1, hv⟩
theorem SB.s62 {n : Int} {s : zSt} (h : SB n s) {v : Int} : SB n (stS s 6 2 v) := ⟨h.1, h.2.1, h.2.2.1, h.2.2.2⟩
theorem py1_b {N : zN} {S : zS} {n : Int} {s : zSt} (hT : TB N S) (h : SB n s) {r f : Nat} (hr : r < S 3) (hf : f < 8) : SB (n + 99) (py1 N s r f) := by
  have a := (hT.2.2.2.1 r hr).2.2
  have b := (h.1 f hf).2.1
  have c := (h.1 f hf).2.2.2.2
  have m := lsG_b (N 12 r) (s 1 f)
  unfold py1
  exact ((h.le (by omega)).s5 (by split <;> omega)).s4 (by omega)
theorem py2_b {n : Int} {s : zSt} (h : SB n s) {f : Nat} (hf : f < 8) {g x : Int} (hg : 0 ≤ g ∧ g ≤ s 1 f) (hx : 0 ≤ x ∧ x ≤ 99) : SB (n + 99) (py2 s f g x) := by
  have b := (h.1 f hf).2.1
  have c := h.2.2.2
  unfold py2
  exact ((h.le (by omega)).s1 (by omega)).s61 (by omega)
theorem py3_b {n : Int} {s : zSt} (h : SB n s) {q : Nat} (hq : q < 8) {g x : Int} (hx : x ≤ g) : SB n (py3 s q g x) := by
  have b := (h.1 q hq).1
  have m := lsG_b 999 (s 0 q + g - x)
  unfold py3
  exact h.s0 (by omega)
theorem py1_1 {N : zN} {s : zSt} {r f g : Nat} : py1 N s r f 1 g = s 1 g := rfl
theorem pyG_b {N : zN} {S : zS} {o : Nat → Int} {n : Int} {s : zSt} (hT : TB N S) (h : SB n s) {r : Nat} (hr : r < S 3) : SB (n + 198) (pyG N S o s r) := by
  unfold pyG
  split
  · have a := hT.2.2.2.1 r hr
    have a1 := hT.1.2.1
    have hf : (N 9 r).toNat < 8 := by omega
    have b := (h.1 _ hf).2.1
    have m := lsG_b (N 12 r) (s 1 (N 9 r).toNat)
    have x := txS_b (N := N) (S := S) (o := o) (s := py1 N s r (N 9 r).toNat) (g := (N 9 r).toNat)
    have y := lsG_b (txS N S o (py1 N s r (N 9 r).toNat) (N 9 r).toNat) (lsG (N 12 r) (s 1 (N 9 r).toNat))
    have h1 := py1_b hT h hr hf
    have h2 := py2_b h1 hf (g := lsG (N 12 r) (s 1 (N 9 r).toNat)) (x := lsG (txS N S o (py1 N s r (N 9 r).toNat) (N 9 r).toNat) (lsG (N 12 r) (s 1 (N 9 r).toNat))) (by rw [py1_1]; omega) (by omega)
    exact (py3_b h2 (by omega) (by omega)).le (by omega)
  · exact h.le (by omega)
theorem dpG_b {N : zN} {o : Nat → Int} {n : Int} {s : zSt} (h : SB n s) {g : Nat} : SB n (dpG N o s g) := by
  unfold dpG
  split
  · exact h
  split
  · split
    · exact h.s62.s2 (Or.inr rfl)
    · exact h.s62
  split
  · exact h.s2 (Or.inr rfl)
  · exact h
theorem rnS_b {n : Int} {s : zSt} (h : SB n s) {g : Nat} (hg : g < 8) {x : Int} (hx : 0 ≤ x ∧ x ≤ s 0 g) : SB (n + 1) (rnS s g x) := by
  obtain ⟨a, b, c, d, e⟩ := h.1 g hg
  have m := lsG_b 999 (s 1 g + x)
  unfold rnS
  exact (((h.le (by omega)).s0 (by omega)).s1 (by omega)).s3 (by split <;> omega)
theorem rnG_b {N : zN} {S : zS} {o : Nat → Int} {n : Int} {s : zSt} (hT : TB N S) (hO : OB o) (h : SB n s) {g : Nat} (hg : g < S 1) : SB (n + 1) (rnG N S o s g) := by
  have f := flG_b (s := s) hT hO hg
  have m := lsG_b (s 0 g) (flG N S o s g)
  have t := hT.1.2.1
  have a := (h.1 g (by omega)).1
  exact rnS_b h (by omega) (by omega)
theorem wnG_b {N : zN} {S : zS} {o : Nat → Int} {n : Int} {s : zSt} (h : SB n s) {g : Nat} (hg : g < 8) : SB n (wnG N S o s g) := by
  have f := bdV_b (o := lwV N S 2 (nmS N o s g)) (w := 0) (by omega)
  have a := (h.1 g hg).2.1
  have m := lsG_b (bdV (lwV N S 2 (nmS N o s g)) 0) (s 1 g)
  exact h.s1 (by omega)
theorem itG_b {f : zSt → Nat → zSt} {c : Int} (hc : 0 ≤ c) {M : Nat} (hf : ∀ n s r, r < M → SB n s → SB (n + c) (f s r)) : ∀ (k r : Nat) (n : Int) (s : zSt), r + k ≤ M → SB n s → SB (n + c * k) (itG f k r s)
  | 0, _, n, s, _, h => h.le (by omega)
  | k + 1, r, n, s, hk, h => by
    have a := itG_b hc hf k (r + 1) _ _ (by omega) (hf n s r (by omega) h)
    have e : n + c + c * (k : Int) = n + c * ((k + 1 : Nat) : Int) := by
      rw [Int.natCast_add, Int.mul_add]
      show n + c + c * (k : Int) = n + (c * (k : Int) + c * 1)
      omega
    rw [← e]
    exact a
/-- the minute stays while it goes -/
theorem itG_m {f : zSt → Nat → zSt} (hf : ∀ s r, f s r 6 0 = s 6 0) : ∀ (k r : Nat) (s : zSt), itG f k r s 6 0 = s 6 0
  | 0, _, _ => rfl
  | k + 1, r, s => (itG_m hf k (r + 1) (f s r)).trans (hf s r)
theorem tnG_m {N : zN} {s : zSt} {r : Nat} : tnG N s r 6 0 = s 6 0 := by
  unfold tnG
  split <;> rfl
theorem pyG_m {N : zN} {S : zS} {o : Nat → Int} {s : zSt} {r : Nat} : pyG N S o s r 6 0 = s 6 0 := by
  unfold pyG
  split <;> rfl
theorem dpG_m {N : zN} {o : Nat → Int} {s : zSt} {g : Nat} : dpG N o s g 6 0 = s 6 0 := by
  unfold dpG
  split
  · rfl
  split
  · split <;> rfl
  split <;> rfl
theorem rnG_m {N : zN} {S : zS} {o : Nat → Int} {s : zSt} {g : Nat} : rnG N S o s g 6 0 = s 6 0 := rfl
theorem wnG_m {N : zN} {S : zS} {o : Nat → Int} {s : zSt} {g : Nat} : wnG N S o s g 6 0 = s 6 0 := rfl
theorem itG_b' {f : zSt → Nat → zSt} {n : Int} {M : Nat} (hf : ∀ s r, r < M → SB n s → SB n (f s r)) : ∀ (k r : Nat) (s : zSt), r + k ≤ M → SB n s → SB n (itG f k r s)
  | 0, _, _, _, h => h
  | k + 1, r, s, hk, h => itG_b' hf k (r + 1) _ (by omega) (hf s r (by omega) h)
theorem mn1_b {N : zN} {S : zS} {o : Nat → Int} {n : Int} {s : zSt} (hT : TB N S) (h : SB n s) : SB n (mn1 N S o s) := by
  unfold mn1
  split
  · exact h
  · exact itG_b' (M := S 2) (fun s r hr h => tnG_b hT h hr) _ _ _ (by omega) h
theorem mn2_b {N : zN} {S : zS} {o : Nat → Int} {n : Int} {s : zSt} (hT : TB N S) (h : SB n s) : SB (n + 1980) (itG (pyG N S o) (S 3) 0 s) := by
  have t := hT.1.2.2.2.1
  exact (itG_b (c := 198) (by decide) (M := S 3) (fun n s r hr h => pyG_b hT h hr) (S 3) 0 n s (by omega) h).le (by omega)
theorem mn3_b {N : zN} {S : zS} {o : Nat → Int} {n : Int} {s : zSt} (h : SB n s) : SB n (mn3 N S o s) := by
  unfold mn3
  split
  · exact h
  · exact itG_b' (M := S 1) (fun s r hr h => dpG_b h) _ _ _ (by omega) h
theorem mn4_b {N : zN} {S : zS} {o : Nat → Int} {n : Int} {s : zSt} (hT : TB N S) (hO : OB o) (h : SB n s) : SB (n + 8) (itG (rnG N S o) (S 1) 0 s) := by
  have t := hT.1.2.1
  exact (itG_b (c := 1) (by decide) (M := S 1) (fun n s r hr h => rnG_b hT hO h hr) (S 1) 0 n s (by omega) h).le (by omega)
theorem mn5_b {N : zN} {S : zS} {o : Nat → Int} {n : Int} {s : zSt} (hT : TB N S) (h : SB n s) : SB n (mn5 N S o s) := by
  have t := hT.1.2.1
  unfold mn5
  split
  · exact itG_b' (M := S 1) (fun s r hr h => wnG_b h (by omega)) _ _ _ (by omega) h
  · exact h
theorem mnt_b {N : zN} {S : zS} {o : Nat → Int} {n : Int} {s : zSt} (hT : TB N S) (hO : OB o) (h : SB n s) : SB (n + 1989) (mnt N S o s) := by
  have a := mn5_b (o := o) hT (mn4_b hT hO (mn3_b (N := N) (S := S) (o := o) (mn2_b (o := o) hT (mn1_b (o := o) hT h))))
  have b := a.2.2.1
  exact (a.le (by omega)).s60 (by omega)
theorem mnK_b {N : zN} {S : zS} {o : Nat → Int} (hT : TB N S) (hO : OB o) : ∀ (k : Nat) {n : Int} {s : zSt}, SB n s → SB (n + 1989 * k) (mnK N S o k s)
  | 0, _, _, h => h.le (by omega)
  | k + 1, _, _, h => (mnK_b hT hO k (mnt_b hT hO h)).le (by omega)
theorem mn1_m {N : zN} {S : zS} {o : Nat → Int} {s : zSt} : mn1 N S o s 6 0 = s 6 0 := by
  unfold mn1
  split
  · rfl
  · exact itG_m (fun _ _ => tnG_m) _ _ _
theorem mn3_m {N : zN} {S : zS} {o : Nat → Int} {s : zSt} : mn3 N S o s 6 0 = s 6 0 := by
  unfold mn3
  split
  · rfl
  · exact itG_m (fun _ _ => dpG_m) _ _ _
theorem mn5_m {N : zN} {S : zS} {o : Nat → Int} {s : zSt} : mn5 N S o s 6 0 = s 6 0 := by
  unfold mn5
  split
  · exact itG_m (fun _ _ => wnG_m) _ _ _
  · rfl
theorem mnt_m {N : zN} {S : zS} {o : Nat → Int} {s : zSt} : mnt N S o s 6 0 = s 6 0 + 1 := by
  show mn5 N S o _ 6 0 + 1 = _
  rw [mn5_m, itG_m (fun _ _ => rnG_m), mn3_m, itG_m (fun _ _ => pyG_m), mn1_m]
