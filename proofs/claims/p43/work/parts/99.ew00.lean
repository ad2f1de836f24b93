/-! products: beyond the bounds just where |b| > 10^12 / |a| -/
theorem sgd20 {a : Int} (ha : inW a) : sgfn 20 0 a = -a := by
  have e : ∀ x y : Int, sgfn 20 x y = (Int64.ofInt x - Int64.ofInt y).toInt := fun _ _ => rfl
  unfold inW at ha
  rw [e, Int64.toInt_sub, ofI64 (by decide) (by decide), ofI64 (by omega) (by omega), Int.bmod_eq_of_le (by omega) (by omega)]
  omega
theorem tmG {a b A B q : Int} (ha : inW a) (hb : inW b) (hA : (0 < a ∧ A = a) ∨ (a < 0 ∧ A = -a)) (hB : (0 ≤ b ∧ B = b) ∨ (b < 0 ∧ B = -b)) (hq : q = sgfn 17 1000000000000 A) : (B ≤ q → inW (a * b) ∧ sgfn 16 a b = a * b) ∧ (q < B → ¬ inW (a * b)) := by
  have a1 : 0 < A := by omega
  have hAW : inW A := by
    unfold inW at ha ⊢
    omega
  have e : q = Int.tdiv 1000000000000 A := by
    rw [hq]
    exact sgfn17_t (by unfold inW; omega) hAW
  have t := tdvT (a := A) (b := B) a1
  rw [← e] at t
  have ab : a * b = B * A ∨ a * b = -(B * A) := by
    rcases hA with ⟨-, rfl⟩ | ⟨-, rfl⟩ <;> rcases hB with ⟨-, rfl⟩ | ⟨-, rfl⟩
    · exact Or.inl (Int.mul_comm _ _)
    · right
      rw [Int.neg_mul, Int.neg_neg, Int.mul_comm]
    · right
      rw [Int.mul_neg, Int.neg_neg, Int.mul_comm]
    · left
      rw [Int.neg_mul, Int.mul_neg, Int.neg_neg, Int.mul_comm]
  have nn : 0 ≤ B * A := Int.mul_nonneg (by omega) (by omega)
  clear e hq hA hB
  generalize hP : B * A = P at *
  generalize hR : a * b = R at *
  have iff : inW R ↔ P ≤ 1000000000000 := by
    unfold inW
    omega
  refine ⟨fun h => ?_, fun h c => ?_⟩
  · have w : inW R := iff.mpr (t.mp h)
    refine ⟨w, ?_⟩
    have hab : inW a ∧ inW b := ⟨ha, hb⟩
    unfold inW at hab
    rw [← hR]
    exact sgfn16_t (by omega) (by omega) (by omega) (by omega) (by rw [hR]; exact w)
  · have := t.mpr (iff.mp c)
    omega
theorem tm0 {a b : Int} (h : a = 0 ∨ b = 0) (ha : inW a) (hb : inW b) : sgfn 16 a b = 0 ∧ a * b = 0 := by
  have e : a * b = 0 := by
    rcases h with rfl | rfl
    · exact Int.zero_mul _
    · exact Int.mul_zero _
  have hab : inW a ∧ inW b := ⟨ha, hb⟩
  unfold inW at hab
  exact ⟨(sgfn16_t (by omega) (by omega) (by omega) (by omega) (by rw [e]; unfold inW; omega)).trans e, e⟩
theorem tmLe {B q : Int} (h : 0 ≤ -B + q) : B ≤ q := by omega
theorem tmLt {B q : Int} (h : 0 ≤ B - q - 1) : q < B := by omega
theorem tmN {a : Int} (h : 0 ≤ -a - 1) : a < 0 := by omega
theorem tmP {a : Int} (h : 0 ≤ a - 1) : 0 < a := by omega
theorem tmQ {a : Int} (h : 0 ≤ a - 1) : 0 ≤ a := by omega
theorem tmI {a b A B q w : Int} (ha : inW a) (hb : inW b) (hA : (0 < a ∧ A = a) ∨ (a < 0 ∧ A = -a)) (hB : (0 ≤ b ∧ B = b) ∨ (b < 0 ∧ B = -b)) (hq : q = sgfn 17 1000000000000 A) (hw : w = sgfn 16 a b) (hl : 0 ≤ -B + q) : inW (a * b) ∧ w = a * b :=
  ⟨((tmG ha hb hA hB hq).1 (tmLe hl)).1, hw.trans ((tmG ha hb hA hB hq).1 (tmLe hl)).2⟩
theorem tmO {a b A B q : Int} (ha : inW a) (hb : inW b) (hA : (0 < a ∧ A = a) ∨ (a < 0 ∧ A = -a)) (hB : (0 ≤ b ∧ B = b) ∨ (b < 0 ∧ B = -b)) (hq : q = sgfn 17 1000000000000 A) (hl : 0 ≤ B - q - 1) : ¬ inW (a * b) := (tmG ha hb hA hB hq).2 (tmLt hl)
theorem tmZ {a b w : Int} (h : a = 0 ∨ b = 0) (ha : inW a) (hb : inW b) (hw : w = sgfn 16 a b ∨ w = 0) : inW (a * b) ∧ w = a * b := by
  obtain ⟨h1, h2⟩ := tm0 h ha hb
  rw [h1] at hw
  rw [h2]
  refine ⟨⟨by decide, by decide⟩, ?_⟩
  rcases hw with h | h
  · exact h
  · exact h
theorem tmW {a b w : Int} (h : inW (a * b) ∧ w = a * b) : wv (opv (-33) a b) w := wv.of rfl h.2
theorem tmX {a b : Int} (h : ¬ inW (a * b)) : wv (opv (-33) a b) (-9223372036854775808) := ⟨fun g => absurd g.1 (by decide), fun _ v e => by
  have e' : some (a * b) = some v := e
  cases e'
  exact h⟩
