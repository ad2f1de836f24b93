/-! what a law's E is worth, told once: what lies on the stack behind its code (latest first), for the names' values -/
abbrev inW (v : Int) : Prop := -1000000000000 ≤ v ∧ v ≤ 1000000000000
def bI (p : Prop) [Decidable p] : Int := if p then 1 else 0
theorem bI_t {p : Prop} [Decidable p] (h : p) : bI p = 1 := if_pos h
theorem bI_f {p : Prop} [Decidable p] (h : ¬ p) : bI p = 0 := if_neg h
def opv (x a b : Int) : Option Int :=
  if x = -29 then some (bI (a ≠ 0 ∧ b ≠ 0)) else if x = -30 then some (bI (a ≠ 0 ∨ b ≠ 0)) else if x = -31 then some (a + b) else if x = -32 then some (a - b) else if x = -33 then some (a * b) else if x = -34 then (if b = 0 then none else some (Int.tdiv a b)) else if x = -35 then some (bI (a < b)) else if x = -36 then some (bI (a ≤ b)) else if x = -37 then some (bI (a = b)) else if x = -38 then some (bI (a ≠ b)) else if x = -39 then some (bI (b ≤ a)) else some (bI (b < a))
/-- a value within the bounds goes on the stack -/
def pushW (o : Option Int) (r : List Int) : Option (List Int) := match o with
  | some v => if inW v then some (v :: r) else none
  | none => none
def stp (nm : Nat → Int) (x : Int) (st : List Int) : Option (List Int) :=
  if 0 ≤ x then pushW (some x) st else if -27 ≤ x then pushW (some (nm (-x - 21).toNat)) st else if x = -28 then (match st with
    | a :: r => pushW (some (bI (a = 0))) r
    | [] => none) else (match st with
    | b :: a :: r => pushW (opv x a b) r
    | _ => none)
def evS (nm : Nat → Int) : List Int → Option (List Int)
  | [] => some []
  | x :: e => match evS nm e with
    | some st => stp nm x st
    | none => none
/-- what a program works out for a value: it, or beyond the bounds where it is beyond them (or none) -/
def wv (o : Option Int) (w : Int) : Prop := (inW w → o = some w) ∧ (¬ inW w → ∀ v, o = some v → ¬ inW v)
theorem wv.in {o : Option Int} {w : Int} {r : List Int} (h : wv o w) (hw : inW w) : pushW o r = some (w :: r) := by
  rw [h.1 hw]
  simp only [pushW]
  rw [if_pos hw]
theorem wv.out {o : Option Int} {w : Int} {r : List Int} (h : wv o w) (hw : ¬ inW w) : pushW o r = none := by
  cases ho : o with
  | none => rfl
  | some v =>
    simp only [pushW]
    rw [if_neg (h.2 hw v ho)]
theorem wv.sm {v : Int} : wv (some v) v := ⟨fun _ => rfl, fun h u e => by cases e; exact h⟩
theorem wv.of {o : Option Int} {v w : Int} (ho : o = some v) (hv : w = v) : wv o w := by
  subst hv
  rw [ho]
  exact wv.sm
theorem evS_n {nm : Nat → Int} {x : Int} {e : List Int} (h : evS nm e = none) : evS nm (x :: e) = none := by
  simp only [evS, h]
theorem evS_c {nm : Nat → Int} {x : Int} {e st : List Int} (h : evS nm e = some st) : evS nm (x :: e) = stp nm x st := by
  simp only [evS, h]
/-- as many values as the code says -/
theorem stp_len {nm : Nat → Int} {x : Int} {st st' : List Int} (h : stp nm x st = some st') : st'.length = 1 + (if x = -28 then st.tail.length else if x < -28 then st.tail.tail.length else st.length) := by
  have pl : ∀ (o : Option Int) (r : List Int), pushW o r = some st' → st'.length = 1 + r.length := fun o r e => by
    cases o with
    | none => cases e
    | some v =>
      simp only [pushW] at e
      split at e
      · cases e
        simp only [List.length_cons]
        omega
      · cases e
  unfold stp at h
  split at h
  · rw [if_neg (by omega), if_neg (by omega)]
    exact pl _ _ h
  split at h
  · rw [if_neg (by omega), if_neg (by omega)]
    exact pl _ _ h
  split at h
  · rename_i e
    rw [if_pos e]
    split at h
    · exact pl _ _ h
    · cases h
  · rename_i e1 e2 e3
    rw [if_neg e3, if_pos (by omega)]
    split at h
    · exact pl _ _ h
    · cases h
theorem evS_len {nm : Nat → Int} {b : Nat} : ∀ {e st : List Int}, evS nm e = some st → st.length = (ixs b e).length
  | [], st, h => by
    cases h
    rfl
  | x :: e, st, h => by
    cases he : evS nm e with
    | none =>
      rw [evS_n he] at h
      cases h
    | some s0 =>
      rw [evS_c he] at h
      have ih := evS_len (b := b) he
      have l := stp_len h
      simp only [ixs, List.length_cons]
      by_cases e1 : x = -28
      · rw [if_pos e1] at l ⊢
        rw [List.length_tail] at l ⊢
        omega
      · rw [if_neg e1] at l ⊢
        by_cases e2 : x < -28
        · rw [if_pos e2] at l ⊢
          rw [List.length_tail, List.length_tail] at l ⊢
          omega
        · rw [if_neg e2] at l ⊢
          omega
theorem tdivW {a b : Int} (ha : inW a) : inW (Int.tdiv a b) := by
  have h1 : (Int.tdiv a b).natAbs = a.natAbs / b.natAbs := Int.natAbs_tdiv a b
  have h2 : a.natAbs / b.natAbs ≤ a.natAbs := Nat.div_le_self _ _
  unfold inW at *
  omega
theorem ofI64 {a : Int} (h1 : -9223372036854775808 ≤ a) (h2 : a ≤ 9223372036854775807) : (Int64.ofInt a).toInt = a := Int64.toInt_ofInt_of_le (by omega) (by omega)
theorem sgfn17_t {a b : Int} (ha : inW a) (hb : inW b) : sgfn 17 a b = Int.tdiv a b := by
  have hw := tdivW (b := b) ha
  show (Int64.ofInt a / Int64.ofInt b).toInt = _
  unfold inW at ha hb hw
  rw [Int64.toInt_div, ofI64 (by omega) (by omega), ofI64 (by omega) (by omega)]
  exact Int.bmod_eq_of_le (by omega) (by omega)
theorem sgfn16_t {a b : Int} (h1 : -9223372036854775808 ≤ a) (h2 : a ≤ 9223372036854775807) (h3 : -9223372036854775808 ≤ b) (h4 : b ≤ 9223372036854775807) (hw : inW (a * b)) : sgfn 16 a b = a * b := by
  show (Int64.ofInt a * Int64.ofInt b).toInt = _
  unfold inW at hw
  rw [Int64.toInt_mul, ofI64 h1 h2, ofI64 h3 h4]
  exact Int.bmod_eq_of_le (by omega) (by omega)
theorem tdvT {a b : Int} (ha : 0 < a) : b ≤ Int.tdiv 1000000000000 a ↔ b * a ≤ 1000000000000 := by
  rw [Int.tdiv_eq_ediv_of_nonneg (by decide)]
  exact Int.le_ediv_iff_mul_le ha
