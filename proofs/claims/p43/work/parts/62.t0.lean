/-! the reference's wordAt, word by word -/
def wTab : List Int := [109, 97, 110, 32, 103, 108, 97, 115, 115, 32, 116, 117, 114, 110, 32, 112, 97, 121, 32, 115, 105, 101, 118, 101, 32, 100, 97, 109, 112, 32, 115, 101, 101, 100, 32, 108, 97, 119, 32, 102, 108, 111, 119, 32, 116, 97, 120, 32, 119, 105, 110, 100, 32, 97, 110, 100, 32, 111, 114, 32, 110, 111, 116, 32, 97, 98, 111, 118, 101, 32, 98, 101, 108, 111, 119, 32, 110, 101, 99, 107, 32, 99, 111, 97, 114, 115, 101, 32, 119, 101, 116, 32, 112, 97, 105, 100, 32, 109, 105, 110, 117, 116, 101, 32]
/-- the k-th word stands there -/
def mtW (T : Nat → Int) (pa m k : Nat) : Prop := match k with
  | 0 => m = 3 ∧ T pa = 109 ∧ T (pa + 1) = 97 ∧ T (pa + 2) = 110
  | 1 => m = 5 ∧ T pa = 103 ∧ T (pa + 1) = 108 ∧ T (pa + 2) = 97 ∧ T (pa + 3) = 115 ∧ T (pa + 4) = 115
  | 2 => m = 4 ∧ T pa = 116 ∧ T (pa + 1) = 117 ∧ T (pa + 2) = 114 ∧ T (pa + 3) = 110
  | 3 => m = 3 ∧ T pa = 112 ∧ T (pa + 1) = 97 ∧ T (pa + 2) = 121
  | 4 => m = 5 ∧ T pa = 115 ∧ T (pa + 1) = 105 ∧ T (pa + 2) = 101 ∧ T (pa + 3) = 118 ∧ T (pa + 4) = 101
  | 5 => m = 4 ∧ T pa = 100 ∧ T (pa + 1) = 97 ∧ T (pa + 2) = 109 ∧ T (pa + 3) = 112
  | 6 => m = 4 ∧ T pa = 115 ∧ T (pa + 1) = 101 ∧ T (pa + 2) = 101 ∧ T (pa + 3) = 100
  | 7 => m = 3 ∧ T pa = 108 ∧ T (pa + 1) = 97 ∧ T (pa + 2) = 119
  | 8 => m = 4 ∧ T pa = 102 ∧ T (pa + 1) = 108 ∧ T (pa + 2) = 111 ∧ T (pa + 3) = 119
  | 9 => m = 3 ∧ T pa = 116 ∧ T (pa + 1) = 97 ∧ T (pa + 2) = 120
  | 10 => m = 4 ∧ T pa = 119 ∧ T (pa + 1) = 105 ∧ T (pa + 2) = 110 ∧ T (pa + 3) = 100
  | 11 => m = 3 ∧ T pa = 97 ∧ T (pa + 1) = 110 ∧ T (pa + 2) = 100
  | 12 => m = 2 ∧ T pa = 111 ∧ T (pa + 1) = 114
  | 13 => m = 3 ∧ T pa = 110 ∧ T (pa + 1) = 111 ∧ T (pa + 2) = 116
  | 14 => m = 5 ∧ T pa = 97 ∧ T (pa + 1) = 98 ∧ T (pa + 2) = 111 ∧ T (pa + 3) = 118 ∧ T (pa + 4) = 101
  | 15 => m = 5 ∧ T pa = 98 ∧ T (pa + 1) = 101 ∧ T (pa + 2) = 108 ∧ T (pa + 3) = 111 ∧ T (pa + 4) = 119
  | 16 => m = 4 ∧ T pa = 110 ∧ T (pa + 1) = 101 ∧ T (pa + 2) = 99 ∧ T (pa + 3) = 107
  | 17 => m = 6 ∧ T pa = 99 ∧ T (pa + 1) = 111 ∧ T (pa + 2) = 97 ∧ T (pa + 3) = 114 ∧ T (pa + 4) = 115 ∧ T (pa + 5) = 101
  | 18 => m = 3 ∧ T pa = 119 ∧ T (pa + 1) = 101 ∧ T (pa + 2) = 116
  | 19 => m = 4 ∧ T pa = 112 ∧ T (pa + 1) = 97 ∧ T (pa + 2) = 105 ∧ T (pa + 3) = 100
  | 20 => m = 6 ∧ T pa = 109 ∧ T (pa + 1) = 105 ∧ T (pa + 2) = 110 ∧ T (pa + 3) = 117 ∧ T (pa + 4) = 116 ∧ T (pa + 5) = 101
  | _ => False
def wH (I : zHI) (P : zHP) (T : Nat → Int) (pa m : Nat) : Prop := P 0 0 = some 1 ∧ P 0 3 = some 2 ∧ (∀ j c, wTab[j]? = some c → (I 2 j).toInt = c) ∧ 1 ≤ m ∧ pa + m ≤ 700 ∧ ∀ j, j < 700 → (I 1 j).toInt = T j
theorem wPx {P : zHP} (h0 : P 0 0 = some 1) (h3 : P 0 3 = some 2) : P = (fun a b => if a = 0 ∧ b = 3 then some 2 else if a = 0 ∧ b = 0 then some 1 else P a b : zHP) := by
  funext a b
  split
  · rename_i h
    rw [h.1, h.2, h3]
  · split
    · rename_i h
      rw [h.1, h.2, h0]
    · rfl
theorem wIdx {I : zHI} {T : Nat → Int} {pa : Nat} (i : Nat) (h : pa + i < 700) (hT : ∀ j, j < 700 → (I 1 j).toInt = T j) : (I 1 (Int32.ofNat pa + Int32.ofInt (i : Int)).toNatClampNeg).toInt = T (pa + i) ∧ ¬ (Int32.ofNat pa + Int32.ofInt (i : Int) < 0 ∨ 700 ≤ (Int32.ofNat pa + Int32.ofInt (i : Int)).toNatClampNeg) := by
  have e : Int32.ofNat pa + Int32.ofInt (i : Int) = Int32.ofNat (pa + i) := by
    rw [Int32.ofInt_eq_ofNat]
    exact ofN_add pa i
  rw [e, ofN_cl (by omega)]
  exact ⟨hT _ h, by have := ofN_ix (a := pa + i) (n := 700) h (by omega); rw [ofN_cl (by omega)] at this; exact this⟩
