/-! the class's words -/
theorem orshl25 {L x c : Int32} (hc : c.toBitVec.smod 32#32 = 25#32) (m : Nat) (hL : L.toInt = 1073741824 * (m : Int)) (hm : m < 1) (h0 : 0 ≤ x.toInt) (h1 : x.toInt < 32) : (L ||| (x <<< c)).toInt = L.toInt + 33554432 * x.toInt := by
  have ex : x.toInt = if 2 * x.toBitVec.toNat < 2 ^ 32 then (x.toBitVec.toNat : Int) else (x.toBitVec.toNat : Int) - (2 ^ 32 : Nat) := BitVec.toInt_eq_toNat_cond x.toBitVec
  have eL : L.toInt = if 2 * L.toBitVec.toNat < 2 ^ 32 then (L.toBitVec.toNat : Int) else (L.toBitVec.toNat : Int) - (2 ^ 32 : Nat) := BitVec.toInt_eq_toNat_cond L.toBitVec
  have bx := x.toBitVec.isLt
  have bL := L.toBitVec.isLt
  have nx : x.toInt = (x.toBitVec.toNat : Int) := by
    rw [ex] at h0 h1 ⊢
    split at h0 <;> split at h1 <;> split <;> omega
  have nL : L.toInt = (L.toBitVec.toNat : Int) := by
    rw [eL] at hL ⊢
    split at hL <;> split <;> omega
  have e1 : (L ||| (x <<< c)).toBitVec = L.toBitVec ||| (x.toBitVec <<< 25) := by
    show L.toBitVec ||| (x.toBitVec <<< (c.toBitVec.smod 32#32)) = _
    rw [hc]
    rfl
  have lm : L.toBitVec.toNat = m <<< 30 := by
    rw [Nat.shiftLeft_eq]
    omega
  have e2 : (L ||| (x <<< c)).toBitVec.toNat = L.toBitVec.toNat + 33554432 * x.toBitVec.toNat := by
    rw [e1, BitVec.toNat_or, BitVec.toNat_shiftLeft, Nat.mod_eq_of_lt (by rw [Nat.shiftLeft_eq]; omega), lm, ← Nat.shiftLeft_add_eq_or_of_lt (i := 30) (by rw [Nat.shiftLeft_eq]; omega), Nat.shiftLeft_eq, Nat.shiftLeft_eq]
    omega
  have e3 : (L ||| (x <<< c)).toInt = if 2 * (L ||| (x <<< c)).toBitVec.toNat < 2 ^ 32 then ((L ||| (x <<< c)).toBitVec.toNat : Int) else ((L ||| (x <<< c)).toBitVec.toNat : Int) - (2 ^ 32 : Nat) := BitVec.toInt_eq_toNat_cond _
  rw [e3, e2, if_pos (by omega)]
  omega
theorem orshl20 {L x c : Int32} (hc : c.toBitVec.smod 32#32 = 20#32) (m : Nat) (hL : L.toInt = 33554432 * (m : Int)) (hm : m < 32) (h0 : 0 ≤ x.toInt) (h1 : x.toInt < 32) : (L ||| (x <<< c)).toInt = L.toInt + 1048576 * x.toInt := by
  have ex : x.toInt = if 2 * x.toBitVec.toNat < 2 ^ 32 then (x.toBitVec.toNat : Int) else (x.toBitVec.toNat : Int) - (2 ^ 32 : Nat) := BitVec.toInt_eq_toNat_cond x.toBitVec
  have eL : L.toInt = if 2 * L.toBitVec.toNat < 2 ^ 32 then (L.toBitVec.toNat : Int) else (L.toBitVec.toNat : Int) - (2 ^ 32 : Nat) := BitVec.toInt_eq_toNat_cond L.toBitVec
  have bx := x.toBitVec.isLt
  have bL := L.toBitVec.isLt
  have nx : x.toInt = (x.toBitVec.toNat : Int) := by
    rw [ex] at h0 h1 ⊢
    split at h0 <;> split at h1 <;> split <;> omega
  have nL : L.toInt = (L.toBitVec.toNat : Int) := by
    rw [eL] at hL ⊢
    split at hL <;> split <;> omega
  have e1 : (L ||| (x <<< c)).toBitVec = L.toBitVec ||| (x.toBitVec <<< 20) := by
    show L.toBitVec ||| (x.toBitVec <<< (c.toBitVec.smod 32#32)) = _
    rw [hc]
    rfl
  have lm : L.toBitVec.toNat = m <<< 25 := by
    rw [Nat.shiftLeft_eq]
    omega
  have e2 : (L ||| (x <<< c)).toBitVec.toNat = L.toBitVec.toNat + 1048576 * x.toBitVec.toNat := by
    rw [e1, BitVec.toNat_or, BitVec.toNat_shiftLeft, Nat.mod_eq_of_lt (by rw [Nat.shiftLeft_eq]; omega), lm, ← Nat.shiftLeft_add_eq_or_of_lt (i := 25) (by rw [Nat.shiftLeft_eq]; omega), Nat.shiftLeft_eq, Nat.shiftLeft_eq]
    omega
  have e3 : (L ||| (x <<< c)).toInt = if 2 * (L ||| (x <<< c)).toBitVec.toNat < 2 ^ 32 then ((L ||| (x <<< c)).toBitVec.toNat : Int) else ((L ||| (x <<< c)).toBitVec.toNat : Int) - (2 ^ 32 : Nat) := BitVec.toInt_eq_toNat_cond _
  rw [e3, e2, if_pos (by omega)]
  omega
theorem orshl15 {L x c : Int32} (hc : c.toBitVec.smod 32#32 = 15#32) (m : Nat) (hL : L.toInt = 1048576 * (m : Int)) (hm : m < 1024) (h0 : 0 ≤ x.toInt) (h1 : x.toInt < 32) : (L ||| (x <<< c)).toInt = L.toInt + 32768 * x.toInt := by
  have ex : x.toInt = if 2 * x.toBitVec.toNat < 2 ^ 32 then (x.toBitVec.toNat : Int) else (x.toBitVec.toNat : Int) - (2 ^ 32 : Nat) := BitVec.toInt_eq_toNat_cond x.toBitVec
  have eL : L.toInt = if 2 * L.toBitVec.toNat < 2 ^ 32 then (L.toBitVec.toNat : Int) else (L.toBitVec.toNat : Int) - (2 ^ 32 : Nat) := BitVec.toInt_eq_toNat_cond L.toBitVec
  have bx := x.toBitVec.isLt
  have bL := L.toBitVec.isLt
  have nx : x.toInt = (x.toBitVec.toNat : Int) := by
    rw [ex] at h0 h1 ⊢
    split at h0 <;> split at h1 <;> split <;> omega
  have nL : L.toInt = (L.toBitVec.toNat : Int) := by
    rw [eL] at hL ⊢
    split at hL <;> split <;> omega
  have e1 : (L ||| (x <<< c)).toBitVec = L.toBitVec ||| (x.toBitVec <<< 15) := by
    show L.toBitVec ||| (x.toBitVec <<< (c.toBitVec.smod 32#32)) = _
    rw [hc]
    rfl
  have lm : L.toBitVec.toNat = m <<< 20 := by
    rw [Nat.shiftLeft_eq]
    omega
  have e2 : (L ||| (x <<< c)).toBitVec.toNat = L.toBitVec.toNat + 32768 * x.toBitVec.toNat := by
    rw [e1, BitVec.toNat_or, BitVec.toNat_shiftLeft, Nat.mod_eq_of_lt (by rw [Nat.shiftLeft_eq]; omega), lm, ← Nat.shiftLeft_add_eq_or_of_lt (i := 20) (by rw [Nat.shiftLeft_eq]; omega), Nat.shiftLeft_eq, Nat.shiftLeft_eq]
    omega
  have e3 : (L ||| (x <<< c)).toInt = if 2 * (L ||| (x <<< c)).toBitVec.toNat < 2 ^ 32 then ((L ||| (x <<< c)).toBitVec.toNat : Int) else ((L ||| (x <<< c)).toBitVec.toNat : Int) - (2 ^ 32 : Nat) := BitVec.toInt_eq_toNat_cond _
  rw [e3, e2, if_pos (by omega)]
  omega
theorem orshl10 {L x c : Int32} (hc : c.toBitVec.smod 32#32 = 10#32) (m : Nat) (hL : L.toInt = 32768 * (m : Int)) (hm : m < 32768) (h0 : 0 ≤ x.toInt) (h1 : x.toInt < 32) : (L ||| (x <<< c)).toInt = L.toInt + 1024 * x.toInt := by
  have ex : x.toInt = if 2 * x.toBitVec.toNat < 2 ^ 32 then (x.toBitVec.toNat : Int) else (x.toBitVec.toNat : Int) - (2 ^ 32 : Nat) := BitVec.toInt_eq_toNat_cond x.toBitVec
  have eL : L.toInt = if 2 * L.toBitVec.toNat < 2 ^ 32 then (L.toBitVec.toNat : Int) else (L.toBitVec.toNat : Int) - (2 ^ 32 : Nat) := BitVec.toInt_eq_toNat_cond L.toBitVec
  have bx := x.toBitVec.isLt
  have bL := L.toBitVec.isLt
  have nx : x.toInt = (x.toBitVec.toNat : Int) := by
    rw [ex] at h0 h1 ⊢
    split at h0 <;> split at h1 <;> split <;> omega
  have nL : L.toInt = (L.toBitVec.toNat : Int) := by
    rw [eL] at hL ⊢
    split at hL <;> split <;> omega
  have e1 : (L ||| (x <<< c)).toBitVec = L.toBitVec ||| (x.toBitVec <<< 10) := by
    show L.toBitVec ||| (x.toBitVec <<< (c.toBitVec.smod 32#32)) = _
    rw [hc]
    rfl
  have lm : L.toBitVec.toNat = m <<< 15 := by
    rw [Nat.shiftLeft_eq]
    omega
  have e2 : (L ||| (x <<< c)).toBitVec.toNat = L.toBitVec.toNat + 1024 * x.toBitVec.toNat := by
    rw [e1, BitVec.toNat_or, BitVec.toNat_shiftLeft, Nat.mod_eq_of_lt (by rw [Nat.shiftLeft_eq]; omega), lm, ← Nat.shiftLeft_add_eq_or_of_lt (i := 15) (by rw [Nat.shiftLeft_eq]; omega), Nat.shiftLeft_eq, Nat.shiftLeft_eq]
    omega
  have e3 : (L ||| (x <<< c)).toInt = if 2 * (L ||| (x <<< c)).toBitVec.toNat < 2 ^ 32 then ((L ||| (x <<< c)).toBitVec.toNat : Int) else ((L ||| (x <<< c)).toBitVec.toNat : Int) - (2 ^ 32 : Nat) := BitVec.toInt_eq_toNat_cond _
  rw [e3, e2, if_pos (by omega)]
  omega
theorem orshl5 {L x c : Int32} (hc : c.toBitVec.smod 32#32 = 5#32) (m : Nat) (hL : L.toInt = 1024 * (m : Int)) (hm : m < 1048576) (h0 : 0 ≤ x.toInt) (h1 : x.toInt < 32) : (L ||| (x <<< c)).toInt = L.toInt + 32 * x.toInt := by
  have ex : x.toInt = if 2 * x.toBitVec.toNat < 2 ^ 32 then (x.toBitVec.toNat : Int) else (x.toBitVec.toNat : Int) - (2 ^ 32 : Nat) := BitVec.toInt_eq_toNat_cond x.toBitVec
  have eL : L.toInt = if 2 * L.toBitVec.toNat < 2 ^ 32 then (L.toBitVec.toNat : Int) else (L.toBitVec.toNat : Int) - (2 ^ 32 : Nat) := BitVec.toInt_eq_toNat_cond L.toBitVec
  have bx := x.toBitVec.isLt
  have bL := L.toBitVec.isLt
  have nx : x.toInt = (x.toBitVec.toNat : Int) := by
    rw [ex] at h0 h1 ⊢
    split at h0 <;> split at h1 <;> split <;> omega
  have nL : L.toInt = (L.toBitVec.toNat : Int) := by
    rw [eL] at hL ⊢
    split at hL <;> split <;> omega
  have e1 : (L ||| (x <<< c)).toBitVec = L.toBitVec ||| (x.toBitVec <<< 5) := by
    show L.toBitVec ||| (x.toBitVec <<< (c.toBitVec.smod 32#32)) = _
    rw [hc]
    rfl
  have lm : L.toBitVec.toNat = m <<< 10 := by
    rw [Nat.shiftLeft_eq]
    omega
  have e2 : (L ||| (x <<< c)).toBitVec.toNat = L.toBitVec.toNat + 32 * x.toBitVec.toNat := by
    rw [e1, BitVec.toNat_or, BitVec.toNat_shiftLeft, Nat.mod_eq_of_lt (by rw [Nat.shiftLeft_eq]; omega), lm, ← Nat.shiftLeft_add_eq_or_of_lt (i := 10) (by rw [Nat.shiftLeft_eq]; omega), Nat.shiftLeft_eq, Nat.shiftLeft_eq]
    omega
  have e3 : (L ||| (x <<< c)).toInt = if 2 * (L ||| (x <<< c)).toBitVec.toNat < 2 ^ 32 then ((L ||| (x <<< c)).toBitVec.toNat : Int) else ((L ||| (x <<< c)).toBitVec.toNat : Int) - (2 ^ 32 : Nat) := BitVec.toInt_eq_toNat_cond _
  rw [e3, e2, if_pos (by omega)]
  omega
theorem orshl0 {L x c : Int32} (hc : c.toBitVec.smod 32#32 = 0#32) (m : Nat) (hL : L.toInt = 32 * (m : Int)) (hm : m < 33554432) (h0 : 0 ≤ x.toInt) (h1 : x.toInt < 32) : (L ||| (x <<< c)).toInt = L.toInt + 1 * x.toInt := by
  have ex : x.toInt = if 2 * x.toBitVec.toNat < 2 ^ 32 then (x.toBitVec.toNat : Int) else (x.toBitVec.toNat : Int) - (2 ^ 32 : Nat) := BitVec.toInt_eq_toNat_cond x.toBitVec
  have eL : L.toInt = if 2 * L.toBitVec.toNat < 2 ^ 32 then (L.toBitVec.toNat : Int) else (L.toBitVec.toNat : Int) - (2 ^ 32 : Nat) := BitVec.toInt_eq_toNat_cond L.toBitVec
  have bx := x.toBitVec.isLt
  have bL := L.toBitVec.isLt
  have nx : x.toInt = (x.toBitVec.toNat : Int) := by
    rw [ex] at h0 h1 ⊢
    split at h0 <;> split at h1 <;> split <;> omega
  have nL : L.toInt = (L.toBitVec.toNat : Int) := by
    rw [eL] at hL ⊢
    split at hL <;> split <;> omega
  have e1 : (L ||| (x <<< c)).toBitVec = L.toBitVec ||| (x.toBitVec <<< 0) := by
    show L.toBitVec ||| (x.toBitVec <<< (c.toBitVec.smod 32#32)) = _
    rw [hc]
    rfl
  have lm : L.toBitVec.toNat = m <<< 5 := by
    rw [Nat.shiftLeft_eq]
    omega
  have e2 : (L ||| (x <<< c)).toBitVec.toNat = L.toBitVec.toNat + 1 * x.toBitVec.toNat := by
    rw [e1, BitVec.toNat_or, BitVec.toNat_shiftLeft, Nat.mod_eq_of_lt (by rw [Nat.shiftLeft_eq]; omega), lm, ← Nat.shiftLeft_add_eq_or_of_lt (i := 5) (by rw [Nat.shiftLeft_eq]; omega), Nat.shiftLeft_eq, Nat.shiftLeft_eq]
    omega
  have e3 : (L ||| (x <<< c)).toInt = if 2 * (L ||| (x <<< c)).toBitVec.toNat < 2 ^ 32 then ((L ||| (x <<< c)).toBitVec.toNat : Int) else ((L ||| (x <<< c)).toBitVec.toNat : Int) - (2 ^ 32 : Nat) := BitVec.toInt_eq_toNat_cond _
  rw [e3, e2, if_pos (by omega)]
  omega
theorem pkX_bd {T : Nat → Int} {pa m : Nat} (hL : ltH T pa m) (i : Nat) : 0 ≤ pkX T pa m i ∧ pkX T pa m i < 32 := by
  unfold pkX
  split
  · have := hL i (by assumption)
    omega
  · omega
theorem pkX_s {T : Nat → Int} {pa i j : Nat} (h : j ≠ i) : pkX T pa (i + 1) j = pkX T pa i j := by
  unfold pkX
  split <;> split <;> first | rfl | (exfalso; omega)
theorem pkX_0 {T : Nat → Int} {pa i j : Nat} (h : i ≤ j) : pkX T pa i j = 0 := by
  unfold pkX
  rw [if_neg (by omega)]
theorem pkX_i {T : Nat → Int} {pa i : Nat} : pkX T pa (i + 1) i = T (pa + i) - 96 := by
  unfold pkX
  rw [if_pos (by omega)]
set_option maxRecDepth 100000 in
set_option maxHeartbeats 4000000 in
theorem ckW1 {l : Launch} {Γ : zG} {d : Nat} {Kp : Option Value → zH → Prop} {I : zHI} {Lg : zHL} {P : zHP} {T : Nat → Int} {n p : Nat} {S S' : Int32} (eS' : S + Int32.ofInt (-5) = S') (hH : cH I P T n p) (hlt : p < n) (hs : 97 ≤ T p ∧ T p ≤ 122) (hX : zX l Γ false (d + 1) zh35 (zMQ' Γ false zh35 Kp) 0 0 50 [(1, .int (S')), (0, .ref 3)] [] (zshC, I, Lg, P)) : zX l Γ false (d + 1) zh35 (zMQ' Γ false zh35 Kp) 0 0 8 [(1, .int (S)), (0, .ref 3)] [] (zshC, I, Lg, P) := by
  obtain ⟨hP1, hP0, e2, e3, hn, hpn, hT, hR⟩ := hH
  have eP := cPx hP1 hP0
  have h2 : (I 3 2).toInt = (n : Int) := by
    rw [e2]
    exact oN (by omega)
  have h3 : (I 3 3).toInt = (p : Int) := by
    rw [e3]
    exact oN (by omega)
  have ei : (I 3 3).toNatClampNeg = p := by rw [e3, ofN_cl (by omega)]
  have eb : ¬ (I 3 3 < 0 ∨ 700 ≤ (I 3 3).toNatClampNeg) := by
    rw [e3]
    exact ofN_ix (by omega) (by omega)
  have e31 : I 3 3 + Int32.ofInt 1 = Int32.ofNat (p + 1) := by
    rw [e3]
    exact ofN_add p 1
  have hb : (I 1 (I 3 3).toNatClampNeg).toInt = sb (T p) := by rw [ei, hT p (by omega)]
  have hr := hR p (by omega)
  have hs_ := sb_or (T p)
  subst eS'
  rw [eP] at hX ⊢
  refine zpcF (M := (zh35, zc35)) 0 50 rfl zckm35 (fun _ _ _ _ h => h) ?_
  refine zdecF (show ¬ I 3 2 ≤ I 3 3 from dlen (by rw [h2, h3] <;> omega)) (fun _ => ?_)
  refine zdecF eb (fun _ => ?_)
  refine zdecF (show ¬ I 1 (I 3 3).toNatClampNeg < Int32.ofInt 97 from dltn (by rw [hb, oI (by decide) (by decide)] <;> omega)) (fun _ => ?_)
  refine zdecF eb (fun _ => ?_)
  refine zdecF (show ¬ Int32.ofInt 122 < I 1 (I 3 3).toNatClampNeg from dltn (by rw [oI (by decide) (by decide), hb] <;> omega)) (fun _ => ?_)
  exact hX
set_option maxRecDepth 100000 in
set_option maxHeartbeats 4000000 in
theorem ckWi {l : Launch} {Γ : zG} {d : Nat} {Kp : Option Value → zH → Prop} {I : zHI} {Lg : zHL} {P : zHP} {T : Nat → Int} {n p : Nat} {i pa : Nat} {S' : Int32} (eS' : S' = Int32.ofInt (30 - 5 * ((i + 1 : Nat) : Int))) (hi : i < 6) (hpa : p = pa + i) (hH : cH I P T n p) (hlt : p < n) (hs : 97 ≤ T p ∧ T p ≤ 122) (hLt : ltH T pa i) (e6 : I 3 6 = Int32.ofInt (pk T pa i))
    (hX : zX l Γ false (d + 1) zh35 (zMQ' Γ false zh35 Kp) 0 0 8 [(1, .int (Int32.ofInt (30 - 5 * ((i + 1 : Nat) : Int)))), (0, .ref 3)] [] (zshC, zu2 (zu2 I 3 6 (Int32.ofInt (pk T pa (i + 1)))) 3 3 (Int32.ofNat (p + 1)), Lg, P)) : zX l Γ false (d + 1) zh35 (zMQ' Γ false zh35 Kp) 0 0 50 [(1, .int (S')), (0, .ref 3)] [] (zshC, I, Lg, P) := by
  obtain ⟨hP1, hP0, e2, e3, hn, hpn, hT, hR⟩ := hH
  have eP := cPx hP1 hP0
  have h2 : (I 3 2).toInt = (n : Int) := by
    rw [e2]
    exact oN (by omega)
  have h3 : (I 3 3).toInt = (p : Int) := by
    rw [e3]
    exact oN (by omega)
  have ei : (I 3 3).toNatClampNeg = p := by rw [e3, ofN_cl (by omega)]
  have eb : ¬ (I 3 3 < 0 ∨ 700 ≤ (I 3 3).toNatClampNeg) := by
    rw [e3]
    exact ofN_ix (by omega) (by omega)
  have e31 : I 3 3 + Int32.ofInt 1 = Int32.ofNat (p + 1) := by
    rw [e3]
    exact ofN_add p 1
  have hb : (I 1 (I 3 3).toNatClampNeg).toInt = sb (T p) := by rw [ei, hT p (by omega)]
  have hr := hR p (by omega)
  have hs_ := sb_or (T p)
  have e5 : S' = Int32.ofInt (30 - 5 * ((i + 1 : Nat) : Int)) := eS'
  have hs5 : S'.toInt = 25 - 5 * (i : Int) := by
    rw [e5, oI (by omega) (by omega)]
    omega
  have hx : (I 1 (I 3 3).toNatClampNeg - Int32.ofInt 97 + Int32.ofInt 1).toInt = T p - 96 := by
    have h1 : (I 1 (I 3 3).toNatClampNeg - Int32.ofInt 97).toInt = T p - 97 := by
      rw [Int32.toInt_sub, hb, oI (by decide) (by decide), s32r _ (by show (-2147483648 : Int) ≤ _; omega) (by show _ ≤ (2147483647 : Int); omega)]
      omega
    rw [Int32.toInt_add, h1, oI (by decide) (by decide), s32r _ (by show (-2147483648 : Int) ≤ _; omega) (by show _ ≤ (2147483647 : Int); omega)]
    omega
  have y : ∀ j, 0 ≤ pkX T pa i j ∧ pkX T pa i j < 32 := pkX_bd hLt
  have hL6 : (I 3 6).toInt = pk T pa i := by
    rw [e6]
    have y0 := y 0
    have y1 := y 1
    have y2 := y 2
    have y3 := y 3
    have y4 := y 4
    have y5 := y 5
    refine Int32.toInt_ofInt_of_le ?_ ?_ <;> (unfold pk; omega)
  have hl : I 3 6 ||| ((I 1 (I 3 3).toNatClampNeg - Int32.ofInt 97 + Int32.ofInt 1) <<< (S' &&& 31)) = Int32.ofInt (pk T pa (i + 1)) := by
    have key : (I 3 6 ||| ((I 1 (I 3 3).toNatClampNeg - Int32.ofInt 97 + Int32.ofInt 1) <<< (S' &&& 31))).toInt = pk T pa (i + 1) := by
      subst hpa
      have hc : (S' &&& 31) = (Int32.ofInt (25 - 5 * (i : Int)) &&& 31) := by
        rw [e5]
        rw [show (30 - 5 * ((i + 1 : Nat) : Int)) = 25 - 5 * (i : Int) from by omega]
      rw [hc]
      have i6 : i = 0 ∨ i = 1 ∨ i = 2 ∨ i = 3 ∨ i = 4 ∨ i = 5 := by omega
      rcases i6 with rfl | rfl | rfl | rfl | rfl | rfl
      · skip
        have z : ∀ j, 0 ≤ j → pkX T pa 0 j = 0 := fun j hj => pkX_0 hj
        have hm : pk T pa 0 = 1073741824 * ((((0 : Int)).toNat : Nat) : Int) := by
          unfold pk
          rw [z 0 (by decide), z 1 (by decide), z 2 (by decide), z 3 (by decide), z 4 (by decide), z 5 (by decide)]
          omega
        rw [orshl25 (by decide) ((0 : Int)).toNat (hL6.trans hm) (by omega) (by rw [hx]; omega) (by rw [hx]; omega), hL6, hx]
        unfold pk
        rw [z 0 (by decide), z 1 (by decide), z 2 (by decide), z 3 (by decide), z 4 (by decide), z 5 (by decide), pkX_i (i := 0), pkX_0 (i := 1) (j := 1) (by decide), pkX_0 (i := 1) (j := 2) (by decide), pkX_0 (i := 1) (j := 3) (by decide), pkX_0 (i := 1) (j := 4) (by decide), pkX_0 (i := 1) (j := 5) (by decide)]
        omega
      · skip
        have y0 := y 0
        have z : ∀ j, 1 ≤ j → pkX T pa 1 j = 0 := fun j hj => pkX_0 hj
        have hm : pk T pa 1 = 33554432 * (((pkX T pa 1 0).toNat : Nat) : Int) := by
          unfold pk
          rw [z 1 (by decide), z 2 (by decide), z 3 (by decide), z 4 (by decide), z 5 (by decide)]
          omega
        rw [orshl20 (by decide) (pkX T pa 1 0).toNat (hL6.trans hm) (by omega) (by rw [hx]; omega) (by rw [hx]; omega), hL6, hx]
        unfold pk
        rw [z 1 (by decide), z 2 (by decide), z 3 (by decide), z 4 (by decide), z 5 (by decide), pkX_s (i := 1) (j := 0) (by decide), pkX_i (i := 1), pkX_0 (i := 2) (j := 2) (by decide), pkX_0 (i := 2) (j := 3) (by decide), pkX_0 (i := 2) (j := 4) (by decide), pkX_0 (i := 2) (j := 5) (by decide)]
        omega
      · skip
        have y0 := y 0
        have y1 := y 1
        have z : ∀ j, 2 ≤ j → pkX T pa 2 j = 0 := fun j hj => pkX_0 hj
        have hm : pk T pa 2 = 1048576 * (((32 * (pkX T pa 2 0) + pkX T pa 2 1).toNat : Nat) : Int) := by
          unfold pk
          rw [z 2 (by decide), z 3 (by decide), z 4 (by decide), z 5 (by decide)]
          omega
        rw [orshl15 (by decide) (32 * (pkX T pa 2 0) + pkX T pa 2 1).toNat (hL6.trans hm) (by omega) (by rw [hx]; omega) (by rw [hx]; omega), hL6, hx]
        unfold pk
        rw [z 2 (by decide), z 3 (by decide), z 4 (by decide), z 5 (by decide), pkX_s (i := 2) (j := 0) (by decide), pkX_s (i := 2) (j := 1) (by decide), pkX_i (i := 2), pkX_0 (i := 3) (j := 3) (by decide), pkX_0 (i := 3) (j := 4) (by decide), pkX_0 (i := 3) (j := 5) (by decide)]
        omega
      · skip
        have y0 := y 0
        have y1 := y 1
        have y2 := y 2
        have z : ∀ j, 3 ≤ j → pkX T pa 3 j = 0 := fun j hj => pkX_0 hj
        have hm : pk T pa 3 = 32768 * (((32 * (32 * (pkX T pa 3 0) + pkX T pa 3 1) + pkX T pa 3 2).toNat : Nat) : Int) := by
          unfold pk
          rw [z 3 (by decide), z 4 (by decide), z 5 (by decide)]
          omega
        rw [orshl10 (by decide) (32 * (32 * (pkX T pa 3 0) + pkX T pa 3 1) + pkX T pa 3 2).toNat (hL6.trans hm) (by omega) (by rw [hx]; omega) (by rw [hx]; omega), hL6, hx]
        unfold pk
        rw [z 3 (by decide), z 4 (by decide), z 5 (by decide), pkX_s (i := 3) (j := 0) (by decide), pkX_s (i := 3) (j := 1) (by decide), pkX_s (i := 3) (j := 2) (by decide), pkX_i (i := 3), pkX_0 (i := 4) (j := 4) (by decide), pkX_0 (i := 4) (j := 5) (by decide)]
        omega
      · skip
        have y0 := y 0
        have y1 := y 1
        have y2 := y 2
        have y3 := y 3
        have z : ∀ j, 4 ≤ j → pkX T pa 4 j = 0 := fun j hj => pkX_0 hj
        have hm : pk T pa 4 = 1024 * (((32 * (32 * (32 * (pkX T pa 4 0) + pkX T pa 4 1) + pkX T pa 4 2) + pkX T pa 4 3).toNat : Nat) : Int) := by
          unfold pk
          rw [z 4 (by decide), z 5 (by decide)]
          omega
        rw [orshl5 (by decide) (32 * (32 * (32 * (pkX T pa 4 0) + pkX T pa 4 1) + pkX T pa 4 2) + pkX T pa 4 3).toNat (hL6.trans hm) (by omega) (by rw [hx]; omega) (by rw [hx]; omega), hL6, hx]
        unfold pk
        rw [z 4 (by decide), z 5 (by decide), pkX_s (i := 4) (j := 0) (by decide), pkX_s (i := 4) (j := 1) (by decide), pkX_s (i := 4) (j := 2) (by decide), pkX_s (i := 4) (j := 3) (by decide), pkX_i (i := 4), pkX_0 (i := 5) (j := 5) (by decide)]
        omega
      · skip
        have y0 := y 0
        have y1 := y 1
        have y2 := y 2
        have y3 := y 3
        have y4 := y 4
        have z : ∀ j, 5 ≤ j → pkX T pa 5 j = 0 := fun j hj => pkX_0 hj
        have hm : pk T pa 5 = 32 * (((32 * (32 * (32 * (32 * (pkX T pa 5 0) + pkX T pa 5 1) + pkX T pa 5 2) + pkX T pa 5 3) + pkX T pa 5 4).toNat : Nat) : Int) := by
          unfold pk
          rw [z 5 (by decide)]
          omega
        rw [orshl0 (by decide) (32 * (32 * (32 * (32 * (pkX T pa 5 0) + pkX T pa 5 1) + pkX T pa 5 2) + pkX T pa 5 3) + pkX T pa 5 4).toNat (hL6.trans hm) (by omega) (by rw [hx]; omega) (by rw [hx]; omega), hL6, hx]
        unfold pk
        rw [z 5 (by decide), pkX_s (i := 5) (j := 0) (by decide), pkX_s (i := 5) (j := 1) (by decide), pkX_s (i := 5) (j := 2) (by decide), pkX_s (i := 5) (j := 3) (by decide), pkX_s (i := 5) (j := 4) (by decide), pkX_i (i := 5)]
        omega
    rw [← key, Int32.ofInt_toInt]
  have fin : zX l Γ false (d + 1) zh35 (zMQ' Γ false zh35 Kp) 0 0 8 [(1, .int (S')), (0, .ref 3)] [] (zshC, zu2 (zu2 I 3 6 (I 3 6 ||| ((I 1 (I 3 3).toNatClampNeg - Int32.ofInt 97 + Int32.ofInt 1) <<< (S' &&& 31)))) 3 3 (I 3 3 + Int32.ofInt 1), Lg, (fun a b => if a = 3 ∧ b = 1 then some 1 else if a = 3 ∧ b = 0 then some 4 else P a b : zHP)) := by
    rw [← eP, e31, hl, e5]
    exact hX
  rw [eP]
  refine zpcF (M := (zh35, zc35)) 0 8 rfl zckm35 (fun _ _ _ _ h => h) ?_
  refine zdecF (show ¬ S' < 0 from dltn (by rw [hs5, show (0 : Int32).toInt = 0 from by decide] <;> omega)) (fun _ => ?_)
  refine zdecF eb (fun _ => ?_)
  exact fin
set_option maxRecDepth 100000 in
set_option maxHeartbeats 4000000 in
theorem ckWj {l : Launch} {Γ : zG} {d : Nat} {Kp : Option Value → zH → Prop} {I : zHI} {Lg : zHL} {P : zHP} {T : Nat → Int} {n p : Nat} {i : Nat} {S' : Int32} (eS' : S' = Int32.ofInt (30 - 5 * ((i + 1 : Nat) : Int))) (hi : 6 ≤ i) (hi7 : i ≤ 700) (hH : cH I P T n p) (hlt : p < n) (hs : 97 ≤ T p ∧ T p ≤ 122)
    (hX : zX l Γ false (d + 1) zh35 (zMQ' Γ false zh35 Kp) 0 0 8 [(1, .int (Int32.ofInt (30 - 5 * ((i + 1 : Nat) : Int)))), (0, .ref 3)] [] (zshC, zu2 I 3 3 (Int32.ofNat (p + 1)), Lg, P)) : zX l Γ false (d + 1) zh35 (zMQ' Γ false zh35 Kp) 0 0 50 [(1, .int (S')), (0, .ref 3)] [] (zshC, I, Lg, P) := by
  obtain ⟨hP1, hP0, e2, e3, hn, hpn, hT, hR⟩ := hH
  have eP := cPx hP1 hP0
  have h2 : (I 3 2).toInt = (n : Int) := by
    rw [e2]
    exact oN (by omega)
  have h3 : (I 3 3).toInt = (p : Int) := by
    rw [e3]
    exact oN (by omega)
  have ei : (I 3 3).toNatClampNeg = p := by rw [e3, ofN_cl (by omega)]
  have eb : ¬ (I 3 3 < 0 ∨ 700 ≤ (I 3 3).toNatClampNeg) := by
    rw [e3]
    exact ofN_ix (by omega) (by omega)
  have e31 : I 3 3 + Int32.ofInt 1 = Int32.ofNat (p + 1) := by
    rw [e3]
    exact ofN_add p 1
  have hb : (I 1 (I 3 3).toNatClampNeg).toInt = sb (T p) := by rw [ei, hT p (by omega)]
  have hr := hR p (by omega)
  have hs_ := sb_or (T p)
  have e5 : S' = Int32.ofInt (30 - 5 * ((i + 1 : Nat) : Int)) := eS'
  have hs5 : S'.toInt = 25 - 5 * (i : Int) := by
    rw [e5, oI (by omega) (by omega)]
    omega
  have fin : zX l Γ false (d + 1) zh35 (zMQ' Γ false zh35 Kp) 0 0 8 [(1, .int (S')), (0, .ref 3)] [] (zshC, zu2 I 3 3 (I 3 3 + Int32.ofInt 1), Lg, (fun a b => if a = 3 ∧ b = 1 then some 1 else if a = 3 ∧ b = 0 then some 4 else P a b : zHP)) := by
    rw [← eP, e31, e5]
    exact hX
  rw [eP]
  refine zpcF (M := (zh35, zc35)) 0 8 rfl zckm35 (fun _ _ _ _ h => h) ?_
  refine zdecT (show S' < 0 from dlt (by rw [hs5, show (0 : Int32).toInt = 0 from by decide] <;> omega)) (fun _ => ?_)
  exact fin
set_option maxRecDepth 100000 in
set_option maxHeartbeats 4000000 in
theorem ckWx {l : Launch} {Γ : zG} {d : Nat} {Kp : Option Value → zH → Prop} {I : zHI} {Lg : zHL} {P : zHP} {T : Nat → Int} {n p : Nat} {i : Nat} {S : Int32} (eS : S = Int32.ofInt (30 - 5 * (i : Int))) (hi7 : i ≤ 700) (hH : cH I P T n p) (hs : p < n → ¬ (97 ≤ T p ∧ T p ≤ 122))
    (hX : zX l Γ false (d + 1) zh35 (zMQ' Γ false zh35 Kp) 0 0 107 [(2, .int (Int32.ofNat 0)), (1, .int (S)), (0, .ref 3)] [] (zshC, zu2 I 3 4 (Int32.ofInt (if 6 < i then 1 else 2)), Lg, P)) : zX l Γ false (d + 1) zh35 (zMQ' Γ false zh35 Kp) 0 0 8 [(1, .int (S)), (0, .ref 3)] [] (zshC, I, Lg, P) := by
  obtain ⟨hP1, hP0, e2, e3, hn, hpn, hT, hR⟩ := hH
  have eP := cPx hP1 hP0
  have h2 : (I 3 2).toInt = (n : Int) := by
    rw [e2]
    exact oN (by omega)
  have h3 : (I 3 3).toInt = (p : Int) := by
    rw [e3]
    exact oN (by omega)
  have hs0 : S.toInt = 30 - 5 * (i : Int) := by
    rw [eS]
    exact oI (by omega) (by omega)
  rw [eP] at hX ⊢
  refine zpcF (M := (zh35, zc35)) 0 107 rfl zckm35 (fun _ _ _ _ h => h) ?_
  by_cases hlt : p < n
  · have hs := hs hlt
    have ei : (I 3 3).toNatClampNeg = p := by rw [e3, ofN_cl (by omega)]
    have eb : ¬ (I 3 3 < 0 ∨ 700 ≤ (I 3 3).toNatClampNeg) := by
      rw [e3]
      exact ofN_ix (by omega) (by omega)
    have e31 : I 3 3 + Int32.ofInt 1 = Int32.ofNat (p + 1) := by
      rw [e3]
      exact ofN_add p 1
    have hb : (I 1 (I 3 3).toNatClampNeg).toInt = sb (T p) := by rw [ei, hT p (by omega)]
    have hr := hR p (by omega)
    have hs_ := sb_or (T p)
    by_cases a1 : sb (T p) < 97
    · skip
      by_cases g : 6 < i
      · rw [if_pos g] at hX
        refine zdecF (show ¬ I 3 2 ≤ I 3 3 from dlen (by rw [h2, h3] <;> omega)) (fun _ => ?_)
        refine zdecF eb (fun _ => ?_)
        refine zdecT (show I 1 (I 3 3).toNatClampNeg < Int32.ofInt 97 from dlt (by rw [hb, oI (by decide) (by decide)] <;> omega)) (fun _ => ?_)
        refine zdecF (show ¬ 0 ≤ S from dlen (by rw [show (0 : Int32).toInt = 0 from by decide, hs0] <;> omega)) (fun _ => ?_)
        exact hX
      · rw [if_neg g] at hX
        refine zdecF (show ¬ I 3 2 ≤ I 3 3 from dlen (by rw [h2, h3] <;> omega)) (fun _ => ?_)
        refine zdecF eb (fun _ => ?_)
        refine zdecT (show I 1 (I 3 3).toNatClampNeg < Int32.ofInt 97 from dlt (by rw [hb, oI (by decide) (by decide)] <;> omega)) (fun _ => ?_)
        refine zdecT (show 0 ≤ S from dle (by rw [show (0 : Int32).toInt = 0 from by decide, hs0] <;> omega)) (fun _ => ?_)
        exact hX
    · skip
      by_cases g : 6 < i
      · rw [if_pos g] at hX
        refine zdecF (show ¬ I 3 2 ≤ I 3 3 from dlen (by rw [h2, h3] <;> omega)) (fun _ => ?_)
        refine zdecF eb (fun _ => ?_)
        refine zdecF (show ¬ I 1 (I 3 3).toNatClampNeg < Int32.ofInt 97 from dltn (by rw [hb, oI (by decide) (by decide)] <;> omega)) (fun _ => ?_)
        refine zdecF eb (fun _ => ?_)
        refine zdecT (show Int32.ofInt 122 < I 1 (I 3 3).toNatClampNeg from dlt (by rw [oI (by decide) (by decide), hb] <;> omega)) (fun _ => ?_)
        refine zdecF (show ¬ 0 ≤ S from dlen (by rw [show (0 : Int32).toInt = 0 from by decide, hs0] <;> omega)) (fun _ => ?_)
        exact hX
      · rw [if_neg g] at hX
        refine zdecF (show ¬ I 3 2 ≤ I 3 3 from dlen (by rw [h2, h3] <;> omega)) (fun _ => ?_)
        refine zdecF eb (fun _ => ?_)
        refine zdecF (show ¬ I 1 (I 3 3).toNatClampNeg < Int32.ofInt 97 from dltn (by rw [hb, oI (by decide) (by decide)] <;> omega)) (fun _ => ?_)
        refine zdecF eb (fun _ => ?_)
        refine zdecT (show Int32.ofInt 122 < I 1 (I 3 3).toNatClampNeg from dlt (by rw [oI (by decide) (by decide), hb] <;> omega)) (fun _ => ?_)
        refine zdecT (show 0 ≤ S from dle (by rw [show (0 : Int32).toInt = 0 from by decide, hs0] <;> omega)) (fun _ => ?_)
        exact hX
  · skip
    by_cases g : 6 < i
    · rw [if_pos g] at hX
      refine zdecT (show I 3 2 ≤ I 3 3 from dle (by rw [h2, h3] <;> omega)) (fun _ => ?_)
      refine zdecF (show ¬ 0 ≤ S from dlen (by rw [show (0 : Int32).toInt = 0 from by decide, hs0] <;> omega)) (fun _ => ?_)
      exact hX
    · rw [if_neg g] at hX
      refine zdecT (show I 3 2 ≤ I 3 3 from dle (by rw [h2, h3] <;> omega)) (fun _ => ?_)
      refine zdecT (show 0 ≤ S from dle (by rw [show (0 : Int32).toInt = 0 from by decide, hs0] <;> omega)) (fun _ => ?_)
      exact hX
def wC : List Int := [437714944, 247516768, 693712896, 538738688, 647157920, 135708672, 642945024, 404455424, 214424576, 672923648, 781651968, 36165792, 72761056, 475114496, 116443749, 777650176, 538218496, 446125701, 486146048, 48365568, 522190848]
/-- the word by its letters, from the j-th on -/
def cFd (v : Int) : Nat → Nat → Int
  | 0, _ => 2
  | k + 1, j => if wC.getD j 0 = v then 10 + (j : Int) else cFd v k (j + 1)
set_option maxRecDepth 100000 in
set_option maxHeartbeats 4000000 in
theorem ckFi {l : Launch} {Γ : zG} {d : Nat} {Kp : Option Value → zH → Prop} {I : zHI} {Lg : zHL} {P : zHP} {S : Int32} {j : Nat} {v : Int} (hP1 : P 3 1 = some 1) (hP0 : P 3 0 = some 4) (hW : ∀ j, j < 21 → (I 4 j).toInt = wC.getD j 0) (hj21 : j < 21) (h4 : (I 3 4).toInt = 2) (h6 : (I 3 6).toInt = v) (hX : wC.getD j 0 ≠ v → zX l Γ false (d + 1) zh35 (zMQ' Γ false zh35 Kp) 0 0 107 [(2, .int (Int32.ofNat (j + 1))), (1, .int S), (0, .ref 3)] [] (zshC, I, Lg, P)) (hY : wC.getD j 0 = v → zX l Γ false (d + 1) zh35 (zMQ' Γ false zh35 Kp) 0 0 107 [(2, .int (Int32.ofNat (j + 1))), (1, .int S), (0, .ref 3)] [] (zshC, zu2 I 3 4 (Int32.ofInt (10 + (j : Int))), Lg, P)) : zX l Γ false (d + 1) zh35 (zMQ' Γ false zh35 Kp) 0 0 107 [(2, .int (Int32.ofNat j)), (1, .int S), (0, .ref 3)] [] (zshC, I, Lg, P) := by
  have eP := cPx hP1 hP0
  have hj : (Int32.ofNat j).toInt = (j : Int) := oN (by omega)
  have ecl : (Int32.ofNat j).toNatClampNeg = j := ofN_cl (by omega)
  have ebj : ¬ (Int32.ofNat j < 0 ∨ 21 ≤ (Int32.ofNat j).toNatClampNeg) := ofN_ix hj21 (by omega)
  have hw : (I 4 (Int32.ofNat j).toNatClampNeg).toInt = wC.getD j 0 := by rw [ecl, hW j hj21]
  have e1 : Int32.ofNat j + Int32.ofInt 1 = Int32.ofNat (j + 1) := ofN_add j 1
  have e10 : Int32.ofInt 10 + Int32.ofNat j = Int32.ofInt (10 + (j : Int)) := by
    rw [Int32.ofInt_add, Int32.ofInt_eq_ofNat (n := j)]
  rw [← e1] at hX hY
  rw [← e10] at hY
  rw [eP] at hX hY ⊢
  refine zpcF (M := (zh35, zc35)) 0 107 rfl zckm35 (fun _ _ _ _ h => h) ?_
  by_cases hv : wC.getD j 0 = v
  · skip
    refine zdecF (show ¬ Int32.ofInt 21 ≤ Int32.ofNat j from dlen (by rw [oI (by decide) (by decide), hj] <;> omega)) (fun _ => ?_)
    refine zdecT (show I 3 4 = Int32.ofInt 2 from deq (by rw [h4, oI (by decide) (by decide)] <;> omega)) (fun _ => ?_)
    refine zdecF ebj (fun _ => ?_)
    refine zdecT (show I 4 (Int32.ofNat j).toNatClampNeg = I 3 6 from deq (by rw [hw, h6] <;> omega)) (fun _ => ?_)
    exact hY hv
  · skip
    refine zdecF (show ¬ Int32.ofInt 21 ≤ Int32.ofNat j from dlen (by rw [oI (by decide) (by decide), hj] <;> omega)) (fun _ => ?_)
    refine zdecT (show I 3 4 = Int32.ofInt 2 from deq (by rw [h4, oI (by decide) (by decide)] <;> omega)) (fun _ => ?_)
    refine zdecF ebj (fun _ => ?_)
    refine zdecF (show ¬ I 4 (Int32.ofNat j).toNatClampNeg = I 3 6 from den (by rw [hw, h6] <;> omega)) (fun _ => ?_)
    exact hX hv
set_option maxRecDepth 100000 in
set_option maxHeartbeats 4000000 in
theorem ckFx {l : Launch} {Γ : zG} {d : Nat} {Kp : Option Value → zH → Prop} {I : zHI} {Lg : zHL} {P : zHP} {S : Int32} {j : Nat} (hj22 : j ≤ 21) (hP1 : P 3 1 = some 1) (hP0 : P 3 0 = some 4) {kk : Int} (h4 : (I 3 4).toInt = kk) (hd_ : j = 21 ∨ kk ≠ 2) (hK : Kp none (zshC, I, Lg, P)) : zX l Γ false (d + 1) zh35 (zMQ' Γ false zh35 Kp) 0 0 107 [(2, .int (Int32.ofNat j)), (1, .int S), (0, .ref 3)] [] (zshC, I, Lg, P) := by
  have eP := cPx hP1 hP0
  have hj : (Int32.ofNat j).toInt = (j : Int) := oN (by omega)
  rw [eP] at hK ⊢
  refine zpcF (M := (zh35, zc35)) 0 1000 rfl zckm35 (fun _ _ _ _ h => h) ?_
  by_cases h21 : j = 21
  · skip
    refine zdecT (show Int32.ofInt 21 ≤ Int32.ofNat j from dle (by rw [oI (by decide) (by decide), hj] <;> omega)) (fun _ => ?_)
    exact hK
  · skip
    refine zdecF (show ¬ Int32.ofInt 21 ≤ Int32.ofNat j from dlen (by rw [oI (by decide) (by decide), hj] <;> omega)) (fun _ => ?_)
    refine zdecF (show ¬ I 3 4 = Int32.ofInt 2 from den (by rw [h4, oI (by decide) (by decide)] <;> omega)) (fun _ => ?_)
    exact hK
theorem ckFd {l : Launch} {Γ : zG} {d : Nat} {Kp : Option Value → zH → Prop} {Lg : zHL} {P : zHP} {S : Int32} {v : Int} (hP1 : P 3 1 = some 1) (hP0 : P 3 0 = some 4) (k : Nat) : ∀ (j : Nat) (I : zHI), (∀ j, j < 21 → (I 4 j).toInt = wC.getD j 0) → j + k = 21 → I 3 4 = Int32.ofInt 2 → (I 3 6).toInt = v → Kp none (zshC, zu2 I 3 4 (Int32.ofInt (cFd v k j)), Lg, P) → zX l Γ false (d + 1) zh35 (zMQ' Γ false zh35 Kp) 0 0 107 [(2, .int (Int32.ofNat j)), (1, .int S), (0, .ref 3)] [] (zshC, I, Lg, P) := by
  induction k with
  | zero =>
    intro j I hW hk h4 h6 hK
    have e : cFd v 0 j = 2 := rfl
    rw [e, zu2_id h4] at hK
    exact ckFx (by omega) hP1 hP0 (kk := 2) (by rw [h4]; decide) (Or.inl (by omega)) hK
  | succ k ih =>
    intro j I hW hk h4 h6 hK
    refine ckFi hP1 hP0 hW (by omega) (by rw [h4]; decide) h6 (fun hv => ?_) (fun hv => ?_)
    · have e : cFd v (k + 1) j = cFd v k (j + 1) := by
        simp only [cFd]
        rw [if_neg hv]
      rw [e] at hK
      exact ih (j + 1) I hW (by omega) h4 h6 hK
    · have e : cFd v (k + 1) j = 10 + (j : Int) := by
        simp only [cFd]
        rw [if_pos hv]
      rw [e] at hK
      exact ckFx (by omega) hP1 hP0 (kk := 10 + (j : Int)) (by rw [zu2_at]; exact oI (by omega) (by omega)) (Or.inr (by omega)) hK
