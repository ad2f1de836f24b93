/-! the reference's packed: six letters -/
theorem shlor {x y : Int32} (h0 : 0 ≤ x.toInt) (h1 : x.toInt < 67108864) (g0 : 0 ≤ y.toInt) (g1 : y.toInt < 32) : (x <<< (Int32.ofInt 5 &&& 31) ||| y).toInt = 32 * x.toInt + y.toInt := by
  have ex : x.toInt = if 2 * x.toBitVec.toNat < 2 ^ 32 then (x.toBitVec.toNat : Int) else (x.toBitVec.toNat : Int) - (2 ^ 32 : Nat) := BitVec.toInt_eq_toNat_cond x.toBitVec
  have ey : y.toInt = if 2 * y.toBitVec.toNat < 2 ^ 32 then (y.toBitVec.toNat : Int) else (y.toBitVec.toNat : Int) - (2 ^ 32 : Nat) := BitVec.toInt_eq_toNat_cond y.toBitVec
  have bx := x.toBitVec.isLt
  have by_ := y.toBitVec.isLt
  have nx : x.toInt = (x.toBitVec.toNat : Int) := by
    rw [ex] at h0 h1 ⊢
    split at h0 <;> split at h1 <;> split <;> omega
  have ny : y.toInt = (y.toBitVec.toNat : Int) := by
    rw [ey] at g0 g1 ⊢
    split at g0 <;> split at g1 <;> split <;> omega
  have e1 : (x <<< (Int32.ofInt 5 &&& 31) ||| y).toBitVec = (x.toBitVec <<< 5) ||| y.toBitVec := by
    show (x.toBitVec <<< ((Int32.ofInt 5 &&& 31).toBitVec.smod 32#32)) ||| y.toBitVec = _
    rw [show (Int32.ofInt 5 &&& 31).toBitVec.smod 32#32 = 5#32 from by decide]
    rfl
  have e2 : (x <<< (Int32.ofInt 5 &&& 31) ||| y).toBitVec.toNat = 32 * x.toBitVec.toNat + y.toBitVec.toNat := by
    rw [e1, BitVec.toNat_or, BitVec.toNat_shiftLeft, Nat.mod_eq_of_lt (by rw [Nat.shiftLeft_eq]; omega), ← Nat.shiftLeft_add_eq_or_of_lt (i := 5) (by omega), Nat.shiftLeft_eq]
    omega
  have e3 : (x <<< (Int32.ofInt 5 &&& 31) ||| y).toInt = if 2 * (x <<< (Int32.ofInt 5 &&& 31) ||| y).toBitVec.toNat < 2 ^ 32 then ((x <<< (Int32.ofInt 5 &&& 31) ||| y).toBitVec.toNat : Int) else ((x <<< (Int32.ofInt 5 &&& 31) ||| y).toBitVec.toNat : Int) - (2 ^ 32 : Nat) := BitVec.toInt_eq_toNat_cond _
  rw [e3, e2, if_pos (by omega)]
  omega
def pkX (T : Nat → Int) (pa m i : Nat) : Int := if i < m then T (pa + i) - 96 else 0
def pk (T : Nat → Int) (pa m : Nat) : Int := 32 * (32 * (32 * (32 * (32 * pkX T pa m 0 + pkX T pa m 1) + pkX T pa m 2) + pkX T pa m 3) + pkX T pa m 4) + pkX T pa m 5
def ltH (T : Nat → Int) (pa m : Nat) : Prop := ∀ i, i < m → 97 ≤ T (pa + i) ∧ T (pa + i) ≤ 122
set_option maxRecDepth 100000 in
set_option maxHeartbeats 4000000 in
theorem zpkI {l : Launch} {Γ : zG} {d : Nat} {Kp : Option Value → zH → Prop} {I : zHI} {Lg : zHL} {P : zHP} {a b k k' v v' : Int32} (hP : P 0 0 = some 1) (h6 : k.toInt < (a + Int32.ofInt 6).toInt) (hk' : k + Int32.ofInt 1 = k') (hb : k.toInt < b.toInt) (hbd : ¬ (k < 0 ∨ 700 ≤ k.toNatClampNeg)) (hv : (v <<< (Int32.ofInt 5 &&& 31) ||| (I 1 k.toNatClampNeg - (Int8.ofInt 96).toInt32)) = v') (hX : zX l Γ false (d + 1) zh198 (zMQ' Γ false zh198 Kp) 0 0 5 [(4, .int k'), (3, .int v'), (0, .ref 0), (1, .int a), (2, .int b)] [] (zshM, I, Lg, P)) : zX l Γ false (d + 1) zh198 (zMQ' Γ false zh198 Kp) 0 0 5 [(4, .int k), (3, .int v), (0, .ref 0), (1, .int a), (2, .int b)] [] (zshM, I, Lg, P) := by
  subst hk'
  subst hv
  have eP := zPx hP
  rw [eP] at hX ⊢
  refine zpcF (M := (zh198, zc198)) 198 5 rfl zckm198 (fun _ _ _ _ h => h) ?_
  refine zdecF (show ¬ a + Int32.ofInt 6 ≤ k from dlen h6) (fun _ => ?_)
  refine zdecF (show ¬ b ≤ k from dlen hb) (fun _ => ?_)
  refine zdecF hbd (fun _ => ?_)
  exact hX
set_option maxRecDepth 100000 in
set_option maxHeartbeats 4000000 in
theorem zpkJ {l : Launch} {Γ : zG} {d : Nat} {Kp : Option Value → zH → Prop} {I : zHI} {Lg : zHL} {P : zHP} {a b k k' v v' : Int32} (hP : P 0 0 = some 1) (h6 : k.toInt < (a + Int32.ofInt 6).toInt) (hk' : k + Int32.ofInt 1 = k') (hb : b.toInt ≤ k.toInt) (hv : (v <<< (Int32.ofInt 5 &&& 31) ||| Int32.ofInt 0) = v') (hX : zX l Γ false (d + 1) zh198 (zMQ' Γ false zh198 Kp) 0 0 5 [(4, .int k'), (3, .int v'), (0, .ref 0), (1, .int a), (2, .int b)] [] (zshM, I, Lg, P)) : zX l Γ false (d + 1) zh198 (zMQ' Γ false zh198 Kp) 0 0 5 [(4, .int k), (3, .int v), (0, .ref 0), (1, .int a), (2, .int b)] [] (zshM, I, Lg, P) := by
  subst hk'
  subst hv
  have eP := zPx hP
  rw [eP] at hX ⊢
  refine zpcF (M := (zh198, zc198)) 198 5 rfl zckm198 (fun _ _ _ _ h => h) ?_
  refine zdecF (show ¬ a + Int32.ofInt 6 ≤ k from dlen h6) (fun _ => ?_)
  refine zdecT (show b ≤ k from dle hb) (fun _ => ?_)
  exact hX
set_option maxRecDepth 100000 in
set_option maxHeartbeats 4000000 in
theorem zpkX {l : Launch} {Γ : zG} {d : Nat} {Kp : Option Value → zH → Prop} {I : zHI} {Lg : zHL} {P : zHP} {a b k v : Int32} (h6 : (a + Int32.ofInt 6).toInt ≤ k.toInt) (hK : Kp (some (.int v)) (zshM, I, Lg, P)) : zX l Γ false (d + 1) zh198 (zMQ' Γ false zh198 Kp) 0 0 5 [(4, .int k), (3, .int v), (0, .ref 0), (1, .int a), (2, .int b)] [] (zshM, I, Lg, P) := by
  refine zpcF (M := (zh198, zc198)) 198 1000 rfl zckm198 (fun _ _ _ _ h => h) ?_
  refine zdecT (show a + Int32.ofInt 6 ≤ k from dle h6) (fun _ => ?_)
  exact hK
theorem zpkL {l : Launch} {Γ : zG} {d : Nat} {Kp : Option Value → zH → Prop} {I : zHI} {Lg : zHL} {P : zHP} {T : Nat → Int} {pa m : Nat} {a b : Int32} (ea : a = Int32.ofNat pa) (eb : b = Int32.ofNat (pa + m)) (hP : P 0 0 = some 1) (hpm : pa + m ≤ 700) (hT : ∀ j, j < 700 → (I 1 j).toInt = T j) (hL : ltH T pa m) {i : Nat} (hi : i < 6) {v : Int32} {z : Int} (hv : v.toInt = z) (hz : 0 ≤ z ∧ z < 67108864)
    (hX : ∀ v' : Int32, v'.toInt = 32 * z + pkX T pa m i → zX l Γ false (d + 1) zh198 (zMQ' Γ false zh198 Kp) 0 0 5 [(4, .int (Int32.ofNat (pa + (i + 1)))), (3, .int v'), (0, .ref 0), (1, .int a), (2, .int b)] [] (zshM, I, Lg, P)) : zX l Γ false (d + 1) zh198 (zMQ' Γ false zh198 Kp) 0 0 5 [(4, .int (Int32.ofNat (pa + i))), (3, .int v), (0, .ref 0), (1, .int a), (2, .int b)] [] (zshM, I, Lg, P) := by
  have ha6 : (a + Int32.ofInt 6).toInt = (pa : Int) + 6 := by
    rw [ea, show Int32.ofNat pa + Int32.ofInt 6 = Int32.ofNat (pa + 6) from ofN_add pa 6, oN (by omega)]
    omega
  have hk : (Int32.ofNat (pa + i)).toInt = (pa : Int) + i := by
    rw [oN (by omega)]
    omega
  have hb : b.toInt = (pa : Int) + m := by
    rw [eb, oN (by omega)]
    omega
  obtain ⟨k, ek⟩ : ∃ k, k = Int32.ofNat (pa + i) := ⟨_, rfl⟩
  have e1 : k + Int32.ofInt 1 = Int32.ofNat (pa + (i + 1)) := by
    rw [ek]
    exact ofN_add (pa + i) 1
  rw [← ek] at hk ⊢
  by_cases h : i < m
  · have hl := hL i h
    have hx : (I 1 k.toNatClampNeg - (Int8.ofInt 96).toInt32).toInt = T (pa + i) - 96 := by
      have h1 : (I 1 k.toNatClampNeg).toInt = T (pa + i) := by rw [ek, ofN_cl (by omega), hT _ (by omega)]
      rw [Int32.toInt_sub, h1, show ((Int8.ofInt 96).toInt32).toInt = 96 from by decide, s32r _ (by show (-2147483648 : Int) ≤ _; omega) (by show _ ≤ (2147483647 : Int); omega)]
    have ex : pkX T pa m i = T (pa + i) - 96 := by
      unfold pkX
      rw [if_pos h]
    refine zpkI hP (by omega) e1 (by omega) (by rw [ek]; exact ofN_ix (by omega) (by omega)) rfl (hX _ ?_)
    rw [shlor (by omega) (by omega) (by omega) (by omega), hv, hx, ex]
  · have ex : pkX T pa m i = 0 := by
      unfold pkX
      rw [if_neg h]
    refine zpkJ hP (by omega) e1 (by omega) rfl (hX _ ?_)
    rw [shlor (by omega) (by omega) (by decide) (by decide), hv, ex]
    rfl
theorem zpacked {l : Launch} {Γ : zG} {d : Nat} {Kp : Option Value → zH → Prop} {I : zHI} {Lg : zHL} {P : zHP} {T : Nat → Int} {pa m : Nat} {a b : Int32} (ea : a = Int32.ofNat pa) (eb : b = Int32.ofNat (pa + m)) (hP : P 0 0 = some 1) (hpm : pa + m ≤ 700) (hT : ∀ j, j < 700 → (I 1 j).toInt = T j) (hL : ltH T pa m) (hK : ∀ v : Int32, v.toInt = pk T pa m → Kp (some (.int v)) (zshM, I, Lg, P)) : zSem l Γ false (d + 1) (zhd 198) [.ref 0, .int a, .int b] ((zshM, I, Lg, P) : zH) Kp := by
  show zSem l Γ false (d + 1) zh198 _ _ _
  have ha : sTL [sr0, .inl sf32, .inl sf32] [.ref 0, .int a, .int b] := ⟨_, _, rfl, rfl, _, _, rfl, ⟨_, rfl, i32bd _⟩, _, _, rfl, ⟨_, rfl, i32bd _⟩, rfl⟩
  have y : ∀ i, 0 ≤ pkX T pa m i ∧ pkX T pa m i < 32 := fun i => by
    unfold pkX
    split
    · have := hL i (by assumption)
      omega
    · omega
  have y0 := y 0
  have y1 := y 1
  have y2 := y 2
  have y3 := y 3
  have y4 := y 4
  have y5 := y 5
  refine zbody (by decide +kernel) (by rw [sslen_ok _ _ ha]; decide +kernel) ?_
  refine zpcF (M := (zh198, zc198)) 198 5 rfl zckm198 (fun _ _ _ _ h => h) ?_
  show zX l Γ false (d + 1) zh198 (zMQ' Γ false zh198 Kp) 0 0 5 [(4, .int a), (3, .int (Int32.ofInt 0)), (0, .ref 0), (1, .int a), (2, .int b)] [] (zshM, I, Lg, P)
  have e0 : a = Int32.ofNat (pa + 0) := ea
  have key : zX l Γ false (d + 1) zh198 (zMQ' Γ false zh198 Kp) 0 0 5 [(4, .int (Int32.ofNat (pa + 0))), (3, .int (Int32.ofInt 0)), (0, .ref 0), (1, .int a), (2, .int b)] [] (zshM, I, Lg, P) := by
    refine zpkL ea eb hP hpm hT hL (i := 0) (by decide) (z := 0) (by decide) (by decide) (fun v1 h1 => ?_)
    refine zpkL ea eb hP hpm hT hL (i := 1) (by decide) h1 (by omega) (fun v2 h2 => ?_)
    refine zpkL ea eb hP hpm hT hL (i := 2) (by decide) h2 (by omega) (fun v3 h3 => ?_)
    refine zpkL ea eb hP hpm hT hL (i := 3) (by decide) h3 (by omega) (fun v4 h4 => ?_)
    refine zpkL ea eb hP hpm hT hL (i := 4) (by decide) h4 (by omega) (fun v5 h5 => ?_)
    refine zpkL ea eb hP hpm hT hL (i := 5) (by decide) h5 (by omega) (fun v6 h6 => ?_)
    refine zpkX ?_ (hK v6 ?_)
    · rw [ea, show Int32.ofNat pa + Int32.ofInt 6 = Int32.ofNat (pa + 6) from ofN_add pa 6]
      exact Int.le_refl _
    · rw [h6]
      unfold pk
      omega
  rw [← e0] at key
  exact key
