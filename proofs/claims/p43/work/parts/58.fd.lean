/-! feed, byte by byte, on both sides -/
/-- what the reference lays at the k-th place -/
def fX (k : Nat) (w : Int32) : Int32 := (w >>> ((Int32.ofInt 24 - Int32.ofInt 8 * (Int32.ofNat k - Int32.ofNat k / Int32.ofInt 4 * Int32.ofInt 4)) &&& 31)) &&& Int32.ofInt 255
def fsel (k : Nat) (a b c d e : Int32) : Int32 := if k < 4 then a else if k < 8 then b else if k < 12 then c else if k < 16 then d else e
theorem zPx {P : zHP} {q k r : Nat} (e : P q k = some r) : P = fun a b => if a = q ∧ b = k then some r else P a b := by
  funext a b
  split
  · rename_i h
    rw [h.1, h.2, e]
  · rfl
theorem ofN_lt {a b : Nat} (ha : a < 100000) (hb : b < 100000) : (Int32.ofNat a < Int32.ofNat b) ↔ a < b := by
  rw [Int32.lt_iff_toInt_lt, Int32.toInt_ofNat_of_lt (by omega), Int32.toInt_ofNat_of_lt (by omega)]
  omega
theorem ofN_le {a b : Nat} (ha : a < 100000) (hb : b < 100000) : (Int32.ofNat a ≤ Int32.ofNat b) ↔ a ≤ b := by
  rw [Int32.le_iff_toInt_le, Int32.toInt_ofNat_of_lt (by omega), Int32.toInt_ofNat_of_lt (by omega)]
  omega
theorem ofN_add (a b : Nat) : Int32.ofNat a + Int32.ofNat b = Int32.ofNat (a + b) := by
  rw [← Int32.ofInt_eq_ofNat, ← Int32.ofInt_eq_ofNat, ← Int32.ofInt_eq_ofNat, ← Int32.ofInt_add]
  rfl
theorem ofN_cl {a : Nat} (ha : a < 100000) : (Int32.ofNat a).toNatClampNeg = a := Int32.toNatClampNeg_ofNat_of_lt (by omega)
theorem ofN_ix {a n : Nat} (ha : a < n) (hn : n < 100000) : ¬ (Int32.ofNat a < 0 ∨ n ≤ (Int32.ofNat a).toNatClampNeg) := by
  intro hc
  rcases hc with hc | hc
  · have h1 := Int32.lt_iff_toInt_lt.mp hc
    rw [Int32.toInt_ofNat_of_lt (by omega), show (0 : Int32).toInt = 0 from by decide] at h1
    omega
  · rw [ofN_cl (by omega)] at hc
    omega
set_option maxRecDepth 100000 in
set_option maxHeartbeats 4000000 in
theorem zfmI {l : Launch} {Γ : zG} {d : Nat} {Kp : Option Value → zH → Prop} {I : zHI} {Lg : zHL} {P : zHP} (hP : P 0 0 = some 1) {k v : Nat} (hk : k < 20) (hv : v + 20 ≤ 700) (e : I 0 1 = Int32.ofNat v) {x1 x2 x3 x4 x5 : Int32}
    (hX : zX l Γ false (d + 1) zh193 (zMQ' Γ false zh193 Kp) 0 0 23 [(6, .int (Int32.ofNat (k + 1))), (0, .ref 0), (1, .int x1), (2, .int x2), (3, .int x3), (4, .int x4), (5, .int x5)] [] (zshM, zu2 I 1 (v + k) (fX k (fsel k x1 x2 x3 x4 x5)), Lg, P)) :
    zX l Γ false (d + 1) zh193 (zMQ' Γ false zh193 Kp) 0 0 23 [(6, .int (Int32.ofNat k)), (0, .ref 0), (1, .int x1), (2, .int x2), (3, .int x3), (4, .int x4), (5, .int x5)] [] (zshM, I, Lg, P) := by
  have ei : (I 0 1 + Int32.ofNat k).toNatClampNeg = v + k := by rw [e, ofN_add, ofN_cl (by omega)]
  have eb : ¬ (I 0 1 + Int32.ofNat k < 0 ∨ 700 ≤ (I 0 1 + Int32.ofNat k).toNatClampNeg) := by
    rw [e, ofN_add]
    exact ofN_ix (by omega) (by omega)
  have e1 : Int32.ofNat k + Int32.ofInt 1 = Int32.ofNat (k + 1) := ofN_add k 1
  have c20 : ¬ Int32.ofInt 20 ≤ Int32.ofNat k := fun h => absurd ((ofN_le (a := 20) (by omega) (by omega)).mp h) (by omega)
  have eP := zPx hP
  have fin : ∀ w : Int32, fsel k x1 x2 x3 x4 x5 = w → zX l Γ false (d + 1) zh193 (zMQ' Γ false zh193 Kp) 0 0 23 [(6, .int (Int32.ofNat k + Int32.ofInt 1)), (7, .int w), (0, .ref 0), (1, .int x1), (2, .int x2), (3, .int x3), (4, .int x4), (5, .int x5)] [] (zsI ((zshM, I, Lg, (fun a b => if a = 0 ∧ b = 0 then some 1 else P a b : zHP)) : zH) 1 (I 0 1 + Int32.ofNat k).toNatClampNeg (fX k w)) := by
    intro w hw
    rw [← eP]
    rw [ei, e1]
    subst hw
    refine zX_sub (fun x hx => ?_) hX
    rcases List.mem_cons.mp hx with e | hx
    · exact e ▸ List.mem_cons_self
    · exact List.mem_cons_of_mem _ (List.mem_cons_of_mem _ hx)
  rw [eP]
  refine zpcF (M := (zh193, zc193)) 193 23 rfl zckm193 (fun _ _ _ _ h => h) ?_
  refine zdecF c20 (fun _ => ?_)
  by_cases k4 : k < 4
  · refine zdecF (fun h => absurd ((ofN_le (a := 4) (by omega) (by omega)).mp h) (by omega)) (fun _ => ?_)
    refine zdecF eb (fun _ => ?_)
    exact fin x1 (by unfold fsel; rw [if_pos k4])
  refine zdecT ((ofN_le (a := 4) (by omega) (by omega)).mpr (by omega)) (fun _ => ?_)
  by_cases k8 : k < 8
  · refine zdecF (fun h => absurd ((ofN_le (a := 8) (by omega) (by omega)).mp h) (by omega)) (fun _ => ?_)
    refine zdecF eb (fun _ => ?_)
    exact fin x2 (by unfold fsel; rw [if_neg k4, if_pos k8])
  refine zdecT ((ofN_le (a := 8) (by omega) (by omega)).mpr (by omega)) (fun _ => ?_)
  by_cases k12 : k < 12
  · refine zdecF (fun h => absurd ((ofN_le (a := 12) (by omega) (by omega)).mp h) (by omega)) (fun _ => ?_)
    refine zdecF eb (fun _ => ?_)
    exact fin x3 (by unfold fsel; rw [if_neg k4, if_neg k8, if_pos k12])
  refine zdecT ((ofN_le (a := 12) (by omega) (by omega)).mpr (by omega)) (fun _ => ?_)
  by_cases k16 : k < 16
  · refine zdecF (fun h => absurd ((ofN_le (a := 16) (by omega) (by omega)).mp h) (by omega)) (fun _ => ?_)
    refine zdecF eb (fun _ => ?_)
    exact fin x4 (by unfold fsel; rw [if_neg k4, if_neg k8, if_neg k12, if_pos k16])
  refine zdecT ((ofN_le (a := 16) (by omega) (by omega)).mpr (by omega)) (fun _ => ?_)
  refine zdecF eb (fun _ => ?_)
  exact fin x5 (by unfold fsel; rw [if_neg k4, if_neg k8, if_neg k12, if_neg k16])
/-- k places from v on are laid -/
def fI (I : zHI) (v k : Nat) (b : Nat → Int32) : zHI := fun q j => if q = 1 ∧ v ≤ j ∧ j < v + k then b (j - v) else I q j
theorem fI_0 (I : zHI) (v : Nat) (b : Nat → Int32) : fI I v 0 b = I := by
  funext q j
  unfold fI
  rw [if_neg (by omega)]
theorem fI_01 (I : zHI) (v k : Nat) (b : Nat → Int32) : fI I v k b 0 1 = I 0 1 := by
  unfold fI
  rw [if_neg (by omega)]
theorem fI_s (I : zHI) (v k : Nat) (b : Nat → Int32) : zu2 (fI I v k b) 1 (v + k) (b k) = fI I v (k + 1) b := by
  funext q j
  simp only [zu2, fI]
  by_cases h1 : q = 1
  · by_cases h2 : j = v + k
    · rw [if_pos h1, if_pos h2, if_pos (by omega)]
      congr 1
      omega
    · rw [if_pos h1, if_neg h2]
      by_cases h3 : v ≤ j ∧ j < v + k
      · rw [if_pos (by omega), if_pos (by omega)]
      · rw [if_neg (by omega), if_neg (by omega)]
  · rw [if_neg h1, if_neg (by omega), if_neg (by omega)]
theorem zfmL {l : Launch} {Γ : zG} {d : Nat} {Kp : Option Value → zH → Prop} {I : zHI} {Lg : zHL} {P : zHP} (hP : P 0 0 = some 1) {v : Nat} (hv : v + 20 ≤ 700) (e : I 0 1 = Int32.ofNat v) {x1 x2 x3 x4 x5 : Int32}
    (hX : zX l Γ false (d + 1) zh193 (zMQ' Γ false zh193 Kp) 0 0 23 [(6, .int (Int32.ofNat 20)), (0, .ref 0), (1, .int x1), (2, .int x2), (3, .int x3), (4, .int x4), (5, .int x5)] [] (zshM, fI I v 20 (fun k => fX k (fsel k x1 x2 x3 x4 x5)), Lg, P)) :
    ∀ n k : Nat, k + n = 20 → zX l Γ false (d + 1) zh193 (zMQ' Γ false zh193 Kp) 0 0 23 [(6, .int (Int32.ofNat k)), (0, .ref 0), (1, .int x1), (2, .int x2), (3, .int x3), (4, .int x4), (5, .int x5)] [] (zshM, fI I v k (fun k => fX k (fsel k x1 x2 x3 x4 x5)), Lg, P)
  | 0, k, hk => by
    have e : k = 20 := by omega
    subst e
    exact hX
  | n + 1, k, hk => by
    refine zfmI hP (v := v) (by omega) hv ((fI_01 I v k _).trans e) ?_
    rw [fI_s I v k (fun k => fX k (fsel k x1 x2 x3 x4 x5))]
    exact zfmL hP hv e hX n (k + 1) (by omega)
set_option maxRecDepth 100000 in
set_option maxHeartbeats 4000000 in
theorem zfeedM {l : Launch} {Γ : zG} {d : Nat} {I : zHI} {Lg : zHL} {P : zHP} (hP : P 0 0 = some 1) {v : Nat} (hv : v + 20 ≤ 700) (e : I 0 1 = Int32.ofNat v) (x1 x2 x3 x4 x5 : Int32) : zSem l Γ false (d + 1) zh193 [.ref 0, .int x1, .int x2, .int x3, .int x4, .int x5] ((zshM, I, Lg, P) : zH) (fun r h' => r = some (.int (Int32.ofNat (v + 20))) ∧ h' = (zshM, zu2 (fI (zu2 I 0 2 (Int32.ofInt 0)) v 20 (fun k => fX k (fsel k x1 x2 x3 x4 x5))) 0 1 (Int32.ofNat (v + 20)), Lg, P)) := by
  have ha : sTL [sr0, .inl sf32, .inl sf32, .inl sf32, .inl sf32, .inl sf32] [.ref 0, .int x1, .int x2, .int x3, .int x4, .int x5] := ⟨_, _, rfl, rfl, _, _, rfl, ⟨x1, rfl, i32bd x1⟩, _, _, rfl, ⟨x2, rfl, i32bd x2⟩, _, _, rfl, ⟨x3, rfl, i32bd x3⟩, _, _, rfl, ⟨x4, rfl, i32bd x4⟩, _, _, rfl, ⟨x5, rfl, i32bd x5⟩, rfl⟩
  refine zbody (by decide +kernel) (by rw [sslen_ok _ _ ha]; decide +kernel) ?_
  have e20 : Int32.ofNat v + Int32.ofInt 20 = Int32.ofNat (v + 20) := ofN_add v 20
  refine zpcF (M := (zh193, zc193)) 193 23 rfl zckm193 (fun _ _ _ _ h => h) ?_
  refine zdecT (show I 0 1 + Int32.ofInt 20 ≤ Int32.ofInt 700 from ?_) (fun _ => ?_)
  · rw [e, e20]
    exact (ofN_le (b := 700) (by omega) (by omega)).mpr hv
  show zX l Γ false (d + 1) zh193 (zMQ' Γ false zh193 _) 0 0 23 [(6, .int (Int32.ofNat 0)), (0, .ref 0), (1, .int x1), (2, .int x2), (3, .int x3), (4, .int x4), (5, .int x5)] [] (zshM, zu2 I 0 2 (Int32.ofInt 0), Lg, P)
  rw [← fI_0 (zu2 I 0 2 (Int32.ofInt 0)) v (fun k => fX k (fsel k x1 x2 x3 x4 x5))]
  refine zfmL hP hv (show zu2 I 0 2 (Int32.ofInt 0) 0 1 = Int32.ofNat v from e) ?_ 20 0 rfl
  refine zpcF (M := (zh193, zc193)) 193 1000 rfl zckm193 (fun _ _ _ _ h => h) ?_
  show some (Value.int (I 0 1 + Int32.ofInt 20)) = some (.int (Int32.ofNat (v + 20))) ∧ _
  rw [e, e20]
  refine ⟨rfl, ?_⟩
  show (zshM, zu2 (fI (zu2 I 0 2 (Int32.ofInt 0)) v 20 (fun k => fX k (fsel k x1 x2 x3 x4 x5))) 0 1 (I 0 1 + Int32.ofInt 20), Lg, P) = _
  rw [e, e20, fI_0]
/-! the class's bytes -/
def c8 (x : Int32) : Int32 := x.toInt8.toInt32.toInt8.toInt32
/-- what the class lays at the i-th place of four -/
def fY (i : Nat) (w : Int32) : Int32 := c8 (w >>> (Int32.ofInt (24 - 8 * (i : Int)) &&& 31))
set_option maxRecDepth 100000 in
set_option maxHeartbeats 4000000 in
theorem zpbI {l : Launch} {Γ : zG} {d : Nat} {Kp : Option Value → zH → Prop} {I : zHI} {Lg : zHL} {P : zHP} (hP : P 0 0 = some 1) {i v : Nat} (hk : i < 4) (hv : v < 700) (e : I 0 1 = Int32.ofNat v) {w : Int32}
    (hX : zX l Γ false (d + 1) zh27 (zMQ' Γ false zh27 Kp) 0 0 3 [(2, .int (Int32.ofInt (24 - 8 * ((i + 1 : Nat) : Int)))), (0, .ref 0), (1, .int w)] [] (zshC, zu2 (zu2 I 1 v (fY i w)) 0 1 (Int32.ofNat (v + 1)), Lg, P)) :
    zX l Γ false (d + 1) zh27 (zMQ' Γ false zh27 Kp) 0 0 3 [(2, .int (Int32.ofInt (24 - 8 * (i : Int)))), (0, .ref 0), (1, .int w)] [] (zshC, I, Lg, P) := by
  have e1 : Int32.ofInt (24 - 8 * (i : Int)) + Int32.ofInt (-8) = Int32.ofInt (24 - 8 * ((i + 1 : Nat) : Int)) := by
    rw [← Int32.ofInt_add]
    exact congrArg Int32.ofInt (by omega)
  have t : (Int32.ofInt (24 - 8 * (i : Int))).toInt = 24 - 8 * (i : Int) := Int32.toInt_ofInt_of_le (by omega) (by omega)
  have c0 : ¬ Int32.ofInt (24 - 8 * (i : Int)) < 0 := fun h => by
    have h1 := Int32.lt_iff_toInt_lt.mp h
    rw [t, show (0 : Int32).toInt = 0 from by decide] at h1
    omega
  have c7 : ¬ Int32.ofInt 700 ≤ I 0 1 := by
    rw [e]
    exact fun h => absurd ((ofN_le (a := 700) (by omega) (by omega)).mp h) (by omega)
  have ei : (I 0 1).toNatClampNeg = v := by rw [e, ofN_cl (by omega)]
  have eb : ¬ (I 0 1 < 0 ∨ 700 ≤ (I 0 1).toNatClampNeg) := by
    rw [e]
    exact ofN_ix hv (by omega)
  have e2 : I 0 1 + Int32.ofInt 1 = Int32.ofNat (v + 1) := by
    rw [e]
    exact ofN_add v 1
  have eP := zPx hP
  have fin : zX l Γ false (d + 1) zh27 (zMQ' Γ false zh27 Kp) 0 0 3 [(2, .int (Int32.ofInt (24 - 8 * (i : Int)) + Int32.ofInt (-8))), (0, .ref 0), (1, .int w)] [] (zshC, zu2 (zu2 I 1 (I 0 1).toNatClampNeg (fY i w)) 0 1 (I 0 1 + Int32.ofInt 1), Lg, (fun a b => if a = 0 ∧ b = 0 then some 1 else P a b : zHP)) := by
    rw [← eP]
    rw [ei, e1, e2]
    exact hX
  rw [eP]
  refine zpcF (M := (zh27, zc27)) 27 3 rfl zckm27 (fun _ _ _ _ h => h) ?_
  refine zdecF c0 (fun _ => ?_)
  refine zdecF c7 (fun _ => ?_)
  refine zdecF eb (fun _ => ?_)
  exact fin
theorem zpbS (I : zHI) (v i : Nat) (b : Nat → Int32) (z z' : Int32) : zu2 (zu2 (zu2 (fI I v i b) 0 1 z) 1 (v + i) (b i)) 0 1 z' = zu2 (fI I v (i + 1) b) 0 1 z' := by
  rw [← fI_s]
  funext q j
  simp only [zu2]
  by_cases h1 : q = 0
  · subst h1
    by_cases h2 : j = 1
    · simp only [h2, if_true]
    · simp only [h2, if_true, if_false]
      try rw [if_neg (by decide), if_neg (by decide)]
  · simp only [h1, if_false]
theorem zpbL {l : Launch} {Γ : zG} {d : Nat} {Kp : Option Value → zH → Prop} {I : zHI} {Lg : zHL} {P : zHP} (hP : P 0 0 = some 1) {v : Nat} (hv : v + 4 ≤ 700) {w : Int32}
    (hX : zX l Γ false (d + 1) zh27 (zMQ' Γ false zh27 Kp) 0 0 3 [(2, .int (Int32.ofInt (24 - 8 * ((4 : Nat) : Int)))), (0, .ref 0), (1, .int w)] [] (zshC, zu2 (fI I v 4 (fun i => fY i w)) 0 1 (Int32.ofNat (v + 4)), Lg, P)) :
    ∀ n i : Nat, i + n = 4 → zX l Γ false (d + 1) zh27 (zMQ' Γ false zh27 Kp) 0 0 3 [(2, .int (Int32.ofInt (24 - 8 * (i : Int)))), (0, .ref 0), (1, .int w)] [] (zshC, zu2 (fI I v i (fun i => fY i w)) 0 1 (Int32.ofNat (v + i)), Lg, P)
  | 0, i, hk => by
    have e : i = 4 := by omega
    subst e
    exact hX
  | n + 1, i, hk => by
    refine zpbI hP (v := v + i) (by omega) (by omega) (show zu2 (fI I v i (fun i => fY i w)) 0 1 (Int32.ofNat (v + i)) 0 1 = Int32.ofNat (v + i) from rfl) ?_
    rw [zpbS I v i (fun i => fY i w)]
    exact zpbL hP hv hX n (i + 1) (by omega)
set_option maxRecDepth 100000 in
set_option maxHeartbeats 4000000 in
theorem zputB {l : Launch} {Γ : zG} {d : Nat} {I : zHI} {Lg : zHL} {P : zHP} (hP : P 0 0 = some 1) {v : Nat} (hv : v + 4 ≤ 700) (e : I 0 1 = Int32.ofNat v) (w : Int32) : zSem l Γ false (d + 1) zh27 [.ref 0, .int w] ((zshC, I, Lg, P) : zH) (fun r h' => r = none ∧ h' = (zshC, zu2 (fI I v 4 (fun i => fY i w)) 0 1 (Int32.ofNat (v + 4)), Lg, P)) := by
  have ha : sTL [sr0, .inl sf32] [.ref 0, .int w] := ⟨_, _, rfl, rfl, _, _, rfl, ⟨w, rfl, i32bd w⟩, rfl⟩
  refine zbody (by decide +kernel) (by rw [sslen_ok _ _ ha]; decide +kernel) ?_
  refine zpcF (M := (zh27, zc27)) 27 3 rfl zckm27 (fun _ _ _ _ h => h) ?_
  have e0 : I = zu2 (fI I v 0 (fun i => fY i w)) 0 1 (Int32.ofNat (v + 0)) := by
    rw [fI_0]
    funext q j
    simp only [zu2]
    split
    · rename_i h1
      split
      · rename_i h2
        rw [h1, h2, e]
        rfl
      · rfl
    · rfl
  show zX l Γ false (d + 1) zh27 (zMQ' Γ false zh27 _) 0 0 3 [(2, .int (Int32.ofInt (24 - 8 * ((0 : Nat) : Int)))), (0, .ref 0), (1, .int w)] [] (zshC, I, Lg, P)
  have key := zpbL (l := l) (Γ := Γ) (d := d) (Kp := fun r h' => r = none ∧ h' = (zshC, zu2 (fI I v 4 (fun i => fY i w)) 0 1 (Int32.ofNat (v + 4)), Lg, P)) (I := I) (Lg := Lg) (P := P) hP hv (w := w) (by
    refine zpcF (M := (zh27, zc27)) 27 1000 rfl zckm27 (fun _ _ _ _ h => h) ?_
    exact ⟨rfl, rfl⟩) 4 0 rfl
  rw [← e0] at key
  exact key
/-- the class's k-th byte -/
def fB (x1 x2 x3 x4 x5 : Int32) (k : Nat) : Int32 := fY (k % 4) (fsel k x1 x2 x3 x4 x5)
theorem zpb5 (I : zHI) (v m : Nat) (B b : Nat → Int32) (z z' : Int32) (hb : ∀ i, i < 4 → b i = B (m + i)) : zu2 (fI (zu2 (fI I v m B) 0 1 z) (v + m) 4 b) 0 1 z' = zu2 (fI I v (m + 4) B) 0 1 z' := by
  funext q j
  simp only [zu2, fI]
  by_cases h1 : q = 0
  · subst h1
    by_cases h2 : j = 1
    · simp only [h2, if_true]
    · simp only [h2, if_true, if_false]
      rw [if_neg (by omega), if_neg (by omega), if_neg (by omega)]
  · simp only [h1, if_false]
    by_cases h3 : q = 1 ∧ v + m ≤ j ∧ j < v + m + 4
    · rw [if_pos h3, if_pos (by omega), hb _ (by omega)]
      congr 1
      omega
    · rw [if_neg h3]
      by_cases h4 : q = 1 ∧ v ≤ j ∧ j < v + m
      · rw [if_pos h4, if_pos (by omega)]
      · rw [if_neg h4, if_neg (by omega)]
set_option maxRecDepth 100000 in
set_option maxHeartbeats 4000000 in
theorem zfeedC {l : Launch} {Γ : zG} {d : Nat} {I : zHI} {Lg : zHL} {P : zHP} (hP : P 0 0 = some 1) {v : Nat} (hv : v + 20 ≤ 700) (e : I 0 1 = Int32.ofNat v) (x1 x2 x3 x4 x5 : Int32) : zSem l Γ false (d + 2) (zhd 26) [.ref 0, .int x1, .int x2, .int x3, .int x4, .int x5] ((zshC, I, Lg, P) : zH) (fun r h' => r = some (.int (Int32.ofNat (v + 20))) ∧ h' = (zshC, zu2 (fI I v 20 (fB x1 x2 x3 x4 x5)) 0 1 (Int32.ofNat (v + 20)), Lg, P)) := by
  have e20 : Int32.ofNat v + Int32.ofInt 20 = Int32.ofNat (v + 20) := ofN_add v 20
  refine zr2F 27 rfl ?_
  refine zdecT (show I 0 1 + Int32.ofInt 20 ≤ Int32.ofInt 700 from ?_) (fun _ => ?_)
  · rw [e, e20]
    exact (ofN_le (b := 700) (by omega) (by omega)).mpr hv
  show zSem l Γ false (d + 1) (zhd 27) [.ref 0, .int x1] ((zshC, I, Lg, P) : zH) _
  refine (zputB hP (v := v) (by omega) e x1).mono ?_
  rintro r h1 ⟨rfl, rfl⟩
  show zSem l Γ false (d + 1) (zhd 27) [.ref 0, .int x2] ((zshC, zu2 (fI I v 4 (fun i => fY i x1)) 0 1 (Int32.ofNat (v + 4)), Lg, P) : zH) _
  refine (zputB hP (v := v + 4) (by omega) rfl x2).mono ?_
  rintro r h2 ⟨rfl, rfl⟩
  show zSem l Γ false (d + 1) (zhd 27) [.ref 0, .int x3] ((zshC, zu2 (fI (zu2 (fI I v 4 (fun i => fY i x1)) 0 1 (Int32.ofNat (v + 4))) (v + 4) 4 (fun i => fY i x2)) 0 1 (Int32.ofNat (v + 4 + 4)), Lg, P) : zH) _
  refine (zputB hP (v := v + 4 + 4) (by omega) rfl x3).mono ?_
  rintro r h3 ⟨rfl, rfl⟩
  show zSem l Γ false (d + 1) (zhd 27) [.ref 0, .int x4] ((zshC, zu2 (fI (zu2 (fI (zu2 (fI I v 4 (fun i => fY i x1)) 0 1 (Int32.ofNat (v + 4))) (v + 4) 4 (fun i => fY i x2)) 0 1 (Int32.ofNat (v + 4 + 4))) (v + 4 + 4) 4 (fun i => fY i x3)) 0 1 (Int32.ofNat (v + 4 + 4 + 4)), Lg, P) : zH) _
  refine (zputB hP (v := v + 4 + 4 + 4) (by omega) rfl x4).mono ?_
  rintro r h4 ⟨rfl, rfl⟩
  show zSem l Γ false (d + 1) (zhd 27) [.ref 0, .int x5] ((zshC, zu2 (fI (zu2 (fI (zu2 (fI (zu2 (fI I v 4 (fun i => fY i x1)) 0 1 (Int32.ofNat (v + 4))) (v + 4) 4 (fun i => fY i x2)) 0 1 (Int32.ofNat (v + 4 + 4))) (v + 4 + 4) 4 (fun i => fY i x3)) 0 1 (Int32.ofNat (v + 4 + 4 + 4))) (v + 4 + 4 + 4) 4 (fun i => fY i x4)) 0 1 (Int32.ofNat (v + 4 + 4 + 4 + 4)), Lg, P) : zH) _
  refine (zputB hP (v := v + 4 + 4 + 4 + 4) (by omega) rfl x5).mono ?_
  rintro r h5 ⟨rfl, rfl⟩
  show some (Value.int (Int32.ofNat (v + 4 + 4 + 4 + 4 + 4))) = _ ∧ _
  refine ⟨rfl, ?_⟩
  have s0 : fI I v 4 (fun i => fY i x1) = fI I v 4 (fB x1 x2 x3 x4 x5) := by
    funext q j
    simp only [fI]
    split
    · rename_i h
      have h4 : j - v < 4 := by omega
      simp only [fB, fsel, if_pos h4, Nat.mod_eq_of_lt h4]
    · rfl
  have sel : ∀ (g : Nat) (x : Int32), (∀ k, 4 * g ≤ k → k < 4 * g + 4 → fsel k x1 x2 x3 x4 x5 = x) → ∀ i, i < 4 → fY i x = fB x1 x2 x3 x4 x5 (4 * g + i) := fun g x hs i hi => by
    unfold fB
    rw [hs _ (by omega) (by omega)]
    congr 1
    omega
  rw [s0, zpb5 I v 4 (fB x1 x2 x3 x4 x5) _ _ _ (sel 1 x2 (fun k a b => by unfold fsel; rw [if_neg (by omega), if_pos (by omega)])), zpb5 I v 8 (fB x1 x2 x3 x4 x5) _ _ _ (sel 2 x3 (fun k a b => by unfold fsel; rw [if_neg (by omega), if_neg (by omega), if_pos (by omega)])), zpb5 I v 12 (fB x1 x2 x3 x4 x5) _ _ _ (sel 3 x4 (fun k a b => by unfold fsel; rw [if_neg (by omega), if_neg (by omega), if_neg (by omega), if_pos (by omega)])), zpb5 I v 16 (fB x1 x2 x3 x4 x5) _ _ _ (sel 4 x5 (fun k a b => by unfold fsel; rw [if_neg (by omega), if_neg (by omega), if_neg (by omega), if_neg (by omega)]))]
/-! a byte with its sign, and without -/
def sb (x : Int) : Int := if 128 ≤ x then x - 256 else x
theorem and255 (x : Int32) : (x &&& Int32.ofInt 255).toInt = x.toInt % 256 := by
  have h1 : (x &&& Int32.ofInt 255).toBitVec.toNat = x.toBitVec.toNat % 256 := by
    show (x.toBitVec &&& 255#32).toNat = _
    rw [BitVec.toNat_and]
    exact Nat.and_two_pow_sub_one_eq_mod _ 8
  have h2 : (x &&& Int32.ofInt 255).toInt = ((x &&& Int32.ofInt 255).toBitVec.toNat : Int) := by
    show (x &&& Int32.ofInt 255).toBitVec.toInt = _
    rw [BitVec.toInt_eq_toNat_cond, if_pos (by omega)]
  have h3 : x.toInt = if 2 * x.toBitVec.toNat < 2 ^ 32 then (x.toBitVec.toNat : Int) else (x.toBitVec.toNat : Int) - (2 ^ 32 : Nat) := BitVec.toInt_eq_toNat_cond x.toBitVec
  rw [h2, h1, h3]
  split <;> omega
theorem c8_sb (x : Int32) : (c8 x).toInt = sb ((x &&& Int32.ofInt 255).toInt) := by
  rw [and255]
  unfold c8
  rw [Int8.toInt_toInt32, Int32.toInt_toInt8, Int8.toInt_toInt32, Int32.toInt_toInt8]
  unfold sb
  have e : ∀ z : Int, z.bmod (2 ^ 8) = if z % 256 < 128 then z % 256 else z % 256 - 256 := fun z => by
    rw [Int.bmod_def]
    split <;> split <;> omega
  rw [e, e]
  split <;> split <;> omega
theorem fB_sb (x1 x2 x3 x4 x5 : Int32) {k : Nat} (hk : k < 20) : (fB x1 x2 x3 x4 x5 k).toInt = sb ((fX k (fsel k x1 x2 x3 x4 x5)).toInt) := by
  have es : ∀ k, k < 20 → (Int32.ofInt (24 - 8 * ((k % 4 : Nat) : Int)) &&& 31) = ((Int32.ofInt 24 - Int32.ofInt 8 * (Int32.ofNat k - Int32.ofNat k / Int32.ofInt 4 * Int32.ofInt 4)) &&& 31) := by decide +kernel
  unfold fB fX fY
  rw [c8_sb, es k hk]
/-! feed on both sides, with the bytes -/
def rT (f : zH) (T : Nat → Int) : Prop := ∀ j, j < 700 → pI f 1 j = sb (T j)
def mT (h : zH) (T : Nat → Int) : Prop := ∀ j, j < 700 → pI h 1 j = T j
theorem fI_at {I : zHI} {v k j : Nat} {b : Nat → Int32} {z : Int32} : (zu2 (fI I v k b) 0 1 z) 1 j = if v ≤ j ∧ j < v + k then b (j - v) else I 1 j := by
  simp only [zu2, fI]
  rw [if_neg (by decide)]
  split
  · rename_i h
    rw [if_pos h.2]
  · rename_i h
    rw [if_neg (fun h' => h ⟨trivial, h'⟩)]
theorem fI_off {I : zHI} {v k q j : Nat} {b : Nat → Int32} {z : Int32} (hq : q ≠ 1) (h0 : ¬ (q = 0 ∧ j = 1)) : (zu2 (fI I v k b) 0 1 z) q j = I q j := by
  simp only [zu2, fI]
  split
  · rename_i e
    split
    · rename_i e2
      exact absurd ⟨e, e2⟩ h0
    · rw [if_neg (fun h => hq h.1)]
  · rw [if_neg (fun h => hq h.1)]
theorem toI_of {x : Int32} {v : Nat} (h : x.toInt = (v : Int)) (hv : v < 100000) : x = Int32.ofNat v := Int32.toInt_inj.mp (by rw [h, Int32.toInt_ofNat_of_lt (by omega)])
/-- feed on both sides: the same answer, the same bytes -/
theorem zfeed2 (l : Launch) {f1 f2 : zH} {t : Nat} (ht : t ≤ 35) (h1 : sInv swC f1) (h2 : sInv swM f2) (e1 : pI f1 0 1 = 20 * (t : Int)) (e2 : pI f2 0 1 = 20 * (t : Int)) {T : Nat → Int} (r1 : rT f1 T) (r2 : mT f2 T) (x1 x2 x3 x4 x5 : Int32) : ∃ (a : Int32) (t' : Nat) (T' : Nat → Int), t' ≤ 35 ∧
    (∀ Γ : zG, zSem l Γ false 10 (zhd 26) [.ref 0, .int x1, .int x2, .int x3, .int x4, .int x5] f1 (fun r f => r = some (.int a) ∧ sInv swC f ∧ pI f 0 1 = 20 * (t' : Int) ∧ rT f T' ∧ sMd [(0, 1, 2), (1, 0, 700)] f1 f)) ∧
    (∀ Γ : zG, zSem l Γ false 10 (zhd 193) [.ref 0, .int x1, .int x2, .int x3, .int x4, .int x5] f2 (fun r f => r = some (.int a) ∧ sInv swM f ∧ pI f 0 1 = 20 * (t' : Int) ∧ mT f T' ∧ sMd [(0, 1, 3), (1, 0, 700)] f2 f)) := by
  have ha : sTL [.inr (.inl 0), .inl sf32, .inl sf32, .inl sf32, .inl sf32, .inl sf32] [.ref 0, .int x1, .int x2, .int x3, .int x4, .int x5] := ⟨_, _, rfl, rfl, _, _, rfl, ⟨x1, rfl, i32bd x1⟩, _, _, rfl, ⟨x2, rfl, i32bd x2⟩, _, _, rfl, ⟨x3, rfl, i32bd x3⟩, _, _, rfl, ⟨x4, rfl, i32bd x4⟩, _, _, rfl, ⟨x5, rfl, i32bd x5⟩, rfl⟩
  by_cases hlt : t < 35
  · have v1 : f1.2.1 0 1 = Int32.ofNat (20 * t) := toI_of (by show pI f1 0 1 = _; omega) (by omega)
    have v2 : f2.2.1 0 1 = Int32.ofNat (20 * t) := toI_of (by show pI f2 0 1 = _; omega) (by omega)
    have ev : (Int32.ofNat (20 * t + 20)).toInt = 20 * ((t + 1 : Nat) : Int) := by
      rw [Int32.toInt_ofNat_of_lt (by omega)]
      omega
    refine ⟨Int32.ofNat (20 * t + 20), t + 1, fun j => if 20 * t ≤ j ∧ j < 20 * t + 20 then (fX (j - 20 * t) (fsel (j - 20 * t) x1 x2 x3 x4 x5)).toInt else T j, hlt, fun Γ => ?_, fun Γ => ?_⟩
    · have p1 : f1.2.2.2 0 0 = some 1 := by
        obtain ⟨r, a, b⟩ := h1.2.1 0 0 (by decide)
        have : r = 1 := List.mem_singleton.mp a
        rw [b, this]
      obtain ⟨s1, I, Lg, P⟩ := f1
      have q1 : s1 = zshC := h1.1
      subst q1
      refine (zfeedC (d := 8) p1 (v := 20 * t) (by omega) v1 x1 x2 x3 x4 x5).mono ?_
      rintro r h' ⟨rfl, hh⟩
      have F1 : ∀ j, h'.2.1 1 j = if 20 * t ≤ j ∧ j < 20 * t + 20 then fB x1 x2 x3 x4 x5 (j - 20 * t) else I 1 j := fun j => by
        rw [hh]
        exact fI_at (z := Int32.ofNat (20 * t + 20))
      have Fo : ∀ q j, q ≠ 1 → ¬ (q = 0 ∧ j = 1) → h'.2.1 q j = I q j := fun q j a b => by
        rw [hh]
        exact fI_off (z := Int32.ofNat (20 * t + 20)) a b
      have F0 : h'.2.1 0 1 = Int32.ofNat (20 * t + 20) := by
        rw [hh]
        rfl
      have Fs : h'.1 = zshC ∧ h'.2.2 = (Lg, P) := by
        rw [hh]
        exact ⟨rfl, rfl⟩
      clear hh
      refine ⟨rfl, ⟨Fs.1, ?_, fun q k => ?_, fun m hm => (nomatch hm)⟩, ?_, fun j hj => ?_, fun q k hq => ⟨?_, ?_, ?_⟩⟩
      · rw [Fs.2]
        exact h1.2.1
      · by_cases c1 : q = 1
        · subst c1
          rw [F1]
          split
          · rename_i hc
            have e : sIv swC 1 k = sgAt [(700, -128, 127)] k := rfl
            rw [e]
            simp only [sgAt]
            rw [if_pos (by omega), fB_sb x1 x2 x3 x4 x5 (by omega)]
            unfold fX
            rw [and255]
            unfold sb
            split <;> (constructor <;> (simp only; omega))
          · exact h1.2.2.1 1 k
        · by_cases c2 : q = 0 ∧ k = 1
          · obtain ⟨rfl, rfl⟩ := c2
            have e : sIv swC 0 1 = (0, 700) := by decide +kernel
            rw [e, F0, ev]
            constructor <;> (simp only; omega)
          · rw [Fo q k c1 c2]
            exact h1.2.2.1 q k
      · unfold pI
        rw [F0]
        exact ev
      · unfold pI
        rw [F1]
        show _ = sb (if 20 * t ≤ j ∧ j < 20 * t + 20 then (fX (j - 20 * t) (fsel (j - 20 * t) x1 x2 x3 x4 x5)).toInt else T j)
        split
        · rename_i hc
          exact fB_sb x1 x2 x3 x4 x5 (by omega)
        · exact r1 j hj
      · have c2 : ¬ (q = 0 ∧ k = 1) := fun h => by
          obtain ⟨rfl, rfl⟩ := h
          cases hq
        by_cases e : q = 1
        · subst e
          have hk : ¬ k < 700 := fun hk => by
            simp [smem] at hq
            omega
          rw [F1, if_neg (by omega)]
        · exact Fo q k e c2
      · rw [Fs.2]
      · rw [Fs.2]
    · have p2 : f2.2.2.2 0 0 = some 1 := by
        obtain ⟨r, a, b⟩ := h2.2.1 0 0 (by decide)
        have : r = 1 := List.mem_singleton.mp a
        rw [b, this]
      obtain ⟨s2, I, Lg, P⟩ := f2
      have q2 : s2 = zshM := h2.1
      subst q2
      refine (zfeedM (d := 9) p2 (v := 20 * t) (by omega) v2 x1 x2 x3 x4 x5).mono ?_
      rintro r h' ⟨rfl, hh⟩
      have F1 : ∀ j, h'.2.1 1 j = if 20 * t ≤ j ∧ j < 20 * t + 20 then fX (j - 20 * t) (fsel (j - 20 * t) x1 x2 x3 x4 x5) else I 1 j := fun j => by
        rw [hh]
        show (zu2 (fI (zu2 I 0 2 (Int32.ofInt 0)) (20 * t) 20 (fun k => fX k (fsel k x1 x2 x3 x4 x5))) 0 1 (Int32.ofNat (20 * t + 20))) 1 j = _
        rw [fI_at]
        split
        · rfl
        · exact zu2_ne (by decide) j
      have Fo : ∀ q j, q ≠ 1 → q ≠ 0 → h'.2.1 q j = I q j := fun q j a b => by
        rw [hh]
        exact (fI_off (z := Int32.ofNat (20 * t + 20)) a (fun h => b h.1)).trans (zu2_ne b j)
      have F0 : h'.2.1 0 1 = Int32.ofNat (20 * t + 20) := by
        rw [hh]
        rfl
      have F2 : h'.2.1 0 2 = Int32.ofInt 0 := by
        rw [hh]
        show (zu2 (fI (zu2 I 0 2 (Int32.ofInt 0)) (20 * t) 20 (fun k => fX k (fsel k x1 x2 x3 x4 x5))) 0 1 (Int32.ofNat (20 * t + 20))) 0 2 = _
        rw [fI_off (by decide) (by decide)]
        rfl
      have F3 : ∀ j, j ≠ 1 → j ≠ 2 → h'.2.1 0 j = I 0 j := fun j a b => by
        rw [hh]
        show (zu2 (fI (zu2 I 0 2 (Int32.ofInt 0)) (20 * t) 20 (fun k => fX k (fsel k x1 x2 x3 x4 x5))) 0 1 (Int32.ofNat (20 * t + 20))) 0 j = _
        rw [fI_off (by decide) (fun h => a h.2)]
        simp only [zu2, if_true, b, if_false]
      have Fs : h'.1 = zshM ∧ h'.2.2 = (Lg, P) := by
        rw [hh]
        exact ⟨rfl, rfl⟩
      clear hh
      refine ⟨rfl, ⟨Fs.1, ?_, fun q k => ?_, fun m hm => ?_⟩, ?_, fun j hj => ?_, fun q k hq => ⟨?_, ?_, ?_⟩⟩
      · rw [Fs.2]
        exact h2.2.1
      · by_cases c1 : q = 1
        · subst c1
          rw [F1]
          split
          · rename_i hc
            have e : sIv swM 1 k = sgAt [(700, 0, 255)] k := rfl
            rw [e]
            simp only [sgAt]
            rw [if_pos (by omega)]
            unfold fX
            rw [and255]
            constructor <;> (simp only; omega)
          · exact h2.2.2.1 1 k
        · by_cases c0 : q = 0
          · subst c0
            by_cases c2 : k = 1
            · subst c2
              have e : sIv swM 0 1 = (0, 700) := by decide +kernel
              rw [e, F0, ev]
              constructor <;> (simp only; omega)
            · by_cases c3 : k = 2
              · subst c3
                have e : sIv swM 0 2 = (0, 2) := by decide +kernel
                rw [e, F2]
                decide
              · rw [F3 k c2 c3]
                exact h2.2.2.1 0 k
          · rw [Fo q k c1 c0]
            exact h2.2.2.1 q k
      · have m0 : m.1 ≠ 1 ∧ m.1 ≠ 0 ∧ m.2.1 ≠ 1 ∧ m.2.1 ≠ 0 := by
          rcases (swM_imp m).mp hm with rfl | rfl | rfl | rfl | rfl <;> decide
        exact (h2.2.2.2 m hm).kept (fun i _ => Fo _ i m0.1 m0.2.1) (fun i _ => Fo _ _ m0.2.2.1 m0.2.2.2)
      · unfold pI
        rw [F0]
        exact ev
      · unfold pI
        rw [F1]
        show _ = if 20 * t ≤ j ∧ j < 20 * t + 20 then (fX (j - 20 * t) (fsel (j - 20 * t) x1 x2 x3 x4 x5)).toInt else T j
        split
        · rfl
        · exact r2 j hj
      · by_cases c1 : q = 1
        · subst c1
          have hk : ¬ k < 700 := fun hk => by
            simp [smem] at hq
            omega
          rw [F1, if_neg (by omega)]
        · by_cases c0 : q = 0
          · subst c0
            have hk : k ≠ 1 ∧ k ≠ 2 := by
              refine ⟨fun e => ?_, fun e => ?_⟩ <;> (subst e; cases hq)
            exact F3 k hk.1 hk.2
          · exact Fo q k c1 c0
      · rw [Fs.2]
      · rw [Fs.2]
  · have et : t = 35 := by omega
    subst et
    refine ⟨Int32.ofInt (-1), 35, T, ht, fun Γ => ?_, fun Γ => ?_⟩
    · refine (yfCn l Γ 10 (by show 3 ≤ 10; decide) _ f1 ha h1 (sPl1 (v := 700) (by omega))).mono ?_
      rintro r h' ⟨⟨v, e, x, rfl, b1, b2⟩, c2, c3, -⟩
      exact ⟨by rw [e, i32eq b1 b2], c2, (pI_md c3 rfl).trans e1, fun j hj => (pI_md c3 rfl).trans (r1 j hj), c3.sub rfl⟩
    · refine (yfMn l Γ 10 (by show 3 ≤ 10; decide) _ f2 ha h2 (sPl1 (v := 700) (by omega))).mono ?_
      rintro r h' ⟨⟨v, e, x, rfl, b1, b2⟩, c2, c3, -⟩
      exact ⟨by rw [e, i32eq b1 b2], c2, (pI_md c3 rfl).trans e2, fun j hj => (pI_md c3 (smem_q rfl j)).trans (r2 j hj), c3.sub rfl⟩
