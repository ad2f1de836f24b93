/-! the reference's token, place by place -/
theorem dlt {x y : Int32} (h : x.toInt < y.toInt) : x < y := Int32.lt_iff_toInt_lt.mpr h
theorem dltn {x y : Int32} (h : y.toInt ≤ x.toInt) : ¬ x < y := fun g => by
  have := Int32.lt_iff_toInt_lt.mp g
  omega
theorem dle {x y : Int32} (h : x.toInt ≤ y.toInt) : x ≤ y := Int32.le_iff_toInt_le.mpr h
theorem dlen {x y : Int32} (h : y.toInt < x.toInt) : ¬ x ≤ y := fun g => by
  have := Int32.le_iff_toInt_le.mp g
  omega
theorem deq {x y : Int32} (h : x.toInt = y.toInt) : x = y := Int32.toInt_inj.mp h
theorem den {x y : Int32} (h : x.toInt ≠ y.toInt) : ¬ x = y := fun g => h (by rw [g])
theorem oI {c : Int} (h1 : -100000 ≤ c) (h2 : c ≤ 1000000) : (Int32.ofInt c).toInt = c := Int32.toInt_ofInt_of_le (by omega) (by omega)
theorem oN {c : Nat} (h2 : c < 100000) : (Int32.ofNat c).toInt = (c : Int) := Int32.toInt_ofNat_of_lt (by omega)
theorem zu2_2 {α : Type} (f : Nat → Nat → α) (q k : Nat) (a b : α) : zu2 (zu2 f q k a) q k b = zu2 f q k b := by
  funext x y
  simp only [zu2]
  split
  · split <;> rfl
  · rfl
theorem zu2_id {α : Type} {f : Nat → Nat → α} {q k : Nat} {a : α} (e : f q k = a) : zu2 f q k a = f := by
  funext x y
  simp only [zu2]
  split
  · rename_i h
    split
    · rename_i h2
      rw [h, h2, e]
    · rfl
  · rfl
theorem zu2_off {α : Type} {f : Nat → Nat → α} {q k x y : Nat} {a : α} (h : ¬ (x = q ∧ y = k)) : zu2 f q k a x y = f x y := by
  simp only [zu2]
  split
  · rename_i h1
    rw [if_neg (fun h2 => h ⟨h1, h2⟩)]
  · rfl
theorem zu2_at {α : Type} {f : Nat → Nat → α} {q k : Nat} {a : α} : zu2 f q k a q k = a := by
  simp only [zu2, if_true]
/-- behind blanks -/
def tSk (T : Nat → Int) : Nat → Nat → Nat
  | 0, p => p
  | k + 1, p => if T p = 10 ∨ T p = 32 then tSk T k (p + 1) else p
theorem tSk_bd (T : Nat → Int) : ∀ k p, p ≤ tSk T k p ∧ tSk T k p ≤ p + k ∧ (tSk T k p < p + k → ¬ (T (tSk T k p) = 10 ∨ T (tSk T k p) = 32))
  | 0, p => ⟨Nat.le_refl _, Nat.le_refl _, fun h => absurd h (Nat.lt_irrefl _)⟩
  | k + 1, p => by
    simp only [tSk]
    split
    · have := tSk_bd T k (p + 1)
      refine ⟨by omega, by omega, fun h => this.2.2 (by omega)⟩
    · rename_i hc
      exact ⟨Nat.le_refl _, by omega, fun _ => hc⟩
def tkH (I : zHI) (P : zHP) (T : Nat → Int) (n p : Nat) : Prop := P 0 0 = some 1 ∧ I 0 6 = Int32.ofNat n ∧ I 0 7 = Int32.ofNat p ∧ n ≤ 700 ∧ p ≤ n ∧ ∀ j, j < 700 → (I 1 j).toInt = T j
theorem tkH.nx {I : zHI} {P : zHP} {T : Nat → Int} {n p q : Nat} (h : tkH I P T n p) (hq : q ≤ n) : tkH (zu2 I 0 7 (Int32.ofNat q)) P T n q := ⟨h.1, (zu2_off (by decide)).trans h.2.1, zu2_at, h.2.2.2.1, hq, fun j hj => by
  rw [zu2_off (by omega)]
  exact h.2.2.2.2.2 j hj⟩
abbrev zXt (l : Launch) (Γ : zG) (d : Nat) (Kp : Option Value → zH → Prop) (pc : Nat) (st : List Value) (h : zH) : Prop := zX l Γ false (d + 1) zh195 (zMQ' Γ false zh195 Kp) 0 0 pc [(0, .ref 0)] st h
set_option maxRecDepth 100000 in
set_option maxHeartbeats 4000000 in
theorem zkA {l : Launch} {Γ : zG} {d : Nat} {Kp : Option Value → zH → Prop} {I : zHI} {Lg : zHL} {P : zHP} {T : Nat → Int} {n p : Nat} (hH : tkH I P T n p) (hlt : p < n) (hs : T p = 10 ∨ T p = 32)
    (hX : zXt l Γ d Kp 0 [] (zshM, zu2 I 0 7 (Int32.ofNat (p + 1)), Lg, P)) : zXt l Γ d Kp 0 [] (zshM, I, Lg, P) := by
  obtain ⟨hP, e6, e7, hn, hpn, hT⟩ := hH
  have ei : (I 0 7).toNatClampNeg = p := by rw [e7, ofN_cl (by omega)]
  have eb : ¬ (I 0 7 < 0 ∨ 700 ≤ (I 0 7).toNatClampNeg) := by
    rw [e7]
    exact ofN_ix (by omega) (by omega)
  have e1 : I 0 7 + Int32.ofInt 1 = Int32.ofNat (p + 1) := by
    rw [e7]
    exact ofN_add p 1
  have c0 : ¬ I 0 6 ≤ I 0 7 := by
    rw [e6, e7]
    exact dlen (by rw [oN (by omega), oN (by omega)]; omega)
  have ht : (I 1 (I 0 7).toNatClampNeg).toInt = T p := by rw [ei, hT p (by omega)]
  have eP := zPx hP
  have fin : zXt l Γ d Kp 0 [] (zshM, zu2 I 0 7 (I 0 7 + Int32.ofInt 1), Lg, (fun a b => if a = 0 ∧ b = 0 then some 1 else P a b : zHP)) := by
    rw [← eP, e1]
    exact hX
  rw [eP]
  refine zpcF (M := (zh195, zc195)) 195 0 rfl zckm195 (fun _ _ _ _ h => h) ?_
  refine zdecF c0 (fun _ => ?_)
  refine zdecF eb (fun _ => ?_)
  by_cases h10 : T p = 10
  · refine zdecT (show I 1 (I 0 7).toNatClampNeg = Int32.ofInt 10 from deq (by rw [ht, oI (by decide) (by decide)]; exact h10)) (fun _ => ?_)
    exact fin
  · refine zdecF (show ¬ I 1 (I 0 7).toNatClampNeg = Int32.ofInt 10 from den (by rw [ht, oI (by decide) (by decide)]; exact h10)) (fun _ => ?_)
    refine zdecF eb (fun _ => ?_)
    refine zdecT (show I 1 (I 0 7).toNatClampNeg = Int32.ofInt 32 from deq (by rw [ht, oI (by decide) (by decide)]; omega)) (fun _ => ?_)
    exact fin
set_option maxRecDepth 100000 in
set_option maxHeartbeats 4000000 in
theorem zkB {l : Launch} {Γ : zG} {d : Nat} {Kp : Option Value → zH → Prop} {I : zHI} {Lg : zHL} {P : zHP} {T : Nat → Int} {n p : Nat} (hH : tkH I P T n p) (hs : p < n → ¬ (T p = 10 ∨ T p = 32))
    (hX : zXt l Γ d Kp 52 [] (zshM, I, Lg, P)) : zXt l Γ d Kp 0 [] (zshM, I, Lg, P) := by
  obtain ⟨hP, e6, e7, hn, hpn, hT⟩ := hH
  have eP := zPx hP
  rw [eP] at hX ⊢
  refine zpcF (M := (zh195, zc195)) 195 52 rfl zckm195 (fun _ _ _ _ h => h) ?_
  by_cases hlt : p < n
  · have ei : (I 0 7).toNatClampNeg = p := by rw [e7, ofN_cl (by omega)]
    have eb : ¬ (I 0 7 < 0 ∨ 700 ≤ (I 0 7).toNatClampNeg) := by
      rw [e7]
      exact ofN_ix (by omega) (by omega)
    have ht : (I 1 (I 0 7).toNatClampNeg).toInt = T p := by rw [ei, hT p (by omega)]
    have hs := hs hlt
    refine zdecF (show ¬ I 0 6 ≤ I 0 7 from ?_) (fun _ => ?_)
    · rw [e6, e7]
      exact dlen (by rw [oN (by omega), oN (by omega)]; omega)
    refine zdecF eb (fun _ => ?_)
    refine zdecF (show ¬ I 1 (I 0 7).toNatClampNeg = Int32.ofInt 10 from den (by rw [ht, oI (by decide) (by decide)]; omega)) (fun _ => ?_)
    refine zdecF eb (fun _ => ?_)
    refine zdecF (show ¬ I 1 (I 0 7).toNatClampNeg = Int32.ofInt 32 from den (by rw [ht, oI (by decide) (by decide)]; omega)) (fun _ => ?_)
    exact hX
  · refine zdecT (show I 0 6 ≤ I 0 7 from ?_) (fun _ => ?_)
    · rw [e6, e7]
      exact dle (by rw [oN (by omega), oN (by omega)]; omega)
    exact hX
theorem zkSk {l : Launch} {Γ : zG} {d : Nat} {Kp : Option Value → zH → Prop} {Lg : zHL} {P : zHP} {T : Nat → Int} {n : Nat} (k : Nat) : ∀ (p : Nat) (I : zHI), p + k = n → tkH I P T n p → zXt l Γ d Kp 52 [] (zshM, zu2 I 0 7 (Int32.ofNat (tSk T k p)), Lg, P) → zXt l Γ d Kp 0 [] (zshM, I, Lg, P) := by
  induction k with
  | zero =>
    intro p I hk hH hX
    have e : tSk T 0 p = p := rfl
    rw [e, zu2_id hH.2.2.1] at hX
    exact zkB hH (fun h => absurd h (by omega)) hX
  | succ k ih =>
    intro p I hk hH hX
    by_cases hs : T p = 10 ∨ T p = 32
    · have e : tSk T (k + 1) p = tSk T k (p + 1) := by
        simp only [tSk]
        rw [if_pos hs]
      rw [e] at hX
      refine zkA hH (by omega) hs (ih (p + 1) (zu2 I 0 7 (Int32.ofNat (p + 1))) (by omega) (hH.nx (by omega)) ?_)
      rw [zu2_2]
      exact hX
    · have e : tSk T (k + 1) p = p := by
        simp only [tSk]
        rw [if_neg hs]
      rw [e, zu2_id hH.2.2.1] at hX
      exact zkB hH (fun _ => hs) hX
/-! what stands there: the end, a letter, a digit, a sign -/
set_option maxRecDepth 100000 in
set_option maxHeartbeats 4000000 in
theorem zkE {l : Launch} {Γ : zG} {d : Nat} {Kp : Option Value → zH → Prop} {I : zHI} {Lg : zHL} {P : zHP} {T : Nat → Int} {n p : Nat} (hH : tkH I P T n p) (he : p = n)
    (hK : Kp none (zshM, zu2 (zu2 I 0 10 (I 0 7)) 0 8 (Int32.ofInt 0), Lg, P)) : zXt l Γ d Kp 52 [] (zshM, I, Lg, P) := by
  obtain ⟨hP, e6, e7, hn, hpn, hT⟩ := hH
  refine zpcF (M := (zh195, zc195)) 195 1000 rfl zckm195 (fun _ _ _ _ h => h) ?_
  refine zdecT (show I 0 7 = I 0 6 from by rw [e6, e7, he]) (fun _ => ?_)
  exact hK
set_option maxRecDepth 100000 in
set_option maxHeartbeats 4000000 in
theorem zkL {l : Launch} {Γ : zG} {d : Nat} {Kp : Option Value → zH → Prop} {I : zHI} {Lg : zHL} {P : zHP} {T : Nat → Int} {n p : Nat} (hH : tkH I P T n p) (hlt : p < n) (hs : 97 ≤ T p ∧ T p ≤ 122)
    (hX : zXt l Γ (d + 1) Kp 90 [] (zshM, zu2 I 0 10 (Int32.ofNat p), Lg, P)) : zXt l Γ (d + 1) Kp 52 [] (zshM, I, Lg, P) := by
  obtain ⟨hP, e6, e7, hn, hpn, hT⟩ := hH
  have ei : (I 0 7).toNatClampNeg = p := by rw [e7, ofN_cl (by omega)]
  have eb : ¬ (I 0 7 < 0 ∨ 700 ≤ (I 0 7).toNatClampNeg) := by
    rw [e7]
    exact ofN_ix (by omega) (by omega)
  have ht : (I 1 (I 0 7).toNatClampNeg).toInt = T p := by rw [ei, hT p (by omega)]
  have eP := zPx hP
  have fin : zXt l Γ (d + 1) Kp 90 [] (zshM, zu2 I 0 10 (I 0 7), Lg, (fun a b => if a = 0 ∧ b = 0 then some 1 else P a b : zHP)) := by
    rw [← eP, e7]
    exact hX
  rw [eP]
  refine zpcF (M := (zh195, zc195)) 195 90 rfl zckm195 (fun _ _ _ _ h => h) ?_
  refine zdecF (show ¬ I 0 7 = I 0 6 from ?_) (fun _ => ?_)
  · rw [e6, e7]
    exact den (by rw [oN (by omega), oN (by omega)]; omega)
  refine zdecF (show ¬ I 0 6 ≤ I 0 7 from ?_) (fun _ => ?_)
  · rw [e6, e7]
    exact dlen (by rw [oN (by omega), oN (by omega)]; omega)
  refine zdecF eb (fun _ => ?_)
  refine zdecF (show ¬ I 1 (I 0 7).toNatClampNeg < Int32.ofInt 97 from dltn (by rw [ht, oI (by decide) (by decide)]; omega)) (fun _ => ?_)
  refine zdecF eb (fun _ => ?_)
  refine zdecF (show ¬ Int32.ofInt 122 < I 1 (I 0 7).toNatClampNeg from dltn (by rw [ht, oI (by decide) (by decide)]; omega)) (fun _ => ?_)
  exact fin
/-- the end of the letters -/
def tWd (T : Nat → Int) : Nat → Nat → Nat
  | 0, p => p
  | k + 1, p => if 97 ≤ T p ∧ T p ≤ 122 then tWd T k (p + 1) else p
set_option maxRecDepth 100000 in
set_option maxHeartbeats 4000000 in
theorem zkWi {l : Launch} {Γ : zG} {d : Nat} {Kp : Option Value → zH → Prop} {I : zHI} {Lg : zHL} {P : zHP} {T : Nat → Int} {n p : Nat} (hH : tkH I P T n p) (hlt : p < n) (hs : 97 ≤ T p ∧ T p ≤ 122)
    (hX : zXt l Γ (d + 1) Kp 90 [] (zshM, zu2 I 0 7 (Int32.ofNat (p + 1)), Lg, P)) : zXt l Γ (d + 1) Kp 90 [] (zshM, I, Lg, P) := by
  obtain ⟨hP, e6, e7, hn, hpn, hT⟩ := hH
  have ei : (I 0 7).toNatClampNeg = p := by rw [e7, ofN_cl (by omega)]
  have eb : ¬ (I 0 7 < 0 ∨ 700 ≤ (I 0 7).toNatClampNeg) := by
    rw [e7]
    exact ofN_ix (by omega) (by omega)
  have ht : (I 1 (I 0 7).toNatClampNeg).toInt = T p := by rw [ei, hT p (by omega)]
  have e1 : I 0 7 + Int32.ofInt 1 = Int32.ofNat (p + 1) := by
    rw [e7]
    exact ofN_add p 1
  have eP := zPx hP
  have fin : zXt l Γ (d + 1) Kp 90 [] (zshM, zu2 I 0 7 (I 0 7 + Int32.ofInt 1), Lg, (fun a b => if a = 0 ∧ b = 0 then some 1 else P a b : zHP)) := by
    rw [← eP, e1]
    exact hX
  rw [eP]
  refine zpcF (M := (zh195, zc195)) 195 90 rfl zckm195 (fun _ _ _ _ h => h) ?_
  refine zdecF (show ¬ I 0 6 ≤ I 0 7 from ?_) (fun _ => ?_)
  · rw [e6, e7]
    exact dlen (by rw [oN (by omega), oN (by omega)]; omega)
  refine zdecF eb (fun _ => ?_)
  refine zdecF (show ¬ I 1 (I 0 7).toNatClampNeg < Int32.ofInt 97 from dltn (by rw [ht, oI (by decide) (by decide)]; omega)) (fun _ => ?_)
  refine zdecF eb (fun _ => ?_)
  refine zdecF (show ¬ Int32.ofInt 122 < I 1 (I 0 7).toNatClampNeg from dltn (by rw [ht, oI (by decide) (by decide)]; omega)) (fun _ => ?_)
  exact fin
/-! behind the letters: wordAt is called -/
set_option maxRecDepth 100000 in
set_option maxHeartbeats 4000000 in
theorem zkWx {l : Launch} {Γ : zG} {d : Nat} {Kp : Option Value → zH → Prop} {I : zHI} {Lg : zHL} {P : zHP} {T : Nat → Int} {n p : Nat} (hH : tkH I P T n p) (hs : p < n → ¬ (97 ≤ T p ∧ T p ≤ 122))
    (hX : zXt l Γ (d + 1) Kp 124 [.int (I 0 7), .int (I 0 10), .ref 0, .ref 0] (zshM, I, Lg, P)) : zXt l Γ (d + 1) Kp 90 [] (zshM, I, Lg, P) := by
  obtain ⟨hP, e6, e7, hn, hpn, hT⟩ := hH
  have eP := zPx hP
  rw [eP] at hX ⊢
  refine zpcF (M := (zh195, zc195)) 195 124 rfl zckm195 (fun _ _ _ _ h => h) ?_
  by_cases hlt : p < n
  · have ei : (I 0 7).toNatClampNeg = p := by rw [e7, ofN_cl (by omega)]
    have eb : ¬ (I 0 7 < 0 ∨ 700 ≤ (I 0 7).toNatClampNeg) := by
      rw [e7]
      exact ofN_ix (by omega) (by omega)
    have ht : (I 1 (I 0 7).toNatClampNeg).toInt = T p := by rw [ei, hT p (by omega)]
    have hs := hs hlt
    refine zdecF (show ¬ I 0 6 ≤ I 0 7 from ?_) (fun _ => ?_)
    · rw [e6, e7]
      exact dlen (by rw [oN (by omega), oN (by omega)]; omega)
    refine zdecF eb (fun _ => ?_)
    by_cases h97 : T p < 97
    · refine zdecT (show I 1 (I 0 7).toNatClampNeg < Int32.ofInt 97 from dlt (by rw [ht, oI (by decide) (by decide)]; omega)) (fun _ => ?_)
      exact hX
    · refine zdecF (show ¬ I 1 (I 0 7).toNatClampNeg < Int32.ofInt 97 from dltn (by rw [ht, oI (by decide) (by decide)]; omega)) (fun _ => ?_)
      refine zdecF eb (fun _ => ?_)
      refine zdecT (show Int32.ofInt 122 < I 1 (I 0 7).toNatClampNeg from dlt (by rw [ht, oI (by decide) (by decide)]; omega)) (fun _ => ?_)
      exact hX
  · refine zdecT (show I 0 6 ≤ I 0 7 from ?_) (fun _ => ?_)
    · rw [e6, e7]
      exact dle (by rw [oN (by omega), oN (by omega)]; omega)
    exact hX
theorem zkWd {l : Launch} {Γ : zG} {d : Nat} {Kp : Option Value → zH → Prop} {Lg : zHL} {P : zHP} {T : Nat → Int} {n : Nat} (k : Nat) : ∀ (p : Nat) (I : zHI), p + k = n → tkH I P T n p → zXt l Γ (d + 1) Kp 124 [.int (Int32.ofNat (tWd T k p)), .int (I 0 10), .ref 0, .ref 0] (zshM, zu2 I 0 7 (Int32.ofNat (tWd T k p)), Lg, P) → zXt l Γ (d + 1) Kp 90 [] (zshM, I, Lg, P) := by
  induction k with
  | zero =>
    intro p I hk hH hX
    have e : tWd T 0 p = p := rfl
    rw [e, zu2_id hH.2.2.1, ← hH.2.2.1] at hX
    exact zkWx hH (fun h => absurd h (by omega)) hX
  | succ k ih =>
    intro p I hk hH hX
    by_cases hs : 97 ≤ T p ∧ T p ≤ 122
    · have e : tWd T (k + 1) p = tWd T k (p + 1) := by
        simp only [tWd]
        rw [if_pos hs]
      rw [e] at hX
      refine zkWi hH (by omega) hs (ih (p + 1) (zu2 I 0 7 (Int32.ofNat (p + 1))) (by omega) (hH.nx (by omega)) ?_)
      rw [zu2_2, zu2_off (by decide)]
      exact hX
    · have e : tWd T (k + 1) p = p := by
        simp only [tWd]
        rw [if_neg hs]
      rw [e, zu2_id hH.2.2.1, ← hH.2.2.1] at hX
      exact zkWx hH (fun _ => hs) hX
