/-! the class's tokens, place by place -/
def cH (I : zHI) (P : zHP) (T : Nat → Int) (n p : Nat) : Prop := P 3 1 = some 1 ∧ P 3 0 = some 4 ∧ I 3 2 = Int32.ofNat n ∧ I 3 3 = Int32.ofNat p ∧ n ≤ 700 ∧ p ≤ n ∧ (∀ j, j < 700 → (I 1 j).toInt = sb (T j)) ∧ ∀ j, j < 700 → 0 ≤ T j ∧ T j ≤ 255
theorem cH.nx {I : zHI} {P : zHP} {T : Nat → Int} {n p q : Nat} (h : cH I P T n p) (hq : q ≤ n) : cH (zu2 I 3 3 (Int32.ofNat q)) P T n q := ⟨h.1, h.2.1, (zu2_off (by decide)).trans h.2.2.1, zu2_at, h.2.2.2.2.1, hq, fun j hj => by
  rw [zu2_off (by omega)]
  exact h.2.2.2.2.2.2.1 j hj, h.2.2.2.2.2.2.2⟩
theorem cH.up {I : zHI} {P : zHP} {T : Nat → Int} {n p : Nat} (h : cH I P T n p) {j : Nat} (hj : 4 ≤ j) (v : Int32) : cH (zu2 I 3 j v) P T n p := ⟨h.1, h.2.1, (zu2_off (by omega)).trans h.2.2.1, (zu2_off (by omega)).trans h.2.2.2.1, h.2.2.2.2.1, h.2.2.2.2.2.1, fun i hi => by
  rw [zu2_off (by omega)]
  exact h.2.2.2.2.2.2.1 i hi, h.2.2.2.2.2.2.2⟩
theorem cPx {P : zHP} (h1 : P 3 1 = some 1) (h0 : P 3 0 = some 4) : P = (fun a b => if a = 3 ∧ b = 1 then some 1 else if a = 3 ∧ b = 0 then some 4 else P a b : zHP) := by
  funext a b
  split
  · rename_i h
    rw [h.1, h.2, h1]
  · split
    · rename_i h
      rw [h.1, h.2, h0]
    · rfl
theorem sb_or (x : Int) : (x < 128 ∧ sb x = x) ∨ (128 ≤ x ∧ sb x = x - 256) := by
  unfold sb
  split <;> omega
set_option maxRecDepth 100000 in
set_option maxHeartbeats 4000000 in
theorem ckA {l : Launch} {Γ : zG} {d : Nat} {Kp : Option Value → zH → Prop} {I : zHI} {Lg : zHL} {P : zHP} {T : Nat → Int} {n p : Nat} (hH : cH I P T n p) (hlt : p < n) (hs : T p = 10 ∨ T p = 32) (hX : zX l Γ false (d + 1) zh34 (zMQ' Γ false zh34 Kp) 0 0 0 [(0, .ref 3)] [] (zshC, zu2 I 3 3 (Int32.ofNat (p + 1)), Lg, P)) : zX l Γ false (d + 1) zh34 (zMQ' Γ false zh34 Kp) 0 0 0 [(0, .ref 3)] [] (zshC, I, Lg, P) := by
  obtain ⟨hP1, hP0, e2, e3, hn, hpn, hT, hR⟩ := hH
  have eP := cPx hP1 hP0
  have h2 : (I 3 2).toInt = (n : Int) := by
    rw [e2]
    exact oN (by omega)
  have h3 : (I 3 3).toInt = (p : Int) := by
    rw [e3]
    exact oN (by omega)
  have ei : (I 3 3).toNatClampNeg = p := by rw [e3, ofN_cl (by omega)]
  have eb : ¬ (I 3 3 < 0 ∨ 700 ≤ (I 3 3).toNatClampNeg) := by
    rw [e3]
    exact ofN_ix (by omega) (by omega)
  have e31 : I 3 3 + Int32.ofInt 1 = Int32.ofNat (p + 1) := by
    rw [e3]
    exact ofN_add p 1
  have hb : (I 1 (I 3 3).toNatClampNeg).toInt = sb (T p) := by rw [ei, hT p (by omega)]
  have hr := hR p (by omega)
  have hs_ := sb_or (T p)
  have fin : zX l Γ false (d + 1) zh34 (zMQ' Γ false zh34 Kp) 0 0 0 [(0, .ref 3)] [] (zshC, zu2 I 3 3 (I 3 3 + Int32.ofInt 1), Lg, (fun a b => if a = 3 ∧ b = 1 then some 1 else if a = 3 ∧ b = 0 then some 4 else P a b : zHP)) := by
    rw [← eP, e31]
    exact hX
  rw [eP]
  refine zpcF (M := (zh34, zc34)) 0 0 rfl zckm34 (fun _ _ _ _ h => h) ?_
  by_cases h32 : T p = 32
  · skip
    refine zdecF (show ¬ I 3 2 ≤ I 3 3 from dlen (by rw [h2, h3] <;> omega)) (fun _ => ?_)
    refine zdecF eb (fun _ => ?_)
    refine zdecT (show I 1 (I 3 3).toNatClampNeg = Int32.ofInt 32 from deq (by rw [hb, oI (by decide) (by decide)] <;> omega)) (fun _ => ?_)
    exact fin
  · skip
    refine zdecF (show ¬ I 3 2 ≤ I 3 3 from dlen (by rw [h2, h3] <;> omega)) (fun _ => ?_)
    refine zdecF eb (fun _ => ?_)
    refine zdecF (show ¬ I 1 (I 3 3).toNatClampNeg = Int32.ofInt 32 from den (by rw [hb, oI (by decide) (by decide)] <;> omega)) (fun _ => ?_)
    refine zdecF eb (fun _ => ?_)
    refine zdecT (show I 1 (I 3 3).toNatClampNeg = Int32.ofInt 10 from deq (by rw [hb, oI (by decide) (by decide)] <;> omega)) (fun _ => ?_)
    exact fin
set_option maxRecDepth 100000 in
set_option maxHeartbeats 4000000 in
theorem ckB {l : Launch} {Γ : zG} {d : Nat} {Kp : Option Value → zH → Prop} {I : zHI} {Lg : zHL} {P : zHP} {T : Nat → Int} {n p : Nat} (hH : cH I P T n p) (hs : p < n → ¬ (T p = 10 ∨ T p = 32)) (hX : zX l Γ false (d + 1) zh34 (zMQ' Γ false zh34 Kp) 0 0 52 [(0, .ref 3)] [] (zshC, I, Lg, P)) : zX l Γ false (d + 1) zh34 (zMQ' Γ false zh34 Kp) 0 0 0 [(0, .ref 3)] [] (zshC, I, Lg, P) := by
  obtain ⟨hP1, hP0, e2, e3, hn, hpn, hT, hR⟩ := hH
  have eP := cPx hP1 hP0
  have h2 : (I 3 2).toInt = (n : Int) := by
    rw [e2]
    exact oN (by omega)
  have h3 : (I 3 3).toInt = (p : Int) := by
    rw [e3]
    exact oN (by omega)
  rw [eP] at hX ⊢
  refine zpcF (M := (zh34, zc34)) 0 52 rfl zckm34 (fun _ _ _ _ h => h) ?_
  by_cases hlt : p < n
  · have hs := hs hlt
    have ei : (I 3 3).toNatClampNeg = p := by rw [e3, ofN_cl (by omega)]
    have eb : ¬ (I 3 3 < 0 ∨ 700 ≤ (I 3 3).toNatClampNeg) := by
      rw [e3]
      exact ofN_ix (by omega) (by omega)
    have e31 : I 3 3 + Int32.ofInt 1 = Int32.ofNat (p + 1) := by
      rw [e3]
      exact ofN_add p 1
    have hb : (I 1 (I 3 3).toNatClampNeg).toInt = sb (T p) := by rw [ei, hT p (by omega)]
    have hr := hR p (by omega)
    have hs_ := sb_or (T p)
    refine zdecF (show ¬ I 3 2 ≤ I 3 3 from dlen (by rw [h2, h3] <;> omega)) (fun _ => ?_)
    refine zdecF eb (fun _ => ?_)
    refine zdecF (show ¬ I 1 (I 3 3).toNatClampNeg = Int32.ofInt 32 from den (by rw [hb, oI (by decide) (by decide)] <;> omega)) (fun _ => ?_)
    refine zdecF eb (fun _ => ?_)
    refine zdecF (show ¬ I 1 (I 3 3).toNatClampNeg = Int32.ofInt 10 from den (by rw [hb, oI (by decide) (by decide)] <;> omega)) (fun _ => ?_)
    exact hX
  · skip
    refine zdecT (show I 3 2 ≤ I 3 3 from dle (by rw [h2, h3] <;> omega)) (fun _ => ?_)
    exact hX
theorem ckSk {l : Launch} {Γ : zG} {d : Nat} {Kp : Option Value → zH → Prop} {Lg : zHL} {P : zHP} {T : Nat → Int} {n : Nat} (k : Nat) : ∀ (p : Nat) (I : zHI), p + k = n → cH I P T n p → zX l Γ false (d + 1) zh34 (zMQ' Γ false zh34 Kp) 0 0 52 [(0, .ref 3)] [] (zshC, zu2 I 3 3 (Int32.ofNat (tSk T k p)), Lg, P) → zX l Γ false (d + 1) zh34 (zMQ' Γ false zh34 Kp) 0 0 0 [(0, .ref 3)] [] (zshC, I, Lg, P) := by
  induction k with
  | zero =>
    intro p I hk hH hX
    have e : tSk T 0 p = p := rfl
    rw [e, zu2_id hH.2.2.2.1] at hX
    exact ckB hH (fun h => absurd h (by omega)) hX
  | succ k ih =>
    intro p I hk hH hX
    by_cases hs : T p = 10 ∨ T p = 32
    · have e : tSk T (k + 1) p = tSk T k (p + 1) := by
        simp only [tSk]
        rw [if_pos hs]
      rw [e] at hX
      refine ckA hH (by omega) hs (ih (p + 1) (zu2 I 3 3 (Int32.ofNat (p + 1))) (by omega) (hH.nx (by omega)) ?_)
      rw [zu2_2]
      exact hX
    · have e : tSk T (k + 1) p = p := by
        simp only [tSk]
        rw [if_neg hs]
      rw [e, zu2_id hH.2.2.2.1] at hX
      exact ckB hH (fun _ => hs) hX
set_option maxRecDepth 100000 in
set_option maxHeartbeats 4000000 in
theorem ckE {l : Launch} {Γ : zG} {d : Nat} {Kp : Option Value → zH → Prop} {I : zHI} {Lg : zHL} {P : zHP} {T : Nat → Int} {n p : Nat} (hH : cH I P T n p) (he : p = n) (hK : Kp none (zshC, zu2 (zu2 I 3 5 (I 3 3)) 3 4 (Int32.ofInt 0), Lg, P)) : zX l Γ false (d + 1) zh34 (zMQ' Γ false zh34 Kp) 0 0 52 [(0, .ref 3)] [] (zshC, I, Lg, P) := by
  obtain ⟨hP1, hP0, e2, e3, hn, hpn, hT, hR⟩ := hH
  have eP := cPx hP1 hP0
  have h2 : (I 3 2).toInt = (n : Int) := by
    rw [e2]
    exact oN (by omega)
  have h3 : (I 3 3).toInt = (p : Int) := by
    rw [e3]
    exact oN (by omega)
  refine zpcF (M := (zh34, zc34)) 0 1000 rfl zckm34 (fun _ _ _ _ h => h) ?_
  refine zdecF (show ¬ I 3 3 < I 3 2 from dltn (by rw [h3, h2] <;> omega)) (fun _ => ?_)
  exact hK
set_option maxRecDepth 100000 in
set_option maxHeartbeats 4000000 in
theorem ckL {l : Launch} {Γ : zG} {d : Nat} {Kp : Option Value → zH → Prop} {I : zHI} {Lg : zHL} {P : zHP} {T : Nat → Int} {n p : Nat} (hH : cH I P T n p) (hlt : p < n) (hs : 97 ≤ T p ∧ T p ≤ 122) (hX : zX l Γ false (d + 1) zh34 (zMQ' Γ false zh34 Kp) 0 0 108 [(0, .ref 3)] [.ref 3] (zshC, zu2 I 3 5 (Int32.ofNat p), Lg, P)) : zX l Γ false (d + 1) zh34 (zMQ' Γ false zh34 Kp) 0 0 52 [(0, .ref 3)] [] (zshC, I, Lg, P) := by
  obtain ⟨hP1, hP0, e2, e3, hn, hpn, hT, hR⟩ := hH
  have eP := cPx hP1 hP0
  have h2 : (I 3 2).toInt = (n : Int) := by
    rw [e2]
    exact oN (by omega)
  have h3 : (I 3 3).toInt = (p : Int) := by
    rw [e3]
    exact oN (by omega)
  have ei : (I 3 3).toNatClampNeg = p := by rw [e3, ofN_cl (by omega)]
  have eb : ¬ (I 3 3 < 0 ∨ 700 ≤ (I 3 3).toNatClampNeg) := by
    rw [e3]
    exact ofN_ix (by omega) (by omega)
  have e31 : I 3 3 + Int32.ofInt 1 = Int32.ofNat (p + 1) := by
    rw [e3]
    exact ofN_add p 1
  have hb : (I 1 (I 3 3).toNatClampNeg).toInt = sb (T p) := by rw [ei, hT p (by omega)]
  have hr := hR p (by omega)
  have hs_ := sb_or (T p)
  have fin : zX l Γ false (d + 1) zh34 (zMQ' Γ false zh34 Kp) 0 0 108 [(0, .ref 3)] [.ref 3] (zshC, zu2 I 3 5 (I 3 3), Lg, (fun a b => if a = 3 ∧ b = 1 then some 1 else if a = 3 ∧ b = 0 then some 4 else P a b : zHP)) := by
    rw [← eP, e3]
    exact hX
  rw [eP]
  refine zpcF (M := (zh34, zc34)) 0 108 rfl zckm34 (fun _ _ _ _ h => h) ?_
  refine zdecT (show I 3 3 < I 3 2 from dlt (by rw [h3, h2] <;> omega)) (fun _ => ?_)
  refine zdecF eb (fun _ => ?_)
  refine zdecF (show ¬ I 1 (I 3 3).toNatClampNeg < Int32.ofInt 97 from dltn (by rw [hb, oI (by decide) (by decide)] <;> omega)) (fun _ => ?_)
  refine zdecF eb (fun _ => ?_)
  refine zdecF (show ¬ Int32.ofInt 122 < I 1 (I 3 3).toNatClampNeg from dltn (by rw [oI (by decide) (by decide), hb] <;> omega)) (fun _ => ?_)
  exact fin
set_option maxRecDepth 100000 in
set_option maxHeartbeats 4000000 in
theorem ckD {l : Launch} {Γ : zG} {d : Nat} {Kp : Option Value → zH → Prop} {I : zHI} {Lg : zHL} {P : zHP} {T : Nat → Int} {n p : Nat} (hH : cH I P T n p) (hlt : p < n) (hs : 48 ≤ T p ∧ T p ≤ 57) (hX : zX l Γ false (d + 1) zh34 (zMQ' Γ false zh34 Kp) 0 0 143 [(0, .ref 3)] [.ref 3] (zshC, zu2 I 3 5 (Int32.ofNat p), Lg, P)) : zX l Γ false (d + 1) zh34 (zMQ' Γ false zh34 Kp) 0 0 52 [(0, .ref 3)] [] (zshC, I, Lg, P) := by
  obtain ⟨hP1, hP0, e2, e3, hn, hpn, hT, hR⟩ := hH
  have eP := cPx hP1 hP0
  have h2 : (I 3 2).toInt = (n : Int) := by
    rw [e2]
    exact oN (by omega)
  have h3 : (I 3 3).toInt = (p : Int) := by
    rw [e3]
    exact oN (by omega)
  have ei : (I 3 3).toNatClampNeg = p := by rw [e3, ofN_cl (by omega)]
  have eb : ¬ (I 3 3 < 0 ∨ 700 ≤ (I 3 3).toNatClampNeg) := by
    rw [e3]
    exact ofN_ix (by omega) (by omega)
  have e31 : I 3 3 + Int32.ofInt 1 = Int32.ofNat (p + 1) := by
    rw [e3]
    exact ofN_add p 1
  have hb : (I 1 (I 3 3).toNatClampNeg).toInt = sb (T p) := by rw [ei, hT p (by omega)]
  have hr := hR p (by omega)
  have hs_ := sb_or (T p)
  have fin : zX l Γ false (d + 1) zh34 (zMQ' Γ false zh34 Kp) 0 0 143 [(0, .ref 3)] [.ref 3] (zshC, zu2 I 3 5 (I 3 3), Lg, (fun a b => if a = 3 ∧ b = 1 then some 1 else if a = 3 ∧ b = 0 then some 4 else P a b : zHP)) := by
    rw [← eP, e3]
    exact hX
  rw [eP]
  refine zpcF (M := (zh34, zc34)) 0 143 rfl zckm34 (fun _ _ _ _ h => h) ?_
  refine zdecT (show I 3 3 < I 3 2 from dlt (by rw [h3, h2] <;> omega)) (fun _ => ?_)
  refine zdecF eb (fun _ => ?_)
  refine zdecT (show I 1 (I 3 3).toNatClampNeg < Int32.ofInt 97 from dlt (by rw [hb, oI (by decide) (by decide)] <;> omega)) (fun _ => ?_)
  refine zdecF eb (fun _ => ?_)
  refine zdecF (show ¬ I 1 (I 3 3).toNatClampNeg < Int32.ofInt 48 from dltn (by rw [hb, oI (by decide) (by decide)] <;> omega)) (fun _ => ?_)
  refine zdecF eb (fun _ => ?_)
  refine zdecF (show ¬ Int32.ofInt 57 < I 1 (I 3 3).toNatClampNeg from dltn (by rw [oI (by decide) (by decide), hb] <;> omega)) (fun _ => ?_)
  exact fin
set_option maxRecDepth 100000 in
set_option maxHeartbeats 4000000 in
theorem ckO {l : Launch} {Γ : zG} {d : Nat} {Kp : Option Value → zH → Prop} {I : zHI} {Lg : zHL} {P : zHP} {T : Nat → Int} {n p : Nat} (hH : cH I P T n p) (hlt : p < n) (hs : ¬ (97 ≤ T p ∧ T p ≤ 122) ∧ ¬ (48 ≤ T p ∧ T p ≤ 57)) (hX : zX l Γ false (d + 1) zh34 (zMQ' Γ false zh34 Kp) 0 0 150 [(0, .ref 3)] [.ref 3] (zshC, zu2 I 3 5 (Int32.ofNat p), Lg, P)) : zX l Γ false (d + 1) zh34 (zMQ' Γ false zh34 Kp) 0 0 52 [(0, .ref 3)] [] (zshC, I, Lg, P) := by
  obtain ⟨hP1, hP0, e2, e3, hn, hpn, hT, hR⟩ := hH
  have eP := cPx hP1 hP0
  have h2 : (I 3 2).toInt = (n : Int) := by
    rw [e2]
    exact oN (by omega)
  have h3 : (I 3 3).toInt = (p : Int) := by
    rw [e3]
    exact oN (by omega)
  have ei : (I 3 3).toNatClampNeg = p := by rw [e3, ofN_cl (by omega)]
  have eb : ¬ (I 3 3 < 0 ∨ 700 ≤ (I 3 3).toNatClampNeg) := by
    rw [e3]
    exact ofN_ix (by omega) (by omega)
  have e31 : I 3 3 + Int32.ofInt 1 = Int32.ofNat (p + 1) := by
    rw [e3]
    exact ofN_add p 1
  have hb : (I 1 (I 3 3).toNatClampNeg).toInt = sb (T p) := by rw [ei, hT p (by omega)]
  have hr := hR p (by omega)
  have hs_ := sb_or (T p)
  have fin : zX l Γ false (d + 1) zh34 (zMQ' Γ false zh34 Kp) 0 0 150 [(0, .ref 3)] [.ref 3] (zshC, zu2 I 3 5 (I 3 3), Lg, (fun a b => if a = 3 ∧ b = 1 then some 1 else if a = 3 ∧ b = 0 then some 4 else P a b : zHP)) := by
    rw [← eP, e3]
    exact hX
  rw [eP]
  refine zpcF (M := (zh34, zc34)) 0 150 rfl zckm34 (fun _ _ _ _ h => h) ?_
  by_cases a1 : 128 ≤ T p
  · skip
    refine zdecT (show I 3 3 < I 3 2 from dlt (by rw [h3, h2] <;> omega)) (fun _ => ?_)
    refine zdecF eb (fun _ => ?_)
    refine zdecT (show I 1 (I 3 3).toNatClampNeg < Int32.ofInt 97 from dlt (by rw [hb, oI (by decide) (by decide)] <;> omega)) (fun _ => ?_)
    refine zdecF eb (fun _ => ?_)
    refine zdecT (show I 1 (I 3 3).toNatClampNeg < Int32.ofInt 48 from dlt (by rw [hb, oI (by decide) (by decide)] <;> omega)) (fun _ => ?_)
    exact fin
  by_cases a2 : 122 < T p
  · skip
    refine zdecT (show I 3 3 < I 3 2 from dlt (by rw [h3, h2] <;> omega)) (fun _ => ?_)
    refine zdecF eb (fun _ => ?_)
    refine zdecF (show ¬ I 1 (I 3 3).toNatClampNeg < Int32.ofInt 97 from dltn (by rw [hb, oI (by decide) (by decide)] <;> omega)) (fun _ => ?_)
    refine zdecF eb (fun _ => ?_)
    refine zdecT (show Int32.ofInt 122 < I 1 (I 3 3).toNatClampNeg from dlt (by rw [oI (by decide) (by decide), hb] <;> omega)) (fun _ => ?_)
    refine zdecF eb (fun _ => ?_)
    refine zdecF (show ¬ I 1 (I 3 3).toNatClampNeg < Int32.ofInt 48 from dltn (by rw [hb, oI (by decide) (by decide)] <;> omega)) (fun _ => ?_)
    refine zdecF eb (fun _ => ?_)
    refine zdecT (show Int32.ofInt 57 < I 1 (I 3 3).toNatClampNeg from dlt (by rw [oI (by decide) (by decide), hb] <;> omega)) (fun _ => ?_)
    exact fin
  by_cases a3 : T p < 48
  · skip
    refine zdecT (show I 3 3 < I 3 2 from dlt (by rw [h3, h2] <;> omega)) (fun _ => ?_)
    refine zdecF eb (fun _ => ?_)
    refine zdecT (show I 1 (I 3 3).toNatClampNeg < Int32.ofInt 97 from dlt (by rw [hb, oI (by decide) (by decide)] <;> omega)) (fun _ => ?_)
    refine zdecF eb (fun _ => ?_)
    refine zdecT (show I 1 (I 3 3).toNatClampNeg < Int32.ofInt 48 from dlt (by rw [hb, oI (by decide) (by decide)] <;> omega)) (fun _ => ?_)
    exact fin
  refine zdecT (show I 3 3 < I 3 2 from dlt (by rw [h3, h2] <;> omega)) (fun _ => ?_)
  refine zdecF eb (fun _ => ?_)
  refine zdecT (show I 1 (I 3 3).toNatClampNeg < Int32.ofInt 97 from dlt (by rw [hb, oI (by decide) (by decide)] <;> omega)) (fun _ => ?_)
  refine zdecF eb (fun _ => ?_)
  refine zdecF (show ¬ I 1 (I 3 3).toNatClampNeg < Int32.ofInt 48 from dltn (by rw [hb, oI (by decide) (by decide)] <;> omega)) (fun _ => ?_)
  refine zdecF eb (fun _ => ?_)
  refine zdecT (show Int32.ofInt 57 < I 1 (I 3 3).toNatClampNeg from dlt (by rw [oI (by decide) (by decide), hb] <;> omega)) (fun _ => ?_)
  exact fin
/-- the class's number: it need not grow beyond every bound -/
def cNm (T : Nat → Int) : Nat → Nat → Int → Int
  | 0, _, a => a
  | k + 1, p, a => if 48 ≤ T p ∧ T p ≤ 57 then cNm T k (p + 1) (if a < 1000000 then a * 10 + T p - 48 else a) else a
set_option maxRecDepth 100000 in
set_option maxHeartbeats 4000000 in
theorem ckNi {l : Launch} {Γ : zG} {d : Nat} {Kp : Option Value → zH → Prop} {I : zHI} {Lg : zHL} {P : zHP} {T : Nat → Int} {n p : Nat} {a : Int} (hH : cH I P T n p) (hlt : p < n) (hs : 48 ≤ T p ∧ T p ≤ 57) (e7 : I 3 7 = Int32.ofInt a) (ha : 0 ≤ a ∧ a ≤ 9999999)
    (hX : zX l Γ false (d + 1) zh36 (zMQ' Γ false zh36 Kp) 0 0 5 [(0, .ref 3)] [] (zshC, zu2 (zu2 I 3 7 (Int32.ofInt (if a < 1000000 then a * 10 + T p - 48 else a))) 3 3 (Int32.ofNat (p + 1)), Lg, P)) : zX l Γ false (d + 1) zh36 (zMQ' Γ false zh36 Kp) 0 0 5 [(0, .ref 3)] [] (zshC, I, Lg, P) := by
  obtain ⟨hP1, hP0, e2, e3, hn, hpn, hT, hR⟩ := hH
  have eP := cPx hP1 hP0
  have h2 : (I 3 2).toInt = (n : Int) := by
    rw [e2]
    exact oN (by omega)
  have h3 : (I 3 3).toInt = (p : Int) := by
    rw [e3]
    exact oN (by omega)
  have ei : (I 3 3).toNatClampNeg = p := by rw [e3, ofN_cl (by omega)]
  have eb : ¬ (I 3 3 < 0 ∨ 700 ≤ (I 3 3).toNatClampNeg) := by
    rw [e3]
    exact ofN_ix (by omega) (by omega)
  have e31 : I 3 3 + Int32.ofInt 1 = Int32.ofNat (p + 1) := by
    rw [e3]
    exact ofN_add p 1
  have hb : (I 1 (I 3 3).toNatClampNeg).toInt = sb (T p) := by rw [ei, hT p (by omega)]
  have hr := hR p (by omega)
  have hs_ := sb_or (T p)
  have h7 : (I 3 7).toInt = a := by
    rw [e7]
    exact Int32.toInt_ofInt_of_le (by omega) (by omega)
  have h10 : (I 3 7 * Int32.ofInt 10).toInt = a * 10 := by
    rw [Int32.toInt_mul, h7, oI (by decide) (by decide)]
    exact s32r _ (by show (-2147483648 : Int) ≤ _; omega) (by show _ ≤ (2147483647 : Int); omega)
  have fin : ∀ w : Int32, w.toInt = (if a < 1000000 then a * 10 + T p - 48 else a) → zX l Γ false (d + 1) zh36 (zMQ' Γ false zh36 Kp) 0 0 5 [(0, .ref 3)] [] (zshC, zu2 (zu2 I 3 7 w) 3 3 (I 3 3 + Int32.ofInt 1), Lg, (fun a b => if a = 3 ∧ b = 1 then some 1 else if a = 3 ∧ b = 0 then some 4 else P a b : zHP)) := by
    intro w hw
    have ew : w = Int32.ofInt (if a < 1000000 then a * 10 + T p - 48 else a) := by rw [← hw, Int32.ofInt_toInt]
    rw [← eP, e31, ew]
    exact hX
  rw [eP]
  refine zpcF (M := (zh36, zc36)) 0 5 rfl zckm36 (fun _ _ _ _ h => h) ?_
  by_cases hq : a < 1000000
  · skip
    refine zdecF (show ¬ I 3 2 ≤ I 3 3 from dlen (by rw [h2, h3] <;> omega)) (fun _ => ?_)
    refine zdecF eb (fun _ => ?_)
    refine zdecF (show ¬ I 1 (I 3 3).toNatClampNeg < Int32.ofInt 48 from dltn (by rw [hb, oI (by decide) (by decide)] <;> omega)) (fun _ => ?_)
    refine zdecF eb (fun _ => ?_)
    refine zdecF (show ¬ Int32.ofInt 57 < I 1 (I 3 3).toNatClampNeg from dltn (by rw [oI (by decide) (by decide), hb] <;> omega)) (fun _ => ?_)
    refine zdecF (show ¬ Int32.ofNat 1000000 ≤ I 3 7 from dlen (by rw [Int32.toInt_ofNat_of_lt (by decide), h7] <;> omega)) (fun _ => ?_)
    refine zdecF eb (fun _ => ?_)
    refine fin _ ?_
    have ew : ∀ c1 c2 : Int32, c1 = Int32.ofInt 10 → c2 = Int32.ofInt 48 → (I 3 7 * c1 + I 1 (I 3 3).toNatClampNeg - c2).toInt = (if a < 1000000 then a * 10 + T p - 48 else a) := by
      intro c1 c2 g1 g2
      subst g1
      subst g2
      have b2 : (I 3 7 * Int32.ofInt 10 + I 1 (I 3 3).toNatClampNeg).toInt = a * 10 + T p := by
        rw [Int32.toInt_add, h10, hb, s32r _ (by show (-2147483648 : Int) ≤ _; omega) (by show _ ≤ (2147483647 : Int); omega)]
        omega
      rw [Int32.toInt_sub, b2, oI (by decide) (by decide), if_pos hq]
      exact s32r _ (by show (-2147483648 : Int) ≤ _; omega) (by show _ ≤ (2147483647 : Int); omega)
    exact ew _ _ (by decide) (by decide)
  · skip
    refine zdecF (show ¬ I 3 2 ≤ I 3 3 from dlen (by rw [h2, h3] <;> omega)) (fun _ => ?_)
    refine zdecF eb (fun _ => ?_)
    refine zdecF (show ¬ I 1 (I 3 3).toNatClampNeg < Int32.ofInt 48 from dltn (by rw [hb, oI (by decide) (by decide)] <;> omega)) (fun _ => ?_)
    refine zdecF eb (fun _ => ?_)
    refine zdecF (show ¬ Int32.ofInt 57 < I 1 (I 3 3).toNatClampNeg from dltn (by rw [oI (by decide) (by decide), hb] <;> omega)) (fun _ => ?_)
    refine zdecT (show Int32.ofNat 1000000 ≤ I 3 7 from dle (by rw [Int32.toInt_ofNat_of_lt (by decide), h7] <;> omega)) (fun _ => ?_)
    have f2 := fin (I 3 7) (by rw [h7, if_neg hq])
    rw [zu2_id (q := 3) (k := 7) (a := I 3 7) rfl] at f2
    exact f2
set_option maxRecDepth 100000 in
set_option maxHeartbeats 4000000 in
theorem ckNx {l : Launch} {Γ : zG} {d : Nat} {Kp : Option Value → zH → Prop} {I : zHI} {Lg : zHL} {P : zHP} {T : Nat → Int} {n p : Nat} (hH : cH I P T n p) (hs : p < n → ¬ (48 ≤ T p ∧ T p ≤ 57)) (hK : Kp none (zshC, zu2 I 3 4 (Int32.ofInt 3), Lg, P)) : zX l Γ false (d + 1) zh36 (zMQ' Γ false zh36 Kp) 0 0 5 [(0, .ref 3)] [] (zshC, I, Lg, P) := by
  obtain ⟨hP1, hP0, e2, e3, hn, hpn, hT, hR⟩ := hH
  have eP := cPx hP1 hP0
  have h2 : (I 3 2).toInt = (n : Int) := by
    rw [e2]
    exact oN (by omega)
  have h3 : (I 3 3).toInt = (p : Int) := by
    rw [e3]
    exact oN (by omega)
  rw [eP] at hK ⊢
  refine zpcF (M := (zh36, zc36)) 0 1000 rfl zckm36 (fun _ _ _ _ h => h) ?_
  by_cases hlt : p < n
  · have hs := hs hlt
    have ei : (I 3 3).toNatClampNeg = p := by rw [e3, ofN_cl (by omega)]
    have eb : ¬ (I 3 3 < 0 ∨ 700 ≤ (I 3 3).toNatClampNeg) := by
      rw [e3]
      exact ofN_ix (by omega) (by omega)
    have e31 : I 3 3 + Int32.ofInt 1 = Int32.ofNat (p + 1) := by
      rw [e3]
      exact ofN_add p 1
    have hb : (I 1 (I 3 3).toNatClampNeg).toInt = sb (T p) := by rw [ei, hT p (by omega)]
    have hr := hR p (by omega)
    have hs_ := sb_or (T p)
    by_cases a1 : sb (T p) < 48
    · skip
      refine zdecF (show ¬ I 3 2 ≤ I 3 3 from dlen (by rw [h2, h3] <;> omega)) (fun _ => ?_)
      refine zdecF eb (fun _ => ?_)
      refine zdecT (show I 1 (I 3 3).toNatClampNeg < Int32.ofInt 48 from dlt (by rw [hb, oI (by decide) (by decide)] <;> omega)) (fun _ => ?_)
      exact hK
    · skip
      refine zdecF (show ¬ I 3 2 ≤ I 3 3 from dlen (by rw [h2, h3] <;> omega)) (fun _ => ?_)
      refine zdecF eb (fun _ => ?_)
      refine zdecF (show ¬ I 1 (I 3 3).toNatClampNeg < Int32.ofInt 48 from dltn (by rw [hb, oI (by decide) (by decide)] <;> omega)) (fun _ => ?_)
      refine zdecF eb (fun _ => ?_)
      refine zdecT (show Int32.ofInt 57 < I 1 (I 3 3).toNatClampNeg from dlt (by rw [oI (by decide) (by decide), hb] <;> omega)) (fun _ => ?_)
      exact hK
  · skip
    refine zdecT (show I 3 2 ≤ I 3 3 from dle (by rw [h2, h3] <;> omega)) (fun _ => ?_)
    exact hK
