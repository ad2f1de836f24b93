/-! the reference's numbers and signs -/
/-- what a token leaves -/
def tkR (I : zHI) (Lg : zHL) (P : zHP) (nx k w pl : Int32) (r : Option Value) (h' : zH) : Prop := r = none ∧ h'.1 = zshM ∧ h'.2.2 = (Lg, P) ∧ h'.2.1 0 7 = nx ∧ h'.2.1 0 8 = k ∧ h'.2.1 0 9 = w ∧ h'.2.1 0 10 = pl ∧ ∀ q j, ¬ (q = 0 ∧ 7 ≤ j ∧ j ≤ 10) → h'.2.1 q j = I q j
set_option maxRecDepth 100000 in
set_option maxHeartbeats 4000000 in
theorem zkD {l : Launch} {Γ : zG} {d : Nat} {Kp : Option Value → zH → Prop} {I : zHI} {Lg : zHL} {P : zHP} {T : Nat → Int} {n p : Nat} (hH : tkH I P T n p) (hlt : p < n) (hs : 48 ≤ T p ∧ T p ≤ 57)
    (hX : zXt l Γ (d + 1) Kp 213 [] (zshM, zu2 (zu2 (zu2 I 0 10 (Int32.ofNat p)) 0 8 (Int32.ofInt 3)) 0 9 (Int32.ofInt 0), Lg, P)) : zXt l Γ (d + 1) Kp 52 [] (zshM, I, Lg, P) := by
  obtain ⟨hP, e6, e7, hn, hpn, hT⟩ := hH
  have ei : (I 0 7).toNatClampNeg = p := by rw [e7, ofN_cl (by omega)]
  have eb : ¬ (I 0 7 < 0 ∨ 700 ≤ (I 0 7).toNatClampNeg) := by
    rw [e7]
    exact ofN_ix (by omega) (by omega)
  have ht : (I 1 (I 0 7).toNatClampNeg).toInt = T p := by rw [ei, hT p (by omega)]
  have c6 : ¬ I 0 6 ≤ I 0 7 := by
    rw [e6, e7]
    exact dlen (by rw [oN (by omega), oN (by omega)]; omega)
  have eP := zPx hP
  have fin : zXt l Γ (d + 1) Kp 213 [] (zshM, zu2 (zu2 (zu2 I 0 10 (I 0 7)) 0 8 (Int32.ofInt 3)) 0 9 (Int32.ofInt 0), Lg, (fun a b => if a = 0 ∧ b = 0 then some 1 else P a b : zHP)) := by
    rw [← eP, e7]
    exact hX
  rw [eP]
  refine zpcF (M := (zh195, zc195)) 195 213 rfl zckm195 (fun _ _ _ _ h => h) ?_
  refine zdecF (show ¬ I 0 7 = I 0 6 from ?_) (fun _ => ?_)
  · rw [e6, e7]
    exact den (by rw [oN (by omega), oN (by omega)]; omega)
  refine zdecF c6 (fun _ => ?_)
  refine zdecF eb (fun _ => ?_)
  refine zdecT (show I 1 (I 0 7).toNatClampNeg < Int32.ofInt 97 from dlt (by rw [ht, oI (by decide) (by decide)]; omega)) (fun _ => ?_)
  refine zdecF c6 (fun _ => ?_)
  refine zdecF eb (fun _ => ?_)
  refine zdecF (show ¬ I 1 (I 0 7).toNatClampNeg < Int32.ofInt 48 from dltn (by rw [ht, oI (by decide) (by decide)]; omega)) (fun _ => ?_)
  refine zdecF eb (fun _ => ?_)
  refine zdecF (show ¬ Int32.ofInt 57 < I 1 (I 0 7).toNatClampNeg from dltn (by rw [ht, oI (by decide) (by decide)]; omega)) (fun _ => ?_)
  exact fin
/-- the end of the digits; their number, which need not grow beyond every bound -/
def tDg (T : Nat → Int) : Nat → Nat → Nat
  | 0, p => p
  | k + 1, p => if 48 ≤ T p ∧ T p ≤ 57 then tDg T k (p + 1) else p
def tNm (T : Nat → Int) : Nat → Nat → Int → Int
  | 0, _, a => a
  | k + 1, p, a => if 48 ≤ T p ∧ T p ≤ 57 then tNm T k (p + 1) (if a ≤ 99999 then 10 * a + T p - 48 else a) else a
set_option maxRecDepth 100000 in
set_option maxHeartbeats 4000000 in
theorem zkDi {l : Launch} {Γ : zG} {d : Nat} {Kp : Option Value → zH → Prop} {I : zHI} {Lg : zHL} {P : zHP} {T : Nat → Int} {n p : Nat} {a : Int} (hH : tkH I P T n p) (hlt : p < n) (hs : 48 ≤ T p ∧ T p ≤ 57) (e9 : I 0 9 = Int32.ofInt a) (ha : 0 ≤ a ∧ a ≤ 999999)
    (hX : zXt l Γ (d + 1) Kp 213 [] (zshM, zu2 (zu2 I 0 9 (Int32.ofInt (if a ≤ 99999 then 10 * a + T p - 48 else a))) 0 7 (Int32.ofNat (p + 1)), Lg, P)) : zXt l Γ (d + 1) Kp 213 [] (zshM, I, Lg, P) := by
  obtain ⟨hP, e6, e7, hn, hpn, hT⟩ := hH
  have ei : (I 0 7).toNatClampNeg = p := by rw [e7, ofN_cl (by omega)]
  have eb : ¬ (I 0 7 < 0 ∨ 700 ≤ (I 0 7).toNatClampNeg) := by
    rw [e7]
    exact ofN_ix (by omega) (by omega)
  have ht : (I 1 (I 0 7).toNatClampNeg).toInt = T p := by rw [ei, hT p (by omega)]
  have e1 : I 0 7 + Int32.ofInt 1 = Int32.ofNat (p + 1) := by
    rw [e7]
    exact ofN_add p 1
  have c6 : ¬ I 0 6 ≤ I 0 7 := by
    rw [e6, e7]
    exact dlen (by rw [oN (by omega), oN (by omega)]; omega)
  have eP := zPx hP
  have t9 : (I 0 9).toInt = a := by
    rw [e9]
    exact oI (by omega) (by omega)
  have fin : ∀ w : Int32, w.toInt = (if a ≤ 99999 then 10 * a + T p - 48 else a) → zXt l Γ (d + 1) Kp 213 [] (zshM, zu2 (zu2 I 0 9 w) 0 7 (I 0 7 + Int32.ofInt 1), Lg, (fun a b => if a = 0 ∧ b = 0 then some 1 else P a b : zHP)) := by
    intro w hw
    have ew : w = Int32.ofInt (if a ≤ 99999 then 10 * a + T p - 48 else a) := by rw [← hw, Int32.ofInt_toInt]
    rw [← eP, e1, ew]
    exact hX
  rw [eP]
  refine zpcF (M := (zh195, zc195)) 195 213 rfl zckm195 (fun _ _ _ _ h => h) ?_
  refine zdecF c6 (fun _ => ?_)
  refine zdecF eb (fun _ => ?_)
  refine zdecF (show ¬ I 1 (I 0 7).toNatClampNeg < Int32.ofInt 48 from dltn (by rw [ht, oI (by decide) (by decide)]; omega)) (fun _ => ?_)
  refine zdecF eb (fun _ => ?_)
  refine zdecF (show ¬ Int32.ofInt 57 < I 1 (I 0 7).toNatClampNeg from dltn (by rw [ht, oI (by decide) (by decide)]; omega)) (fun _ => ?_)
  by_cases hb : a ≤ 99999
  · refine zdecT (show I 0 9 ≤ Int32.ofInt 99999 from dle (by rw [t9, oI (by decide) (by decide)]; omega)) (fun _ => ?_)
    refine zdecF eb (fun _ => ?_)
    refine fin (Int32.ofInt 10 * I 0 9 + I 1 (I 0 7).toNatClampNeg - Int32.ofInt 48) ?_
    have b1 : (Int32.ofInt 10 * I 0 9).toInt = 10 * a := by
      rw [Int32.toInt_mul, t9, oI (by decide) (by decide)]
      exact s32r _ (by show (-2147483648 : Int) ≤ _; omega) (by show _ ≤ (2147483647 : Int); omega)
    have b2 : (Int32.ofInt 10 * I 0 9 + I 1 (I 0 7).toNatClampNeg).toInt = 10 * a + T p := by
      rw [Int32.toInt_add, b1, ht]
      exact s32r _ (by show (-2147483648 : Int) ≤ _; omega) (by show _ ≤ (2147483647 : Int); omega)
    rw [Int32.toInt_sub, b2, oI (by decide) (by decide), if_pos hb]
    exact s32r _ (by show (-2147483648 : Int) ≤ _; omega) (by show _ ≤ (2147483647 : Int); omega)
  · refine zdecF (show ¬ I 0 9 ≤ Int32.ofInt 99999 from dlen (by rw [t9, oI (by decide) (by decide)]; omega)) (fun _ => ?_)
    refine fin (I 0 9) ?_
    rw [t9, if_neg hb]
set_option maxRecDepth 100000 in
set_option maxHeartbeats 4000000 in
theorem zkDx {l : Launch} {Γ : zG} {d : Nat} {Kp : Option Value → zH → Prop} {I : zHI} {Lg : zHL} {P : zHP} {T : Nat → Int} {n p : Nat} (hH : tkH I P T n p) (hs : p < n → ¬ (48 ≤ T p ∧ T p ≤ 57))
    (hK : Kp none (zshM, I, Lg, P)) : zXt l Γ (d + 1) Kp 213 [] (zshM, I, Lg, P) := by
  obtain ⟨hP, e6, e7, hn, hpn, hT⟩ := hH
  have eP := zPx hP
  rw [eP] at hK ⊢
  refine zpcF (M := (zh195, zc195)) 195 1000 rfl zckm195 (fun _ _ _ _ h => h) ?_
  by_cases hlt : p < n
  · have ei : (I 0 7).toNatClampNeg = p := by rw [e7, ofN_cl (by omega)]
    have eb : ¬ (I 0 7 < 0 ∨ 700 ≤ (I 0 7).toNatClampNeg) := by
      rw [e7]
      exact ofN_ix (by omega) (by omega)
    have ht : (I 1 (I 0 7).toNatClampNeg).toInt = T p := by rw [ei, hT p (by omega)]
    have hs := hs hlt
    refine zdecF (show ¬ I 0 6 ≤ I 0 7 from ?_) (fun _ => ?_)
    · rw [e6, e7]
      exact dlen (by rw [oN (by omega), oN (by omega)]; omega)
    refine zdecF eb (fun _ => ?_)
    by_cases h97 : T p < 48
    · refine zdecT (show I 1 (I 0 7).toNatClampNeg < Int32.ofInt 48 from dlt (by rw [ht, oI (by decide) (by decide)]; omega)) (fun _ => ?_)
      exact hK
    · refine zdecF (show ¬ I 1 (I 0 7).toNatClampNeg < Int32.ofInt 48 from dltn (by rw [ht, oI (by decide) (by decide)]; omega)) (fun _ => ?_)
      refine zdecF eb (fun _ => ?_)
      refine zdecT (show Int32.ofInt 57 < I 1 (I 0 7).toNatClampNeg from dlt (by rw [ht, oI (by decide) (by decide)]; omega)) (fun _ => ?_)
      exact hK
  · refine zdecT (show I 0 6 ≤ I 0 7 from ?_) (fun _ => ?_)
    · rw [e6, e7]
      exact dle (by rw [oN (by omega), oN (by omega)]; omega)
    exact hK
theorem tNm_bd (T : Nat → Int) : ∀ k p a, 0 ≤ a → a ≤ 999999 → 0 ≤ tNm T k p a ∧ tNm T k p a ≤ 999999
  | 0, _, _, h0, h1 => ⟨h0, h1⟩
  | k + 1, p, a, h0, h1 => by
    simp only [tNm]
    split
    · rename_i hc
      refine tNm_bd T k (p + 1) _ ?_ ?_ <;> (split <;> omega)
    · exact ⟨h0, h1⟩
theorem zkDg {l : Launch} {Γ : zG} {d : Nat} {Kp : Option Value → zH → Prop} {Lg : zHL} {P : zHP} {T : Nat → Int} {n : Nat} (k : Nat) : ∀ (p : Nat) (a : Int) (I : zHI), p + k = n → tkH I P T n p → I 0 9 = Int32.ofInt a → 0 ≤ a → a ≤ 999999 → (∀ I' : zHI, I' 0 7 = Int32.ofNat (tDg T k p) → I' 0 9 = Int32.ofInt (tNm T k p a) → (∀ q j, ¬ (q = 0 ∧ (j = 7 ∨ j = 9)) → I' q j = I q j) → Kp none (zshM, I', Lg, P)) → zXt l Γ (d + 1) Kp 213 [] (zshM, I, Lg, P) := by
  induction k with
  | zero =>
    intro p a I hk hH e9 h0 h1 hK
    exact zkDx hH (fun h => absurd h (by omega)) (hK I hH.2.2.1 e9 (fun _ _ _ => rfl))
  | succ k ih =>
    intro p a I hk hH e9 h0 h1 hK
    by_cases hs : 48 ≤ T p ∧ T p ≤ 57
    · have e : tDg T (k + 1) p = tDg T k (p + 1) := by
        simp only [tDg]
        rw [if_pos hs]
      have e' : tNm T (k + 1) p a = tNm T k (p + 1) (if a ≤ 99999 then 10 * a + T p - 48 else a) := by
        simp only [tNm]
        rw [if_pos hs]
      rw [e, e'] at hK
      have hH2 : tkH (zu2 I 0 9 (Int32.ofInt (if a ≤ 99999 then 10 * a + T p - 48 else a))) P T n p := ⟨hH.1, (zu2_off (by decide)).trans hH.2.1, (zu2_off (by decide)).trans hH.2.2.1, hH.2.2.2.1, hH.2.2.2.2.1, fun j hj => by
        rw [zu2_off (by omega)]
        exact hH.2.2.2.2.2 j hj⟩
      refine zkDi hH (by omega) hs e9 ⟨h0, h1⟩ (ih (p + 1) _ _ (by omega) (hH2.nx (by omega)) ((zu2_off (by decide)).trans zu2_at) ?_ ?_ (fun I' a1 a2 a3 => hK I' a1 a2 (fun q j hq => ?_)))
      · split <;> omega
      · split <;> omega
      · rw [a3 q j hq, zu2_off (by omega), zu2_off (by omega)]
    · have e : tDg T (k + 1) p = p := by
        simp only [tDg]
        rw [if_neg hs]
      have e' : tNm T (k + 1) p a = a := by
        simp only [tNm]
        rw [if_neg hs]
      rw [e, e'] at hK
      exact zkDx hH (fun _ => hs) (hK I hH.2.2.1 e9 (fun _ _ _ => rfl))
