/-! the class's signs -/
def csRel (c c2 : Int) (N : Nat) (k : Int) : Prop := (c = 61 ∧ N = 1 ∧ k = 37) ∨ (c = 60 ∧ c2 = 61 ∧ N = 2 ∧ k = 36) ∨ (c = 60 ∧ c2 = 62 ∧ N = 2 ∧ k = 38) ∨ (c = 60 ∧ c2 ≠ 61 ∧ c2 ≠ 62 ∧ N = 1 ∧ k = 35) ∨ (c = 62 ∧ c2 = 61 ∧ N = 2 ∧ k = 39) ∨ (c = 62 ∧ c2 ≠ 61 ∧ N = 1 ∧ k = 40) ∨ (N = 1 ∧ ((c = 59 ∧ k = 4) ∨ (c = 40 ∧ k = 5) ∨ (c = 41 ∧ k = 6) ∨ (c = 43 ∧ k = 31) ∨ (c = 45 ∧ k = 32) ∨ (c = 42 ∧ k = 33) ∨ (c = 47 ∧ k = 34))) ∨ (c ≠ 59 ∧ c ≠ 40 ∧ c ≠ 41 ∧ c ≠ 43 ∧ c ≠ 45 ∧ c ≠ 42 ∧ c ≠ 47 ∧ c ≠ 60 ∧ c ≠ 61 ∧ c ≠ 62 ∧ N = 1 ∧ k = 1)
set_option maxRecDepth 100000 in
set_option maxHeartbeats 4000000 in
theorem ckS {l : Launch} {Γ : zG} {d : Nat} {Kp : Option Value → zH → Prop} {I : zHI} {Lg : zHL} {P : zHP} {T : Nat → Int} {n p : Nat} (hH : cH I P T n p) (hlt : p < n) (hnd : ¬ (48 ≤ T p ∧ T p ≤ 57))
    (hK : ∀ (I' : zHI) (N : Nat) (k : Int), csRel (T p) (if p + 1 < n then T (p + 1) else 0) N k → (N = 2 → p + 1 < n) → I' 3 3 = Int32.ofNat (p + N) → I' 3 4 = Int32.ofInt k → (∀ q j, ¬ (q = 3 ∧ 3 ≤ j ∧ j ≤ 4) → I' q j = I q j) → Kp none (zshC, I', Lg, P)) : zSem l Γ false (d + 2) (zhd 37) [.ref 3] ((zshC, I, Lg, P) : zH) Kp := by
  show zSem l Γ false (d + 1 + 1) zh37 _ _ _
  obtain ⟨hP1, hP0, e2, e3, hn, hpn, hT, hR⟩ := hH
  have eP := cPx hP1 hP0
  have h2 : (I 3 2).toInt = (n : Int) := by
    rw [e2]
    exact oN (by omega)
  have h3 : (I 3 3).toInt = (p : Int) := by
    rw [e3]
    exact oN (by omega)
  have ei : (I 3 3).toNatClampNeg = p := by rw [e3, ofN_cl (by omega)]
  have eb : ¬ (I 3 3 < 0 ∨ 700 ≤ (I 3 3).toNatClampNeg) := by
    rw [e3]
    exact ofN_ix (by omega) (by omega)
  have e31 : I 3 3 + Int32.ofInt 1 = Int32.ofNat (p + 1) := by
    rw [e3]
    exact ofN_add p 1
  have hb : (I 1 (I 3 3).toNatClampNeg).toInt = sb (T p) := by rw [ei, hT p (by omega)]
  have hr := hR p (by omega)
  have hs_ := sb_or (T p)
  have e32 : I 3 3 + Int32.ofInt 1 + Int32.ofInt 1 = Int32.ofNat (p + 2) := by
    rw [e31]
    exact ofN_add (p + 1) 1
  have h31 : (I 3 3 + Int32.ofInt 1).toInt = (p : Int) + 1 := by
    rw [e31, oN (by omega)]
    omega
  rw [eP] at hK ⊢
  refine zbody (by decide +kernel) (by decide) ?_
  show zX l Γ false (d + 1 + 1) zh37 (zMQ' Γ false zh37 Kp) 0 0 0 [(0, .ref 3)] [] _
  refine zpcF (M := (zh37, zc37)) 0 1000 rfl zckm37 (fun _ _ _ _ h => h) ?_
  by_cases c61 : T p = 61
  · skip
    by_cases hm : p + 1 < n
    · have eb2 : ¬ (I 3 3 + Int32.ofInt 1 < 0 ∨ 700 ≤ (I 3 3 + Int32.ofInt 1).toNatClampNeg) := by
        rw [e31]
        exact ofN_ix (by omega) (by omega)
      have hb2 : (I 1 (I 3 3 + Int32.ofInt 1).toNatClampNeg).toInt = sb (T (p + 1)) := by rw [e31, ofN_cl (by omega), hT (p + 1) (by omega)]
      have hr2 := hR (p + 1) (by omega)
      have hs2 := sb_or (T (p + 1))
      refine zdecT (show I 3 3 < I 3 2 from dlt (by rw [h3, h2] <;> omega)) (fun _ => ?_)
      refine zdecF eb (fun _ => ?_)
      refine zdecF (show ¬ I 1 (I 3 3).toNatClampNeg = Int32.ofNat 40 from den (by rw [hb, Int32.toInt_ofNat_of_lt (by decide)] <;> omega)) (fun _ => ?_)
      refine zdecF (show ¬ I 1 (I 3 3).toNatClampNeg = Int32.ofNat 41 from den (by rw [hb, Int32.toInt_ofNat_of_lt (by decide)] <;> omega)) (fun _ => ?_)
      refine zdecF (show ¬ I 1 (I 3 3).toNatClampNeg = Int32.ofNat 42 from den (by rw [hb, Int32.toInt_ofNat_of_lt (by decide)] <;> omega)) (fun _ => ?_)
      refine zdecF (show ¬ I 1 (I 3 3).toNatClampNeg = Int32.ofNat 43 from den (by rw [hb, Int32.toInt_ofNat_of_lt (by decide)] <;> omega)) (fun _ => ?_)
      refine zdecF (show ¬ I 1 (I 3 3).toNatClampNeg = Int32.ofNat 44 from den (by rw [hb, Int32.toInt_ofNat_of_lt (by decide)] <;> omega)) (fun _ => ?_)
      refine zdecF (show ¬ I 1 (I 3 3).toNatClampNeg = Int32.ofNat 45 from den (by rw [hb, Int32.toInt_ofNat_of_lt (by decide)] <;> omega)) (fun _ => ?_)
      refine zdecF (show ¬ I 1 (I 3 3).toNatClampNeg = Int32.ofNat 46 from den (by rw [hb, Int32.toInt_ofNat_of_lt (by decide)] <;> omega)) (fun _ => ?_)
      refine zdecF (show ¬ I 1 (I 3 3).toNatClampNeg = Int32.ofNat 47 from den (by rw [hb, Int32.toInt_ofNat_of_lt (by decide)] <;> omega)) (fun _ => ?_)
      refine zdecF (show ¬ I 1 (I 3 3).toNatClampNeg = Int32.ofNat 48 from den (by rw [hb, Int32.toInt_ofNat_of_lt (by decide)] <;> omega)) (fun _ => ?_)
      refine zdecF (show ¬ I 1 (I 3 3).toNatClampNeg = Int32.ofNat 49 from den (by rw [hb, Int32.toInt_ofNat_of_lt (by decide)] <;> omega)) (fun _ => ?_)
      refine zdecF (show ¬ I 1 (I 3 3).toNatClampNeg = Int32.ofNat 50 from den (by rw [hb, Int32.toInt_ofNat_of_lt (by decide)] <;> omega)) (fun _ => ?_)
      refine zdecF (show ¬ I 1 (I 3 3).toNatClampNeg = Int32.ofNat 51 from den (by rw [hb, Int32.toInt_ofNat_of_lt (by decide)] <;> omega)) (fun _ => ?_)
      refine zdecF (show ¬ I 1 (I 3 3).toNatClampNeg = Int32.ofNat 52 from den (by rw [hb, Int32.toInt_ofNat_of_lt (by decide)] <;> omega)) (fun _ => ?_)
      refine zdecF (show ¬ I 1 (I 3 3).toNatClampNeg = Int32.ofNat 53 from den (by rw [hb, Int32.toInt_ofNat_of_lt (by decide)] <;> omega)) (fun _ => ?_)
      refine zdecF (show ¬ I 1 (I 3 3).toNatClampNeg = Int32.ofNat 54 from den (by rw [hb, Int32.toInt_ofNat_of_lt (by decide)] <;> omega)) (fun _ => ?_)
      refine zdecF (show ¬ I 1 (I 3 3).toNatClampNeg = Int32.ofNat 55 from den (by rw [hb, Int32.toInt_ofNat_of_lt (by decide)] <;> omega)) (fun _ => ?_)
      refine zdecF (show ¬ I 1 (I 3 3).toNatClampNeg = Int32.ofNat 56 from den (by rw [hb, Int32.toInt_ofNat_of_lt (by decide)] <;> omega)) (fun _ => ?_)
      refine zdecF (show ¬ I 1 (I 3 3).toNatClampNeg = Int32.ofNat 57 from den (by rw [hb, Int32.toInt_ofNat_of_lt (by decide)] <;> omega)) (fun _ => ?_)
      refine zdecF (show ¬ I 1 (I 3 3).toNatClampNeg = Int32.ofNat 58 from den (by rw [hb, Int32.toInt_ofNat_of_lt (by decide)] <;> omega)) (fun _ => ?_)
      refine zdecF (show ¬ I 1 (I 3 3).toNatClampNeg = Int32.ofNat 59 from den (by rw [hb, Int32.toInt_ofNat_of_lt (by decide)] <;> omega)) (fun _ => ?_)
      refine zdecF (show ¬ I 1 (I 3 3).toNatClampNeg = Int32.ofNat 60 from den (by rw [hb, Int32.toInt_ofNat_of_lt (by decide)] <;> omega)) (fun _ => ?_)
      refine zdecT (show I 1 (I 3 3).toNatClampNeg = Int32.ofNat 61 from deq (by rw [hb, Int32.toInt_ofNat_of_lt (by decide)] <;> omega)) (fun _ => ?_)
      refine zdecT (show I 3 3 + Int32.ofInt 1 < I 3 2 from dlt (by rw [h31, h2] <;> omega)) (fun _ => ?_)
      refine hK _ 1 37 (Or.inl (⟨c61, rfl, rfl⟩)) (fun _ => by omega) ?_ ?_ (fun q j hq => ?_)
      · exact e31
      · first | rfl | decide
      · repeat (first | rw [zu2_off (by omega)] | rw [zsI_off (by omega)])
    · skip
      refine zdecT (show I 3 3 < I 3 2 from dlt (by rw [h3, h2] <;> omega)) (fun _ => ?_)
      refine zdecF eb (fun _ => ?_)
      refine zdecF (show ¬ I 1 (I 3 3).toNatClampNeg = Int32.ofNat 40 from den (by rw [hb, Int32.toInt_ofNat_of_lt (by decide)] <;> omega)) (fun _ => ?_)
      refine zdecF (show ¬ I 1 (I 3 3).toNatClampNeg = Int32.ofNat 41 from den (by rw [hb, Int32.toInt_ofNat_of_lt (by decide)] <;> omega)) (fun _ => ?_)
      refine zdecF (show ¬ I 1 (I 3 3).toNatClampNeg = Int32.ofNat 42 from den (by rw [hb, Int32.toInt_ofNat_of_lt (by decide)] <;> omega)) (fun _ => ?_)
      refine zdecF (show ¬ I 1 (I 3 3).toNatClampNeg = Int32.ofNat 43 from den (by rw [hb, Int32.toInt_ofNat_of_lt (by decide)] <;> omega)) (fun _ => ?_)
      refine zdecF (show ¬ I 1 (I 3 3).toNatClampNeg = Int32.ofNat 44 from den (by rw [hb, Int32.toInt_ofNat_of_lt (by decide)] <;> omega)) (fun _ => ?_)
      refine zdecF (show ¬ I 1 (I 3 3).toNatClampNeg = Int32.ofNat 45 from den (by rw [hb, Int32.toInt_ofNat_of_lt (by decide)] <;> omega)) (fun _ => ?_)
      refine zdecF (show ¬ I 1 (I 3 3).toNatClampNeg = Int32.ofNat 46 from den (by rw [hb, Int32.toInt_ofNat_of_lt (by decide)] <;> omega)) (fun _ => ?_)
      refine zdecF (show ¬ I 1 (I 3 3).toNatClampNeg = Int32.ofNat 47 from den (by rw [hb, Int32.toInt_ofNat_of_lt (by decide)] <;> omega)) (fun _ => ?_)
      refine zdecF (show ¬ I 1 (I 3 3).toNatClampNeg = Int32.ofNat 48 from den (by rw [hb, Int32.toInt_ofNat_of_lt (by decide)] <;> omega)) (fun _ => ?_)
      refine zdecF (show ¬ I 1 (I 3 3).toNatClampNeg = Int32.ofNat 49 from den (by rw [hb, Int32.toInt_ofNat_of_lt (by decide)] <;> omega)) (fun _ => ?_)
      refine zdecF (show ¬ I 1 (I 3 3).toNatClampNeg = Int32.ofNat 50 from den (by rw [hb, Int32.toInt_ofNat_of_lt (by decide)] <;> omega)) (fun _ => ?_)
      refine zdecF (show ¬ I 1 (I 3 3).toNatClampNeg = Int32.ofNat 51 from den (by rw [hb, Int32.toInt_ofNat_of_lt (by decide)] <;> omega)) (fun _ => ?_)
      refine zdecF (show ¬ I 1 (I 3 3).toNatClampNeg = Int32.ofNat 52 from den (by rw [hb, Int32.toInt_ofNat_of_lt (by decide)] <;> omega)) (fun _ => ?_)
      refine zdecF (show ¬ I 1 (I 3 3).toNatClampNeg = Int32.ofNat 53 from den (by rw [hb, Int32.toInt_ofNat_of_lt (by decide)] <;> omega)) (fun _ => ?_)
      refine zdecF (show ¬ I 1 (I 3 3).toNatClampNeg = Int32.ofNat 54 from den (by rw [hb, Int32.toInt_ofNat_of_lt (by decide)] <;> omega)) (fun _ => ?_)
      refine zdecF (show ¬ I 1 (I 3 3).toNatClampNeg = Int32.ofNat 55 from den (by rw [hb, Int32.toInt_ofNat_of_lt (by decide)] <;> omega)) (fun _ => ?_)
      refine zdecF (show ¬ I 1 (I 3 3).toNatClampNeg = Int32.ofNat 56 from den (by rw [hb, Int32.toInt_ofNat_of_lt (by decide)] <;> omega)) (fun _ => ?_)
      refine zdecF (show ¬ I 1 (I 3 3).toNatClampNeg = Int32.ofNat 57 from den (by rw [hb, Int32.toInt_ofNat_of_lt (by decide)] <;> omega)) (fun _ => ?_)
      refine zdecF (show ¬ I 1 (I 3 3).toNatClampNeg = Int32.ofNat 58 from den (by rw [hb, Int32.toInt_ofNat_of_lt (by decide)] <;> omega)) (fun _ => ?_)
      refine zdecF (show ¬ I 1 (I 3 3).toNatClampNeg = Int32.ofNat 59 from den (by rw [hb, Int32.toInt_ofNat_of_lt (by decide)] <;> omega)) (fun _ => ?_)
      refine zdecF (show ¬ I 1 (I 3 3).toNatClampNeg = Int32.ofNat 60 from den (by rw [hb, Int32.toInt_ofNat_of_lt (by decide)] <;> omega)) (fun _ => ?_)
      refine zdecT (show I 1 (I 3 3).toNatClampNeg = Int32.ofNat 61 from deq (by rw [hb, Int32.toInt_ofNat_of_lt (by decide)] <;> omega)) (fun _ => ?_)
      refine zdecF (show ¬ I 3 3 + Int32.ofInt 1 < I 3 2 from dltn (by rw [h31, h2] <;> omega)) (fun _ => ?_)
      refine hK _ 1 37 (Or.inl (⟨c61, rfl, rfl⟩)) (fun _ => by omega) ?_ ?_ (fun q j hq => ?_)
      · exact e31
      · first | rfl | decide
      · repeat (first | rw [zu2_off (by omega)] | rw [zsI_off (by omega)])
  by_cases c60 : T p = 60
  · skip
    by_cases hm : p + 1 < n
    · have eb2 : ¬ (I 3 3 + Int32.ofInt 1 < 0 ∨ 700 ≤ (I 3 3 + Int32.ofInt 1).toNatClampNeg) := by
        rw [e31]
        exact ofN_ix (by omega) (by omega)
      have hb2 : (I 1 (I 3 3 + Int32.ofInt 1).toNatClampNeg).toInt = sb (T (p + 1)) := by rw [e31, ofN_cl (by omega), hT (p + 1) (by omega)]
      have hr2 := hR (p + 1) (by omega)
      have hs2 := sb_or (T (p + 1))
      by_cases d61 : T (p + 1) = 61
      · skip
        refine zdecT (show I 3 3 < I 3 2 from dlt (by rw [h3, h2] <;> omega)) (fun _ => ?_)
        refine zdecF eb (fun _ => ?_)
        refine zdecF (show ¬ I 1 (I 3 3).toNatClampNeg = Int32.ofNat 40 from den (by rw [hb, Int32.toInt_ofNat_of_lt (by decide)] <;> omega)) (fun _ => ?_)
        refine zdecF (show ¬ I 1 (I 3 3).toNatClampNeg = Int32.ofNat 41 from den (by rw [hb, Int32.toInt_ofNat_of_lt (by decide)] <;> omega)) (fun _ => ?_)
        refine zdecF (show ¬ I 1 (I 3 3).toNatClampNeg = Int32.ofNat 42 from den (by rw [hb, Int32.toInt_ofNat_of_lt (by decide)] <;> omega)) (fun _ => ?_)
        refine zdecF (show ¬ I 1 (I 3 3).toNatClampNeg = Int32.ofNat 43 from den (by rw [hb, Int32.toInt_ofNat_of_lt (by decide)] <;> omega)) (fun _ => ?_)
        refine zdecF (show ¬ I 1 (I 3 3).toNatClampNeg = Int32.ofNat 44 from den (by rw [hb, Int32.toInt_ofNat_of_lt (by decide)] <;> omega)) (fun _ => ?_)
        refine zdecF (show ¬ I 1 (I 3 3).toNatClampNeg = Int32.ofNat 45 from den (by rw [hb, Int32.toInt_ofNat_of_lt (by decide)] <;> omega)) (fun _ => ?_)
        refine zdecF (show ¬ I 1 (I 3 3).toNatClampNeg = Int32.ofNat 46 from den (by rw [hb, Int32.toInt_ofNat_of_lt (by decide)] <;> omega)) (fun _ => ?_)
        refine zdecF (show ¬ I 1 (I 3 3).toNatClampNeg = Int32.ofNat 47 from den (by rw [hb, Int32.toInt_ofNat_of_lt (by decide)] <;> omega)) (fun _ => ?_)
        refine zdecF (show ¬ I 1 (I 3 3).toNatClampNeg = Int32.ofNat 48 from den (by rw [hb, Int32.toInt_ofNat_of_lt (by decide)] <;> omega)) (fun _ => ?_)
        refine zdecF (show ¬ I 1 (I 3 3).toNatClampNeg = Int32.ofNat 49 from den (by rw [hb, Int32.toInt_ofNat_of_lt (by decide)] <;> omega)) (fun _ => ?_)
        refine zdecF (show ¬ I 1 (I 3 3).toNatClampNeg = Int32.ofNat 50 from den (by rw [hb, Int32.toInt_ofNat_of_lt (by decide)] <;> omega)) (fun _ => ?_)
        refine zdecF (show ¬ I 1 (I 3 3).toNatClampNeg = Int32.ofNat 51 from den (by rw [hb, Int32.toInt_ofNat_of_lt (by decide)] <;> omega)) (fun _ => ?_)
        refine zdecF (show ¬ I 1 (I 3 3).toNatClampNeg = Int32.ofNat 52 from den (by rw [hb, Int32.toInt_ofNat_of_lt (by decide)] <;> omega)) (fun _ => ?_)
        refine zdecF (show ¬ I 1 (I 3 3).toNatClampNeg = Int32.ofNat 53 from den (by rw [hb, Int32.toInt_ofNat_of_lt (by decide)] <;> omega)) (fun _ => ?_)
        refine zdecF (show ¬ I 1 (I 3 3).toNatClampNeg = Int32.ofNat 54 from den (by rw [hb, Int32.toInt_ofNat_of_lt (by decide)] <;> omega)) (fun _ => ?_)
        refine zdecF (show ¬ I 1 (I 3 3).toNatClampNeg = Int32.ofNat 55 from den (by rw [hb, Int32.toInt_ofNat_of_lt (by decide)] <;> omega)) (fun _ => ?_)
        refine zdecF (show ¬ I 1 (I 3 3).toNatClampNeg = Int32.ofNat 56 from den (by rw [hb, Int32.toInt_ofNat_of_lt (by decide)] <;> omega)) (fun _ => ?_)
        refine zdecF (show ¬ I 1 (I 3 3).toNatClampNeg = Int32.ofNat 57 from den (by rw [hb, Int32.toInt_ofNat_of_lt (by decide)] <;> omega)) (fun _ => ?_)
        refine zdecF (show ¬ I 1 (I 3 3).toNatClampNeg = Int32.ofNat 58 from den (by rw [hb, Int32.toInt_ofNat_of_lt (by decide)] <;> omega)) (fun _ => ?_)
        refine zdecF (show ¬ I 1 (I 3 3).toNatClampNeg = Int32.ofNat 59 from den (by rw [hb, Int32.toInt_ofNat_of_lt (by decide)] <;> omega)) (fun _ => ?_)
        refine zdecT (show I 1 (I 3 3).toNatClampNeg = Int32.ofNat 60 from deq (by rw [hb, Int32.toInt_ofNat_of_lt (by decide)] <;> omega)) (fun _ => ?_)
        refine zdecT (show I 3 3 + Int32.ofInt 1 < I 3 2 from dlt (by rw [h31, h2] <;> omega)) (fun _ => ?_)
        refine zdecF eb2 (fun _ => ?_)
        refine zdecF (show ¬ I 1 (I 3 3 + Int32.ofInt 1).toNatClampNeg = Int32.ofInt 62 from den (by rw [hb2, oI (by decide) (by decide)] <;> omega)) (fun _ => ?_)
        refine zdecF eb2 (fun _ => ?_)
        refine zdecT (show I 1 (I 3 3 + Int32.ofInt 1).toNatClampNeg = Int32.ofInt 61 from deq (by rw [hb2, oI (by decide) (by decide)] <;> omega)) (fun _ => ?_)
        refine hK _ 2 36 (Or.inr (Or.inl (⟨c60, by rw [if_pos hm]; exact d61, rfl, rfl⟩))) (fun _ => by omega) ?_ ?_ (fun q j hq => ?_)
        · exact e32
        · first | rfl | decide
        · repeat (first | rw [zu2_off (by omega)] | rw [zsI_off (by omega)])
      by_cases d62 : T (p + 1) = 62
      · skip
        refine zdecT (show I 3 3 < I 3 2 from dlt (by rw [h3, h2] <;> omega)) (fun _ => ?_)
        refine zdecF eb (fun _ => ?_)
        refine zdecF (show ¬ I 1 (I 3 3).toNatClampNeg = Int32.ofNat 40 from den (by rw [hb, Int32.toInt_ofNat_of_lt (by decide)] <;> omega)) (fun _ => ?_)
        refine zdecF (show ¬ I 1 (I 3 3).toNatClampNeg = Int32.ofNat 41 from den (by rw [hb, Int32.toInt_ofNat_of_lt (by decide)] <;> omega)) (fun _ => ?_)
        refine zdecF (show ¬ I 1 (I 3 3).toNatClampNeg = Int32.ofNat 42 from den (by rw [hb, Int32.toInt_ofNat_of_lt (by decide)] <;> omega)) (fun _ => ?_)
        refine zdecF (show ¬ I 1 (I 3 3).toNatClampNeg = Int32.ofNat 43 from den (by rw [hb, Int32.toInt_ofNat_of_lt (by decide)] <;> omega)) (fun _ => ?_)
        refine zdecF (show ¬ I 1 (I 3 3).toNatClampNeg = Int32.ofNat 44 from den (by rw [hb, Int32.toInt_ofNat_of_lt (by decide)] <;> omega)) (fun _ => ?_)
        refine zdecF (show ¬ I 1 (I 3 3).toNatClampNeg = Int32.ofNat 45 from den (by rw [hb, Int32.toInt_ofNat_of_lt (by decide)] <;> omega)) (fun _ => ?_)
        refine zdecF (show ¬ I 1 (I 3 3).toNatClampNeg = Int32.ofNat 46 from den (by rw [hb, Int32.toInt_ofNat_of_lt (by decide)] <;> omega)) (fun _ => ?_)
        refine zdecF (show ¬ I 1 (I 3 3).toNatClampNeg = Int32.ofNat 47 from den (by rw [hb, Int32.toInt_ofNat_of_lt (by decide)] <;> omega)) (fun _ => ?_)
        refine zdecF (show ¬ I 1 (I 3 3).toNatClampNeg = Int32.ofNat 48 from den (by rw [hb, Int32.toInt_ofNat_of_lt (by decide)] <;> omega)) (fun _ => ?_)
        refine zdecF (show ¬ I 1 (I 3 3).toNatClampNeg = Int32.ofNat 49 from den (by rw [hb, Int32.toInt_ofNat_of_lt (by decide)] <;> omega)) (fun _ => ?_)
        refine zdecF (show ¬ I 1 (I 3 3).toNatClampNeg = Int32.ofNat 50 from den (by rw [hb, Int32.toInt_ofNat_of_lt (by decide)] <;> omega)) (fun _ => ?_)
        refine zdecF (show ¬ I 1 (I 3 3).toNatClampNeg = Int32.ofNat 51 from den (by rw [hb, Int32.toInt_ofNat_of_lt (by decide)] <;> omega)) (fun _ => ?_)
        refine zdecF (show ¬ I 1 (I 3 3).toNatClampNeg = Int32.ofNat 52 from den (by rw [hb, Int32.toInt_ofNat_of_lt (by decide)] <;> omega)) (fun _ => ?_)
        refine zdecF (show ¬ I 1 (I 3 3).toNatClampNeg = Int32.ofNat 53 from den (by rw [hb, Int32.toInt_ofNat_of_lt (by decide)] <;> omega)) (fun _ => ?_)
        refine zdecF (show ¬ I 1 (I 3 3).toNatClampNeg = Int32.ofNat 54 from den (by rw [hb, Int32.toInt_ofNat_of_lt (by decide)] <;> omega)) (fun _ => ?_)
        refine zdecF (show ¬ I 1 (I 3 3).toNatClampNeg = Int32.ofNat 55 from den (by rw [hb, Int32.toInt_ofNat_of_lt (by decide)] <;> omega)) (fun _ => ?_)
        refine zdecF (show ¬ I 1 (I 3 3).toNatClampNeg = Int32.ofNat 56 from den (by rw [hb, Int32.toInt_ofNat_of_lt (by decide)] <;> omega)) (fun _ => ?_)
        refine zdecF (show ¬ I 1 (I 3 3).toNatClampNeg = Int32.ofNat 57 from den (by rw [hb, Int32.toInt_ofNat_of_lt (by decide)] <;> omega)) (fun _ => ?_)
        refine zdecF (show ¬ I 1 (I 3 3).toNatClampNeg = Int32.ofNat 58 from den (by rw [hb, Int32.toInt_ofNat_of_lt (by decide)] <;> omega)) (fun _ => ?_)
        refine zdecF (show ¬ I 1 (I 3 3).toNatClampNeg = Int32.ofNat 59 from den (by rw [hb, Int32.toInt_ofNat_of_lt (by decide)] <;> omega)) (fun _ => ?_)
        refine zdecT (show I 1 (I 3 3).toNatClampNeg = Int32.ofNat 60 from deq (by rw [hb, Int32.toInt_ofNat_of_lt (by decide)] <;> omega)) (fun _ => ?_)
        refine zdecT (show I 3 3 + Int32.ofInt 1 < I 3 2 from dlt (by rw [h31, h2] <;> omega)) (fun _ => ?_)
        refine zdecF eb2 (fun _ => ?_)
        refine zdecT (show I 1 (I 3 3 + Int32.ofInt 1).toNatClampNeg = Int32.ofInt 62 from deq (by rw [hb2, oI (by decide) (by decide)] <;> omega)) (fun _ => ?_)
        refine hK _ 2 38 (Or.inr (Or.inr (Or.inl (⟨c60, by rw [if_pos hm]; exact d62, rfl, rfl⟩)))) (fun _ => by omega) ?_ ?_ (fun q j hq => ?_)
        · exact e32
        · first | rfl | decide
        · repeat (first | rw [zu2_off (by omega)] | rw [zsI_off (by omega)])
      refine zdecT (show I 3 3 < I 3 2 from dlt (by rw [h3, h2] <;> omega)) (fun _ => ?_)
      refine zdecF eb (fun _ => ?_)
      refine zdecF (show ¬ I 1 (I 3 3).toNatClampNeg = Int32.ofNat 40 from den (by rw [hb, Int32.toInt_ofNat_of_lt (by decide)] <;> omega)) (fun _ => ?_)
      refine zdecF (show ¬ I 1 (I 3 3).toNatClampNeg = Int32.ofNat 41 from den (by rw [hb, Int32.toInt_ofNat_of_lt (by decide)] <;> omega)) (fun _ => ?_)
      refine zdecF (show ¬ I 1 (I 3 3).toNatClampNeg = Int32.ofNat 42 from den (by rw [hb, Int32.toInt_ofNat_of_lt (by decide)] <;> omega)) (fun _ => ?_)
      refine zdecF (show ¬ I 1 (I 3 3).toNatClampNeg = Int32.ofNat 43 from den (by rw [hb, Int32.toInt_ofNat_of_lt (by decide)] <;> omega)) (fun _ => ?_)
      refine zdecF (show ¬ I 1 (I 3 3).toNatClampNeg = Int32.ofNat 44 from den (by rw [hb, Int32.toInt_ofNat_of_lt (by decide)] <;> omega)) (fun _ => ?_)
      refine zdecF (show ¬ I 1 (I 3 3).toNatClampNeg = Int32.ofNat 45 from den (by rw [hb, Int32.toInt_ofNat_of_lt (by decide)] <;> omega)) (fun _ => ?_)
      refine zdecF (show ¬ I 1 (I 3 3).toNatClampNeg = Int32.ofNat 46 from den (by rw [hb, Int32.toInt_ofNat_of_lt (by decide)] <;> omega)) (fun _ => ?_)
      refine zdecF (show ¬ I 1 (I 3 3).toNatClampNeg = Int32.ofNat 47 from den (by rw [hb, Int32.toInt_ofNat_of_lt (by decide)] <;> omega)) (fun _ => ?_)
      refine zdecF (show ¬ I 1 (I 3 3).toNatClampNeg = Int32.ofNat 48 from den (by rw [hb, Int32.toInt_ofNat_of_lt (by decide)] <;> omega)) (fun _ => ?_)
      refine zdecF (show ¬ I 1 (I 3 3).toNatClampNeg = Int32.ofNat 49 from den (by rw [hb, Int32.toInt_ofNat_of_lt (by decide)] <;> omega)) (fun _ => ?_)
      refine zdecF (show ¬ I 1 (I 3 3).toNatClampNeg = Int32.ofNat 50 from den (by rw [hb, Int32.toInt_ofNat_of_lt (by decide)] <;> omega)) (fun _ => ?_)
      refine zdecF (show ¬ I 1 (I 3 3).toNatClampNeg = Int32.ofNat 51 from den (by rw [hb, Int32.toInt_ofNat_of_lt (by decide)] <;> omega)) (fun _ => ?_)
      refine zdecF (show ¬ I 1 (I 3 3).toNatClampNeg = Int32.ofNat 52 from den (by rw [hb, Int32.toInt_ofNat_of_lt (by decide)] <;> omega)) (fun _ => ?_)
      refine zdecF (show ¬ I 1 (I 3 3).toNatClampNeg = Int32.ofNat 53 from den (by rw [hb, Int32.toInt_ofNat_of_lt (by decide)] <;> omega)) (fun _ => ?_)
      refine zdecF (show ¬ I 1 (I 3 3).toNatClampNeg = Int32.ofNat 54 from den (by rw [hb, Int32.toInt_ofNat_of_lt (by decide)] <;> omega)) (fun _ => ?_)
      refine zdecF (show ¬ I 1 (I 3 3).toNatClampNeg = Int32.ofNat 55 from den (by rw [hb, Int32.toInt_ofNat_of_lt (by decide)] <;> omega)) (fun _ => ?_)
      refine zdecF (show ¬ I 1 (I 3 3).toNatClampNeg = Int32.ofNat 56 from den (by rw [hb, Int32.toInt_ofNat_of_lt (by decide)] <;> omega)) (fun _ => ?_)
      refine zdecF (show ¬ I 1 (I 3 3).toNatClampNeg = Int32.ofNat 57 from den (by rw [hb, Int32.toInt_ofNat_of_lt (by decide)] <;> omega)) (fun _ => ?_)
      refine zdecF (show ¬ I 1 (I 3 3).toNatClampNeg = Int32.ofNat 58 from den (by rw [hb, Int32.toInt_ofNat_of_lt (by decide)] <;> omega)) (fun _ => ?_)
      refine zdecF (show ¬ I 1 (I 3 3).toNatClampNeg = Int32.ofNat 59 from den (by rw [hb, Int32.toInt_ofNat_of_lt (by decide)] <;> omega)) (fun _ => ?_)
      refine zdecT (show I 1 (I 3 3).toNatClampNeg = Int32.ofNat 60 from deq (by rw [hb, Int32.toInt_ofNat_of_lt (by decide)] <;> omega)) (fun _ => ?_)
      refine zdecT (show I 3 3 + Int32.ofInt 1 < I 3 2 from dlt (by rw [h31, h2] <;> omega)) (fun _ => ?_)
      refine zdecF eb2 (fun _ => ?_)
      refine zdecF (show ¬ I 1 (I 3 3 + Int32.ofInt 1).toNatClampNeg = Int32.ofInt 62 from den (by rw [hb2, oI (by decide) (by decide)] <;> omega)) (fun _ => ?_)
      refine zdecF eb2 (fun _ => ?_)
      refine zdecF (show ¬ I 1 (I 3 3 + Int32.ofInt 1).toNatClampNeg = Int32.ofInt 61 from den (by rw [hb2, oI (by decide) (by decide)] <;> omega)) (fun _ => ?_)
      refine hK _ 1 35 (Or.inr (Or.inr (Or.inr (Or.inl (⟨c60, by rw [if_pos hm]; exact d61, by rw [if_pos hm]; exact d62, rfl, rfl⟩))))) (fun _ => by omega) ?_ ?_ (fun q j hq => ?_)
      · exact e31
      · first | rfl | decide
      · repeat (first | rw [zu2_off (by omega)] | rw [zsI_off (by omega)])
    · skip
      refine zdecT (show I 3 3 < I 3 2 from dlt (by rw [h3, h2] <;> omega)) (fun _ => ?_)
      refine zdecF eb (fun _ => ?_)
      refine zdecF (show ¬ I 1 (I 3 3).toNatClampNeg = Int32.ofNat 40 from den (by rw [hb, Int32.toInt_ofNat_of_lt (by decide)] <;> omega)) (fun _ => ?_)
      refine zdecF (show ¬ I 1 (I 3 3).toNatClampNeg = Int32.ofNat 41 from den (by rw [hb, Int32.toInt_ofNat_of_lt (by decide)] <;> omega)) (fun _ => ?_)
      refine zdecF (show ¬ I 1 (I 3 3).toNatClampNeg = Int32.ofNat 42 from den (by rw [hb, Int32.toInt_ofNat_of_lt (by decide)] <;> omega)) (fun _ => ?_)
      refine zdecF (show ¬ I 1 (I 3 3).toNatClampNeg = Int32.ofNat 43 from den (by rw [hb, Int32.toInt_ofNat_of_lt (by decide)] <;> omega)) (fun _ => ?_)
      refine zdecF (show ¬ I 1 (I 3 3).toNatClampNeg = Int32.ofNat 44 from den (by rw [hb, Int32.toInt_ofNat_of_lt (by decide)] <;> omega)) (fun _ => ?_)
      refine zdecF (show ¬ I 1 (I 3 3).toNatClampNeg = Int32.ofNat 45 from den (by rw [hb, Int32.toInt_ofNat_of_lt (by decide)] <;> omega)) (fun _ => ?_)
      refine zdecF (show ¬ I 1 (I 3 3).toNatClampNeg = Int32.ofNat 46 from den (by rw [hb, Int32.toInt_ofNat_of_lt (by decide)] <;> omega)) (fun _ => ?_)
      refine zdecF (show ¬ I 1 (I 3 3).toNatClampNeg = Int32.ofNat 47 from den (by rw [hb, Int32.toInt_ofNat_of_lt (by decide)] <;> omega)) (fun _ => ?_)
      refine zdecF (show ¬ I 1 (I 3 3).toNatClampNeg = Int32.ofNat 48 from den (by rw [hb, Int32.toInt_ofNat_of_lt (by decide)] <;> omega)) (fun _ => ?_)
      refine zdecF (show ¬ I 1 (I 3 3).toNatClampNeg = Int32.ofNat 49 from den (by rw [hb, Int32.toInt_ofNat_of_lt (by decide)] <;> omega)) (fun _ => ?_)
      refine zdecF (show ¬ I 1 (I 3 3).toNatClampNeg = Int32.ofNat 50 from den (by rw [hb, Int32.toInt_ofNat_of_lt (by decide)] <;> omega)) (fun _ => ?_)
      refine zdecF (show ¬ I 1 (I 3 3).toNatClampNeg = Int32.ofNat 51 from den (by rw [hb, Int32.toInt_ofNat_of_lt (by decide)] <;> omega)) (fun _ => ?_)
      refine zdecF (show ¬ I 1 (I 3 3).toNatClampNeg = Int32.ofNat 52 from den (by rw [hb, Int32.toInt_ofNat_of_lt (by decide)] <;> omega)) (fun _ => ?_)
      refine zdecF (show ¬ I 1 (I 3 3).toNatClampNeg = Int32.ofNat 53 from den (by rw [hb, Int32.toInt_ofNat_of_lt (by decide)] <;> omega)) (fun _ => ?_)
      refine zdecF (show ¬ I 1 (I 3 3).toNatClampNeg = Int32.ofNat 54 from den (by rw [hb, Int32.toInt_ofNat_of_lt (by decide)] <;> omega)) (fun _ => ?_)
      refine zdecF (show ¬ I 1 (I 3 3).toNatClampNeg = Int32.ofNat 55 from den (by rw [hb, Int32.toInt_ofNat_of_lt (by decide)] <;> omega)) (fun _ => ?_)
      refine zdecF (show ¬ I 1 (I 3 3).toNatClampNeg = Int32.ofNat 56 from den (by rw [hb, Int32.toInt_ofNat_of_lt (by decide)] <;> omega)) (fun _ => ?_)
      refine zdecF (show ¬ I 1 (I 3 3).toNatClampNeg = Int32.ofNat 57 from den (by rw [hb, Int32.toInt_ofNat_of_lt (by decide)] <;> omega)) (fun _ => ?_)
      refine zdecF (show ¬ I 1 (I 3 3).toNatClampNeg = Int32.ofNat 58 from den (by rw [hb, Int32.toInt_ofNat_of_lt (by decide)] <;> omega)) (fun _ => ?_)
      refine zdecF (show ¬ I 1 (I 3 3).toNatClampNeg = Int32.ofNat 59 from den (by rw [hb, Int32.toInt_ofNat_of_lt (by decide)] <;> omega)) (fun _ => ?_)
      refine zdecT (show I 1 (I 3 3).toNatClampNeg = Int32.ofNat 60 from deq (by rw [hb, Int32.toInt_ofNat_of_lt (by decide)] <;> omega)) (fun _ => ?_)
      refine zdecF (show ¬ I 3 3 + Int32.ofInt 1 < I 3 2 from dltn (by rw [h31, h2] <;> omega)) (fun _ => ?_)
      refine hK _ 1 35 (Or.inr (Or.inr (Or.inr (Or.inl (⟨c60, by rw [if_neg hm]; decide, by rw [if_neg hm]; decide, rfl, rfl⟩))))) (fun _ => by omega) ?_ ?_ (fun q j hq => ?_)
      · exact e31
      · first | rfl | decide
      · repeat (first | rw [zu2_off (by omega)] | rw [zsI_off (by omega)])
  by_cases c62 : T p = 62
  · skip
    by_cases hm : p + 1 < n
    · have eb2 : ¬ (I 3 3 + Int32.ofInt 1 < 0 ∨ 700 ≤ (I 3 3 + Int32.ofInt 1).toNatClampNeg) := by
        rw [e31]
        exact ofN_ix (by omega) (by omega)
      have hb2 : (I 1 (I 3 3 + Int32.ofInt 1).toNatClampNeg).toInt = sb (T (p + 1)) := by rw [e31, ofN_cl (by omega), hT (p + 1) (by omega)]
      have hr2 := hR (p + 1) (by omega)
      have hs2 := sb_or (T (p + 1))
      by_cases d61 : T (p + 1) = 61
      · skip
        refine zdecT (show I 3 3 < I 3 2 from dlt (by rw [h3, h2] <;> omega)) (fun _ => ?_)
        refine zdecF eb (fun _ => ?_)
        refine zdecF (show ¬ I 1 (I 3 3).toNatClampNeg = Int32.ofNat 40 from den (by rw [hb, Int32.toInt_ofNat_of_lt (by decide)] <;> omega)) (fun _ => ?_)
        refine zdecF (show ¬ I 1 (I 3 3).toNatClampNeg = Int32.ofNat 41 from den (by rw [hb, Int32.toInt_ofNat_of_lt (by decide)] <;> omega)) (fun _ => ?_)
        refine zdecF (show ¬ I 1 (I 3 3).toNatClampNeg = Int32.ofNat 42 from den (by rw [hb, Int32.toInt_ofNat_of_lt (by decide)] <;> omega)) (fun _ => ?_)
        refine zdecF (show ¬ I 1 (I 3 3).toNatClampNeg = Int32.ofNat 43 from den (by rw [hb, Int32.toInt_ofNat_of_lt (by decide)] <;> omega)) (fun _ => ?_)
        refine zdecF (show ¬ I 1 (I 3 3).toNatClampNeg = Int32.ofNat 44 from den (by rw [hb, Int32.toInt_ofNat_of_lt (by decide)] <;> omega)) (fun _ => ?_)
        refine zdecF (show ¬ I 1 (I 3 3).toNatClampNeg = Int32.ofNat 45 from den (by rw [hb, Int32.toInt_ofNat_of_lt (by decide)] <;> omega)) (fun _ => ?_)
        refine zdecF (show ¬ I 1 (I 3 3).toNatClampNeg = Int32.ofNat 46 from den (by rw [hb, Int32.toInt_ofNat_of_lt (by decide)] <;> omega)) (fun _ => ?_)
        refine zdecF (show ¬ I 1 (I 3 3).toNatClampNeg = Int32.ofNat 47 from den (by rw [hb, Int32.toInt_ofNat_of_lt (by decide)] <;> omega)) (fun _ => ?_)
        refine zdecF (show ¬ I 1 (I 3 3).toNatClampNeg = Int32.ofNat 48 from den (by rw [hb, Int32.toInt_ofNat_of_lt (by decide)] <;> omega)) (fun _ => ?_)
        refine zdecF (show ¬ I 1 (I 3 3).toNatClampNeg = Int32.ofNat 49 from den (by rw [hb, Int32.toInt_ofNat_of_lt (by decide)] <;> omega)) (fun _ => ?_)
        refine zdecF (show ¬ I 1 (I 3 3).toNatClampNeg = Int32.ofNat 50 from den (by rw [hb, Int32.toInt_ofNat_of_lt (by decide)] <;> omega)) (fun _ => ?_)
        refine zdecF (show ¬ I 1 (I 3 3).toNatClampNeg = Int32.ofNat 51 from den (by rw [hb, Int32.toInt_ofNat_of_lt (by decide)] <;> omega)) (fun _ => ?_)
        refine zdecF (show ¬ I 1 (I 3 3).toNatClampNeg = Int32.ofNat 52 from den (by rw [hb, Int32.toInt_ofNat_of_lt (by decide)] <;> omega)) (fun _ => ?_)
        refine zdecF (show ¬ I 1 (I 3 3).toNatClampNeg = Int32.ofNat 53 from den (by rw [hb, Int32.toInt_ofNat_of_lt (by decide)] <;> omega)) (fun _ => ?_)
        refine zdecF (show ¬ I 1 (I 3 3).toNatClampNeg = Int32.ofNat 54 from den (by rw [hb, Int32.toInt_ofNat_of_lt (by decide)] <;> omega)) (fun _ => ?_)
        refine zdecF (show ¬ I 1 (I 3 3).toNatClampNeg = Int32.ofNat 55 from den (by rw [hb, Int32.toInt_ofNat_of_lt (by decide)] <;> omega)) (fun _ => ?_)
        refine zdecF (show ¬ I 1 (I 3 3).toNatClampNeg = Int32.ofNat 56 from den (by rw [hb, Int32.toInt_ofNat_of_lt (by decide)] <;> omega)) (fun _ => ?_)
        refine zdecF (show ¬ I 1 (I 3 3).toNatClampNeg = Int32.ofNat 57 from den (by rw [hb, Int32.toInt_ofNat_of_lt (by decide)] <;> omega)) (fun _ => ?_)
        refine zdecF (show ¬ I 1 (I 3 3).toNatClampNeg = Int32.ofNat 58 from den (by rw [hb, Int32.toInt_ofNat_of_lt (by decide)] <;> omega)) (fun _ => ?_)
        refine zdecF (show ¬ I 1 (I 3 3).toNatClampNeg = Int32.ofNat 59 from den (by rw [hb, Int32.toInt_ofNat_of_lt (by decide)] <;> omega)) (fun _ => ?_)
        refine zdecF (show ¬ I 1 (I 3 3).toNatClampNeg = Int32.ofNat 60 from den (by rw [hb, Int32.toInt_ofNat_of_lt (by decide)] <;> omega)) (fun _ => ?_)
        refine zdecF (show ¬ I 1 (I 3 3).toNatClampNeg = Int32.ofNat 61 from den (by rw [hb, Int32.toInt_ofNat_of_lt (by decide)] <;> omega)) (fun _ => ?_)
        refine zdecT (show I 1 (I 3 3).toNatClampNeg = Int32.ofNat 62 from deq (by rw [hb, Int32.toInt_ofNat_of_lt (by decide)] <;> omega)) (fun _ => ?_)
        refine zdecT (show I 3 3 + Int32.ofInt 1 < I 3 2 from dlt (by rw [h31, h2] <;> omega)) (fun _ => ?_)
        refine zdecF eb2 (fun _ => ?_)
        refine zdecT (show I 1 (I 3 3 + Int32.ofInt 1).toNatClampNeg = Int32.ofInt 61 from deq (by rw [hb2, oI (by decide) (by decide)] <;> omega)) (fun _ => ?_)
        refine hK _ 2 39 (Or.inr (Or.inr (Or.inr (Or.inr (Or.inl (⟨c62, by rw [if_pos hm]; exact d61, rfl, rfl⟩)))))) (fun _ => by omega) ?_ ?_ (fun q j hq => ?_)
        · exact e32
        · first | rfl | decide
        · repeat (first | rw [zu2_off (by omega)] | rw [zsI_off (by omega)])
      refine zdecT (show I 3 3 < I 3 2 from dlt (by rw [h3, h2] <;> omega)) (fun _ => ?_)
      refine zdecF eb (fun _ => ?_)
      refine zdecF (show ¬ I 1 (I 3 3).toNatClampNeg = Int32.ofNat 40 from den (by rw [hb, Int32.toInt_ofNat_of_lt (by decide)] <;> omega)) (fun _ => ?_)
      refine zdecF (show ¬ I 1 (I 3 3).toNatClampNeg = Int32.ofNat 41 from den (by rw [hb, Int32.toInt_ofNat_of_lt (by decide)] <;> omega)) (fun _ => ?_)
      refine zdecF (show ¬ I 1 (I 3 3).toNatClampNeg = Int32.ofNat 42 from den (by rw [hb, Int32.toInt_ofNat_of_lt (by decide)] <;> omega)) (fun _ => ?_)
      refine zdecF (show ¬ I 1 (I 3 3).toNatClampNeg = Int32.ofNat 43 from den (by rw [hb, Int32.toInt_ofNat_of_lt (by decide)] <;> omega)) (fun _ => ?_)
      refine zdecF (show ¬ I 1 (I 3 3).toNatClampNeg = Int32.ofNat 44 from den (by rw [hb, Int32.toInt_ofNat_of_lt (by decide)] <;> omega)) (fun _ => ?_)
      refine zdecF (show ¬ I 1 (I 3 3).toNatClampNeg = Int32.ofNat 45 from den (by rw [hb, Int32.toInt_ofNat_of_lt (by decide)] <;> omega)) (fun _ => ?_)
      refine zdecF (show ¬ I 1 (I 3 3).toNatClampNeg = Int32.ofNat 46 from den (by rw [hb, Int32.toInt_ofNat_of_lt (by decide)] <;> omega)) (fun _ => ?_)
      refine zdecF (show ¬ I 1 (I 3 3).toNatClampNeg = Int32.ofNat 47 from den (by rw [hb, Int32.toInt_ofNat_of_lt (by decide)] <;> omega)) (fun _ => ?_)
      refine zdecF (show ¬ I 1 (I 3 3).toNatClampNeg = Int32.ofNat 48 from den (by rw [hb, Int32.toInt_ofNat_of_lt (by decide)] <;> omega)) (fun _ => ?_)
      refine zdecF (show ¬ I 1 (I 3 3).toNatClampNeg = Int32.ofNat 49 from den (by rw [hb, Int32.toInt_ofNat_of_lt (by decide)] <;> omega)) (fun _ => ?_)
      refine zdecF (show ¬ I 1 (I 3 3).toNatClampNeg = Int32.ofNat 50 from den (by rw [hb, Int32.toInt_ofNat_of_lt (by decide)] <;> omega)) (fun _ => ?_)
      refine zdecF (show ¬ I 1 (I 3 3).toNatClampNeg = Int32.ofNat 51 from den (by rw [hb, Int32.toInt_ofNat_of_lt (by decide)] <;> omega)) (fun _ => ?_)
      refine zdecF (show ¬ I 1 (I 3 3).toNatClampNeg = Int32.ofNat 52 from den (by rw [hb, Int32.toInt_ofNat_of_lt (by decide)] <;> omega)) (fun _ => ?_)
      refine zdecF (show ¬ I 1 (I 3 3).toNatClampNeg = Int32.ofNat 53 from den (by rw [hb, Int32.toInt_ofNat_of_lt (by decide)] <;> omega)) (fun _ => ?_)
      refine zdecF (show ¬ I 1 (I 3 3).toNatClampNeg = Int32.ofNat 54 from den (by rw [hb, Int32.toInt_ofNat_of_lt (by decide)] <;> omega)) (fun _ => ?_)
      refine zdecF (show ¬ I 1 (I 3 3).toNatClampNeg = Int32.ofNat 55 from den (by rw [hb, Int32.toInt_ofNat_of_lt (by decide)] <;> omega)) (fun _ => ?_)
      refine zdecF (show ¬ I 1 (I 3 3).toNatClampNeg = Int32.ofNat 56 from den (by rw [hb, Int32.toInt_ofNat_of_lt (by decide)] <;> omega)) (fun _ => ?_)
      refine zdecF (show ¬ I 1 (I 3 3).toNatClampNeg = Int32.ofNat 57 from den (by rw [hb, Int32.toInt_ofNat_of_lt (by decide)] <;> omega)) (fun _ => ?_)
      refine zdecF (show ¬ I 1 (I 3 3).toNatClampNeg = Int32.ofNat 58 from den (by rw [hb, Int32.toInt_ofNat_of_lt (by decide)] <;> omega)) (fun _ => ?_)
      refine zdecF (show ¬ I 1 (I 3 3).toNatClampNeg = Int32.ofNat 59 from den (by rw [hb, Int32.toInt_ofNat_of_lt (by decide)] <;> omega)) (fun _ => ?_)
      refine zdecF (show ¬ I 1 (I 3 3).toNatClampNeg = Int32.ofNat 60 from den (by rw [hb, Int32.toInt_ofNat_of_lt (by decide)] <;> omega)) (fun _ => ?_)
      refine zdecF (show ¬ I 1 (I 3 3).toNatClampNeg = Int32.ofNat 61 from den (by rw [hb, Int32.toInt_ofNat_of_lt (by decide)] <;> omega)) (fun _ => ?_)
      refine zdecT (show I 1 (I 3 3).toNatClampNeg = Int32.ofNat 62 from deq (by rw [hb, Int32.toInt_ofNat_of_lt (by decide)] <;> omega)) (fun _ => ?_)
      refine zdecT (show I 3 3 + Int32.ofInt 1 < I 3 2 from dlt (by rw [h31, h2] <;> omega)) (fun _ => ?_)
      refine zdecF eb2 (fun _ => ?_)
      refine zdecF (show ¬ I 1 (I 3 3 + Int32.ofInt 1).toNatClampNeg = Int32.ofInt 61 from den (by rw [hb2, oI (by decide) (by decide)] <;> omega)) (fun _ => ?_)
      refine hK _ 1 40 (Or.inr (Or.inr (Or.inr (Or.inr (Or.inr (Or.inl (⟨c62, by rw [if_pos hm]; exact d61, rfl, rfl⟩))))))) (fun _ => by omega) ?_ ?_ (fun q j hq => ?_)
      · exact e31
      · first | rfl | decide
      · repeat (first | rw [zu2_off (by omega)] | rw [zsI_off (by omega)])
    · skip
      refine zdecT (show I 3 3 < I 3 2 from dlt (by rw [h3, h2] <;> omega)) (fun _ => ?_)
      refine zdecF eb (fun _ => ?_)
      refine zdecF (show ¬ I 1 (I 3 3).toNatClampNeg = Int32.ofNat 40 from den (by rw [hb, Int32.toInt_ofNat_of_lt (by decide)] <;> omega)) (fun _ => ?_)
      refine zdecF (show ¬ I 1 (I 3 3).toNatClampNeg = Int32.ofNat 41 from den (by rw [hb, Int32.toInt_ofNat_of_lt (by decide)] <;> omega)) (fun _ => ?_)
      refine zdecF (show ¬ I 1 (I 3 3).toNatClampNeg = Int32.ofNat 42 from den (by rw [hb, Int32.toInt_ofNat_of_lt (by decide)] <;> omega)) (fun _ => ?_)
      refine zdecF (show ¬ I 1 (I 3 3).toNatClampNeg = Int32.ofNat 43 from den (by rw [hb, Int32.toInt_ofNat_of_lt (by decide)] <;> omega)) (fun _ => ?_)
      refine zdecF (show ¬ I 1 (I 3 3).toNatClampNeg = Int32.ofNat 44 from den (by rw [hb, Int32.toInt_ofNat_of_lt (by decide)] <;> omega)) (fun _ => ?_)
      refine zdecF (show ¬ I 1 (I 3 3).toNatClampNeg = Int32.ofNat 45 from den (by rw [hb, Int32.toInt_ofNat_of_lt (by decide)] <;> omega)) (fun _ => ?_)
      refine zdecF (show ¬ I 1 (I 3 3).toNatClampNeg = Int32.ofNat 46 from den (by rw [hb, Int32.toInt_ofNat_of_lt (by decide)] <;> omega)) (fun _ => ?_)
      refine zdecF (show ¬ I 1 (I 3 3).toNatClampNeg = Int32.ofNat 47 from den (by rw [hb, Int32.toInt_ofNat_of_lt (by decide)] <;> omega)) (fun _ => ?_)
      refine zdecF (show ¬ I 1 (I 3 3).toNatClampNeg = Int32.ofNat 48 from den (by rw [hb, Int32.toInt_ofNat_of_lt (by decide)] <;> omega)) (fun _ => ?_)
      refine zdecF (show ¬ I 1 (I 3 3).toNatClampNeg = Int32.ofNat 49 from den (by rw [hb, Int32.toInt_ofNat_of_lt (by decide)] <;> omega)) (fun _ => ?_)
      refine zdecF (show ¬ I 1 (I 3 3).toNatClampNeg = Int32.ofNat 50 from den (by rw [hb, Int32.toInt_ofNat_of_lt (by decide)] <;> omega)) (fun _ => ?_)
      refine zdecF (show ¬ I 1 (I 3 3).toNatClampNeg = Int32.ofNat 51 from den (by rw [hb, Int32.toInt_ofNat_of_lt (by decide)] <;> omega)) (fun _ => ?_)
      refine zdecF (show ¬ I 1 (I 3 3).toNatClampNeg = Int32.ofNat 52 from den (by rw [hb, Int32.toInt_ofNat_of_lt (by decide)] <;> omega)) (fun _ => ?_)
      refine zdecF (show ¬ I 1 (I 3 3).toNatClampNeg = Int32.ofNat 53 from den (by rw [hb, Int32.toInt_ofNat_of_lt (by decide)] <;> omega)) (fun _ => ?_)
      refine zdecF (show ¬ I 1 (I 3 3).toNatClampNeg = Int32.ofNat 54 from den (by rw [hb, Int32.toInt_ofNat_of_lt (by decide)] <;> omega)) (fun _ => ?_)
      refine zdecF (show ¬ I 1 (I 3 3).toNatClampNeg = Int32.ofNat 55 from den (by rw [hb, Int32.toInt_ofNat_of_lt (by decide)] <;> omega)) (fun _ => ?_)
      refine zdecF (show ¬ I 1 (I 3 3).toNatClampNeg = Int32.ofNat 56 from den (by rw [hb, Int32.toInt_ofNat_of_lt (by decide)] <;> omega)) (fun _ => ?_)
      refine zdecF (show ¬ I 1 (I 3 3).toNatClampNeg = Int32.ofNat 57 from den (by rw [hb, Int32.toInt_ofNat_of_lt (by decide)] <;> omega)) (fun _ => ?_)
      refine zdecF (show ¬ I 1 (I 3 3).toNatClampNeg = Int32.ofNat 58 from den (by rw [hb, Int32.toInt_ofNat_of_lt (by decide)] <;> omega)) (fun _ => ?_)
      refine zdecF (show ¬ I 1 (I 3 3).toNatClampNeg = Int32.ofNat 59 from den (by rw [hb, Int32.toInt_ofNat_of_lt (by decide)] <;> omega)) (fun _ => ?_)
      refine zdecF (show ¬ I 1 (I 3 3).toNatClampNeg = Int32.ofNat 60 from den (by rw [hb, Int32.toInt_ofNat_of_lt (by decide)] <;> omega)) (fun _ => ?_)
      refine zdecF (show ¬ I 1 (I 3 3).toNatClampNeg = Int32.ofNat 61 from den (by rw [hb, Int32.toInt_ofNat_of_lt (by decide)] <;> omega)) (fun _ => ?_)
      refine zdecT (show I 1 (I 3 3).toNatClampNeg = Int32.ofNat 62 from deq (by rw [hb, Int32.toInt_ofNat_of_lt (by decide)] <;> omega)) (fun _ => ?_)
      refine zdecF (show ¬ I 3 3 + Int32.ofInt 1 < I 3 2 from dltn (by rw [h31, h2] <;> omega)) (fun _ => ?_)
      refine hK _ 1 40 (Or.inr (Or.inr (Or.inr (Or.inr (Or.inr (Or.inl (⟨c62, by rw [if_neg hm]; decide, rfl, rfl⟩))))))) (fun _ => by omega) ?_ ?_ (fun q j hq => ?_)
      · exact e31
      · first | rfl | decide
      · repeat (first | rw [zu2_off (by omega)] | rw [zsI_off (by omega)])
  by_cases c59 : T p = 59
  · skip
    by_cases hm : p + 1 < n
    · have eb2 : ¬ (I 3 3 + Int32.ofInt 1 < 0 ∨ 700 ≤ (I 3 3 + Int32.ofInt 1).toNatClampNeg) := by
        rw [e31]
        exact ofN_ix (by omega) (by omega)
      have hb2 : (I 1 (I 3 3 + Int32.ofInt 1).toNatClampNeg).toInt = sb (T (p + 1)) := by rw [e31, ofN_cl (by omega), hT (p + 1) (by omega)]
      have hr2 := hR (p + 1) (by omega)
      have hs2 := sb_or (T (p + 1))
      refine zdecT (show I 3 3 < I 3 2 from dlt (by rw [h3, h2] <;> omega)) (fun _ => ?_)
      refine zdecF eb (fun _ => ?_)
      refine zdecF (show ¬ I 1 (I 3 3).toNatClampNeg = Int32.ofNat 40 from den (by rw [hb, Int32.toInt_ofNat_of_lt (by decide)] <;> omega)) (fun _ => ?_)
      refine zdecF (show ¬ I 1 (I 3 3).toNatClampNeg = Int32.ofNat 41 from den (by rw [hb, Int32.toInt_ofNat_of_lt (by decide)] <;> omega)) (fun _ => ?_)
      refine zdecF (show ¬ I 1 (I 3 3).toNatClampNeg = Int32.ofNat 42 from den (by rw [hb, Int32.toInt_ofNat_of_lt (by decide)] <;> omega)) (fun _ => ?_)
      refine zdecF (show ¬ I 1 (I 3 3).toNatClampNeg = Int32.ofNat 43 from den (by rw [hb, Int32.toInt_ofNat_of_lt (by decide)] <;> omega)) (fun _ => ?_)
      refine zdecF (show ¬ I 1 (I 3 3).toNatClampNeg = Int32.ofNat 44 from den (by rw [hb, Int32.toInt_ofNat_of_lt (by decide)] <;> omega)) (fun _ => ?_)
      refine zdecF (show ¬ I 1 (I 3 3).toNatClampNeg = Int32.ofNat 45 from den (by rw [hb, Int32.toInt_ofNat_of_lt (by decide)] <;> omega)) (fun _ => ?_)
      refine zdecF (show ¬ I 1 (I 3 3).toNatClampNeg = Int32.ofNat 46 from den (by rw [hb, Int32.toInt_ofNat_of_lt (by decide)] <;> omega)) (fun _ => ?_)
      refine zdecF (show ¬ I 1 (I 3 3).toNatClampNeg = Int32.ofNat 47 from den (by rw [hb, Int32.toInt_ofNat_of_lt (by decide)] <;> omega)) (fun _ => ?_)
      refine zdecF (show ¬ I 1 (I 3 3).toNatClampNeg = Int32.ofNat 48 from den (by rw [hb, Int32.toInt_ofNat_of_lt (by decide)] <;> omega)) (fun _ => ?_)
      refine zdecF (show ¬ I 1 (I 3 3).toNatClampNeg = Int32.ofNat 49 from den (by rw [hb, Int32.toInt_ofNat_of_lt (by decide)] <;> omega)) (fun _ => ?_)
      refine zdecF (show ¬ I 1 (I 3 3).toNatClampNeg = Int32.ofNat 50 from den (by rw [hb, Int32.toInt_ofNat_of_lt (by decide)] <;> omega)) (fun _ => ?_)
      refine zdecF (show ¬ I 1 (I 3 3).toNatClampNeg = Int32.ofNat 51 from den (by rw [hb, Int32.toInt_ofNat_of_lt (by decide)] <;> omega)) (fun _ => ?_)
      refine zdecF (show ¬ I 1 (I 3 3).toNatClampNeg = Int32.ofNat 52 from den (by rw [hb, Int32.toInt_ofNat_of_lt (by decide)] <;> omega)) (fun _ => ?_)
      refine zdecF (show ¬ I 1 (I 3 3).toNatClampNeg = Int32.ofNat 53 from den (by rw [hb, Int32.toInt_ofNat_of_lt (by decide)] <;> omega)) (fun _ => ?_)
      refine zdecF (show ¬ I 1 (I 3 3).toNatClampNeg = Int32.ofNat 54 from den (by rw [hb, Int32.toInt_ofNat_of_lt (by decide)] <;> omega)) (fun _ => ?_)
      refine zdecF (show ¬ I 1 (I 3 3).toNatClampNeg = Int32.ofNat 55 from den (by rw [hb, Int32.toInt_ofNat_of_lt (by decide)] <;> omega)) (fun _ => ?_)
      refine zdecF (show ¬ I 1 (I 3 3).toNatClampNeg = Int32.ofNat 56 from den (by rw [hb, Int32.toInt_ofNat_of_lt (by decide)] <;> omega)) (fun _ => ?_)
      refine zdecF (show ¬ I 1 (I 3 3).toNatClampNeg = Int32.ofNat 57 from den (by rw [hb, Int32.toInt_ofNat_of_lt (by decide)] <;> omega)) (fun _ => ?_)
      refine zdecF (show ¬ I 1 (I 3 3).toNatClampNeg = Int32.ofNat 58 from den (by rw [hb, Int32.toInt_ofNat_of_lt (by decide)] <;> omega)) (fun _ => ?_)
      refine zdecT (show I 1 (I 3 3).toNatClampNeg = Int32.ofNat 59 from deq (by rw [hb, Int32.toInt_ofNat_of_lt (by decide)] <;> omega)) (fun _ => ?_)
      refine zdecT (show I 3 3 + Int32.ofInt 1 < I 3 2 from dlt (by rw [h31, h2] <;> omega)) (fun _ => ?_)
      refine hK _ 1 4 (Or.inr (Or.inr (Or.inr (Or.inr (Or.inr (Or.inr (Or.inl (⟨rfl, Or.inl (⟨c59, rfl⟩)⟩)))))))) (fun _ => by omega) ?_ ?_ (fun q j hq => ?_)
      · exact e31
      · first | rfl | decide
      · repeat (first | rw [zu2_off (by omega)] | rw [zsI_off (by omega)])
    · skip
      refine zdecT (show I 3 3 < I 3 2 from dlt (by rw [h3, h2] <;> omega)) (fun _ => ?_)
      refine zdecF eb (fun _ => ?_)
      refine zdecF (show ¬ I 1 (I 3 3).toNatClampNeg = Int32.ofNat 40 from den (by rw [hb, Int32.toInt_ofNat_of_lt (by decide)] <;> omega)) (fun _ => ?_)
      refine zdecF (show ¬ I 1 (I 3 3).toNatClampNeg = Int32.ofNat 41 from den (by rw [hb, Int32.toInt_ofNat_of_lt (by decide)] <;> omega)) (fun _ => ?_)
      refine zdecF (show ¬ I 1 (I 3 3).toNatClampNeg = Int32.ofNat 42 from den (by rw [hb, Int32.toInt_ofNat_of_lt (by decide)] <;> omega)) (fun _ => ?_)
      refine zdecF (show ¬ I 1 (I 3 3).toNatClampNeg = Int32.ofNat 43 from den (by rw [hb, Int32.toInt_ofNat_of_lt (by decide)] <;> omega)) (fun _ => ?_)
      refine zdecF (show ¬ I 1 (I 3 3).toNatClampNeg = Int32.ofNat 44 from den (by rw [hb, Int32.toInt_ofNat_of_lt (by decide)] <;> omega)) (fun _ => ?_)
      refine zdecF (show ¬ I 1 (I 3 3).toNatClampNeg = Int32.ofNat 45 from den (by rw [hb, Int32.toInt_ofNat_of_lt (by decide)] <;> omega)) (fun _ => ?_)
      refine zdecF (show ¬ I 1 (I 3 3).toNatClampNeg = Int32.ofNat 46 from den (by rw [hb, Int32.toInt_ofNat_of_lt (by decide)] <;> omega)) (fun _ => ?_)
      refine zdecF (show ¬ I 1 (I 3 3).toNatClampNeg = Int32.ofNat 47 from den (by rw [hb, Int32.toInt_ofNat_of_lt (by decide)] <;> omega)) (fun _ => ?_)
      refine zdecF (show ¬ I 1 (I 3 3).toNatClampNeg = Int32.ofNat 48 from den (by rw [hb, Int32.toInt_ofNat_of_lt (by decide)] <;> omega)) (fun _ => ?_)
      refine zdecF (show ¬ I 1 (I 3 3).toNatClampNeg = Int32.ofNat 49 from den (by rw [hb, Int32.toInt_ofNat_of_lt (by decide)] <;> omega)) (fun _ => ?_)
      refine zdecF (show ¬ I 1 (I 3 3).toNatClampNeg = Int32.ofNat 50 from den (by rw [hb, Int32.toInt_ofNat_of_lt (by decide)] <;> omega)) (fun _ => ?_)
      refine zdecF (show ¬ I 1 (I 3 3).toNatClampNeg = Int32.ofNat 51 from den (by rw [hb, Int32.toInt_ofNat_of_lt (by decide)] <;> omega)) (fun _ => ?_)
      refine zdecF (show ¬ I 1 (I 3 3).toNatClampNeg = Int32.ofNat 52 from den (by rw [hb, Int32.toInt_ofNat_of_lt (by decide)] <;> omega)) (fun _ => ?_)
      refine zdecF (show ¬ I 1 (I 3 3).toNatClampNeg = Int32.ofNat 53 from den (by rw [hb, Int32.toInt_ofNat_of_lt (by decide)] <;> omega)) (fun _ => ?_)
      refine zdecF (show ¬ I 1 (I 3 3).toNatClampNeg = Int32.ofNat 54 from den (by rw [hb, Int32.toInt_ofNat_of_lt (by decide)] <;> omega)) (fun _ => ?_)
      refine zdecF (show ¬ I 1 (I 3 3).toNatClampNeg = Int32.ofNat 55 from den (by rw [hb, Int32.toInt_ofNat_of_lt (by decide)] <;> omega)) (fun _ => ?_)
      refine zdecF (show ¬ I 1 (I 3 3).toNatClampNeg = Int32.ofNat 56 from den (by rw [hb, Int32.toInt_ofNat_of_lt (by decide)] <;> omega)) (fun _ => ?_)
      refine zdecF (show ¬ I 1 (I 3 3).toNatClampNeg = Int32.ofNat 57 from den (by rw [hb, Int32.toInt_ofNat_of_lt (by decide)] <;> omega)) (fun _ => ?_)
      refine zdecF (show ¬ I 1 (I 3 3).toNatClampNeg = Int32.ofNat 58 from den (by rw [hb, Int32.toInt_ofNat_of_lt (by decide)] <;> omega)) (fun _ => ?_)
      refine zdecT (show I 1 (I 3 3).toNatClampNeg = Int32.ofNat 59 from deq (by rw [hb, Int32.toInt_ofNat_of_lt (by decide)] <;> omega)) (fun _ => ?_)
      refine zdecF (show ¬ I 3 3 + Int32.ofInt 1 < I 3 2 from dltn (by rw [h31, h2] <;> omega)) (fun _ => ?_)
      refine hK _ 1 4 (Or.inr (Or.inr (Or.inr (Or.inr (Or.inr (Or.inr (Or.inl (⟨rfl, Or.inl (⟨c59, rfl⟩)⟩)))))))) (fun _ => by omega) ?_ ?_ (fun q j hq => ?_)
      · exact e31
      · first | rfl | decide
      · repeat (first | rw [zu2_off (by omega)] | rw [zsI_off (by omega)])
  by_cases c40 : T p = 40
  · skip
    by_cases hm : p + 1 < n
    · have eb2 : ¬ (I 3 3 + Int32.ofInt 1 < 0 ∨ 700 ≤ (I 3 3 + Int32.ofInt 1).toNatClampNeg) := by
        rw [e31]
        exact ofN_ix (by omega) (by omega)
      have hb2 : (I 1 (I 3 3 + Int32.ofInt 1).toNatClampNeg).toInt = sb (T (p + 1)) := by rw [e31, ofN_cl (by omega), hT (p + 1) (by omega)]
      have hr2 := hR (p + 1) (by omega)
      have hs2 := sb_or (T (p + 1))
      refine zdecT (show I 3 3 < I 3 2 from dlt (by rw [h3, h2] <;> omega)) (fun _ => ?_)
      refine zdecF eb (fun _ => ?_)
      refine zdecT (show I 1 (I 3 3).toNatClampNeg = Int32.ofNat 40 from deq (by rw [hb, Int32.toInt_ofNat_of_lt (by decide)] <;> omega)) (fun _ => ?_)
      refine zdecT (show I 3 3 + Int32.ofInt 1 < I 3 2 from dlt (by rw [h31, h2] <;> omega)) (fun _ => ?_)
      refine hK _ 1 5 (Or.inr (Or.inr (Or.inr (Or.inr (Or.inr (Or.inr (Or.inl (⟨rfl, Or.inr (Or.inl (⟨c40, rfl⟩))⟩)))))))) (fun _ => by omega) ?_ ?_ (fun q j hq => ?_)
      · exact e31
      · first | rfl | decide
      · repeat (first | rw [zu2_off (by omega)] | rw [zsI_off (by omega)])
    · skip
      refine zdecT (show I 3 3 < I 3 2 from dlt (by rw [h3, h2] <;> omega)) (fun _ => ?_)
      refine zdecF eb (fun _ => ?_)
      refine zdecT (show I 1 (I 3 3).toNatClampNeg = Int32.ofNat 40 from deq (by rw [hb, Int32.toInt_ofNat_of_lt (by decide)] <;> omega)) (fun _ => ?_)
      refine zdecF (show ¬ I 3 3 + Int32.ofInt 1 < I 3 2 from dltn (by rw [h31, h2] <;> omega)) (fun _ => ?_)
      refine hK _ 1 5 (Or.inr (Or.inr (Or.inr (Or.inr (Or.inr (Or.inr (Or.inl (⟨rfl, Or.inr (Or.inl (⟨c40, rfl⟩))⟩)))))))) (fun _ => by omega) ?_ ?_ (fun q j hq => ?_)
      · exact e31
      · first | rfl | decide
      · repeat (first | rw [zu2_off (by omega)] | rw [zsI_off (by omega)])
  by_cases c41 : T p = 41
  · skip
    by_cases hm : p + 1 < n
    · have eb2 : ¬ (I 3 3 + Int32.ofInt 1 < 0 ∨ 700 ≤ (I 3 3 + Int32.ofInt 1).toNatClampNeg) := by
        rw [e31]
        exact ofN_ix (by omega) (by omega)
      have hb2 : (I 1 (I 3 3 + Int32.ofInt 1).toNatClampNeg).toInt = sb (T (p + 1)) := by rw [e31, ofN_cl (by omega), hT (p + 1) (by omega)]
      have hr2 := hR (p + 1) (by omega)
      have hs2 := sb_or (T (p + 1))
      refine zdecT (show I 3 3 < I 3 2 from dlt (by rw [h3, h2] <;> omega)) (fun _ => ?_)
      refine zdecF eb (fun _ => ?_)
      refine zdecF (show ¬ I 1 (I 3 3).toNatClampNeg = Int32.ofNat 40 from den (by rw [hb, Int32.toInt_ofNat_of_lt (by decide)] <;> omega)) (fun _ => ?_)
      refine zdecT (show I 1 (I 3 3).toNatClampNeg = Int32.ofNat 41 from deq (by rw [hb, Int32.toInt_ofNat_of_lt (by decide)] <;> omega)) (fun _ => ?_)
      refine zdecT (show I 3 3 + Int32.ofInt 1 < I 3 2 from dlt (by rw [h31, h2] <;> omega)) (fun _ => ?_)
      refine hK _ 1 6 (Or.inr (Or.inr (Or.inr (Or.inr (Or.inr (Or.inr (Or.inl (⟨rfl, Or.inr (Or.inr (Or.inl (⟨c41, rfl⟩)))⟩)))))))) (fun _ => by omega) ?_ ?_ (fun q j hq => ?_)
      · exact e31
      · first | rfl | decide
      · repeat (first | rw [zu2_off (by omega)] | rw [zsI_off (by omega)])
    · skip
      refine zdecT (show I 3 3 < I 3 2 from dlt (by rw [h3, h2] <;> omega)) (fun _ => ?_)
      refine zdecF eb (fun _ => ?_)
      refine zdecF (show ¬ I 1 (I 3 3).toNatClampNeg = Int32.ofNat 40 from den (by rw [hb, Int32.toInt_ofNat_of_lt (by decide)] <;> omega)) (fun _ => ?_)
      refine zdecT (show I 1 (I 3 3).toNatClampNeg = Int32.ofNat 41 from deq (by rw [hb, Int32.toInt_ofNat_of_lt (by decide)] <;> omega)) (fun _ => ?_)
      refine zdecF (show ¬ I 3 3 + Int32.ofInt 1 < I 3 2 from dltn (by rw [h31, h2] <;> omega)) (fun _ => ?_)
      refine hK _ 1 6 (Or.inr (Or.inr (Or.inr (Or.inr (Or.inr (Or.inr (Or.inl (⟨rfl, Or.inr (Or.inr (Or.inl (⟨c41, rfl⟩)))⟩)))))))) (fun _ => by omega) ?_ ?_ (fun q j hq => ?_)
      · exact e31
      · first | rfl | decide
      · repeat (first | rw [zu2_off (by omega)] | rw [zsI_off (by omega)])
  by_cases c43 : T p = 43
  · skip
    by_cases hm : p + 1 < n
    · have eb2 : ¬ (I 3 3 + Int32.ofInt 1 < 0 ∨ 700 ≤ (I 3 3 + Int32.ofInt 1).toNatClampNeg) := by
        rw [e31]
        exact ofN_ix (by omega) (by omega)
      have hb2 : (I 1 (I 3 3 + Int32.ofInt 1).toNatClampNeg).toInt = sb (T (p + 1)) := by rw [e31, ofN_cl (by omega), hT (p + 1) (by omega)]
      have hr2 := hR (p + 1) (by omega)
      have hs2 := sb_or (T (p + 1))
      refine zdecT (show I 3 3 < I 3 2 from dlt (by rw [h3, h2] <;> omega)) (fun _ => ?_)
      refine zdecF eb (fun _ => ?_)
      refine zdecF (show ¬ I 1 (I 3 3).toNatClampNeg = Int32.ofNat 40 from den (by rw [hb, Int32.toInt_ofNat_of_lt (by decide)] <;> omega)) (fun _ => ?_)
      refine zdecF (show ¬ I 1 (I 3 3).toNatClampNeg = Int32.ofNat 41 from den (by rw [hb, Int32.toInt_ofNat_of_lt (by decide)] <;> omega)) (fun _ => ?_)
      refine zdecF (show ¬ I 1 (I 3 3).toNatClampNeg = Int32.ofNat 42 from den (by rw [hb, Int32.toInt_ofNat_of_lt (by decide)] <;> omega)) (fun _ => ?_)
      refine zdecT (show I 1 (I 3 3).toNatClampNeg = Int32.ofNat 43 from deq (by rw [hb, Int32.toInt_ofNat_of_lt (by decide)] <;> omega)) (fun _ => ?_)
      refine zdecT (show I 3 3 + Int32.ofInt 1 < I 3 2 from dlt (by rw [h31, h2] <;> omega)) (fun _ => ?_)
      refine hK _ 1 31 (Or.inr (Or.inr (Or.inr (Or.inr (Or.inr (Or.inr (Or.inl (⟨rfl, Or.inr (Or.inr (Or.inr (Or.inl (⟨c43, rfl⟩))))⟩)))))))) (fun _ => by omega) ?_ ?_ (fun q j hq => ?_)
      · exact e31
      · first | rfl | decide
      · repeat (first | rw [zu2_off (by omega)] | rw [zsI_off (by omega)])
    · skip
      refine zdecT (show I 3 3 < I 3 2 from dlt (by rw [h3, h2] <;> omega)) (fun _ => ?_)
      refine zdecF eb (fun _ => ?_)
      refine zdecF (show ¬ I 1 (I 3 3).toNatClampNeg = Int32.ofNat 40 from den (by rw [hb, Int32.toInt_ofNat_of_lt (by decide)] <;> omega)) (fun _ => ?_)
      refine zdecF (show ¬ I 1 (I 3 3).toNatClampNeg = Int32.ofNat 41 from den (by rw [hb, Int32.toInt_ofNat_of_lt (by decide)] <;> omega)) (fun _ => ?_)
      refine zdecF (show ¬ I 1 (I 3 3).toNatClampNeg = Int32.ofNat 42 from den (by rw [hb, Int32.toInt_ofNat_of_lt (by decide)] <;> omega)) (fun _ => ?_)
      refine zdecT (show I 1 (I 3 3).toNatClampNeg = Int32.ofNat 43 from deq (by rw [hb, Int32.toInt_ofNat_of_lt (by decide)] <;> omega)) (fun _ => ?_)
      refine zdecF (show ¬ I 3 3 + Int32.ofInt 1 < I 3 2 from dltn (by rw [h31, h2] <;> omega)) (fun _ => ?_)
      refine hK _ 1 31 (Or.inr (Or.inr (Or.inr (Or.inr (Or.inr (Or.inr (Or.inl (⟨rfl, Or.inr (Or.inr (Or.inr (Or.inl (⟨c43, rfl⟩))))⟩)))))))) (fun _ => by omega) ?_ ?_ (fun q j hq => ?_)
      · exact e31
      · first | rfl | decide
      · repeat (first | rw [zu2_off (by omega)] | rw [zsI_off (by omega)])
  by_cases c45 : T p = 45
  · skip
    by_cases hm : p + 1 < n
    · have eb2 : ¬ (I 3 3 + Int32.ofInt 1 < 0 ∨ 700 ≤ (I 3 3 + Int32.ofInt 1).toNatClampNeg) := by
        rw [e31]
        exact ofN_ix (by omega) (by omega)
      have hb2 : (I 1 (I 3 3 + Int32.ofInt 1).toNatClampNeg).toInt = sb (T (p + 1)) := by rw [e31, ofN_cl (by omega), hT (p + 1) (by omega)]
      have hr2 := hR (p + 1) (by omega)
      have hs2 := sb_or (T (p + 1))
      refine zdecT (show I 3 3 < I 3 2 from dlt (by rw [h3, h2] <;> omega)) (fun _ => ?_)
      refine zdecF eb (fun _ => ?_)
      refine zdecF (show ¬ I 1 (I 3 3).toNatClampNeg = Int32.ofNat 40 from den (by rw [hb, Int32.toInt_ofNat_of_lt (by decide)] <;> omega)) (fun _ => ?_)
      refine zdecF (show ¬ I 1 (I 3 3).toNatClampNeg = Int32.ofNat 41 from den (by rw [hb, Int32.toInt_ofNat_of_lt (by decide)] <;> omega)) (fun _ => ?_)
      refine zdecF (show ¬ I 1 (I 3 3).toNatClampNeg = Int32.ofNat 42 from den (by rw [hb, Int32.toInt_ofNat_of_lt (by decide)] <;> omega)) (fun _ => ?_)
      refine zdecF (show ¬ I 1 (I 3 3).toNatClampNeg = Int32.ofNat 43 from den (by rw [hb, Int32.toInt_ofNat_of_lt (by decide)] <;> omega)) (fun _ => ?_)
      refine zdecF (show ¬ I 1 (I 3 3).toNatClampNeg = Int32.ofNat 44 from den (by rw [hb, Int32.toInt_ofNat_of_lt (by decide)] <;> omega)) (fun _ => ?_)
      refine zdecT (show I 1 (I 3 3).toNatClampNeg = Int32.ofNat 45 from deq (by rw [hb, Int32.toInt_ofNat_of_lt (by decide)] <;> omega)) (fun _ => ?_)
      refine zdecT (show I 3 3 + Int32.ofInt 1 < I 3 2 from dlt (by rw [h31, h2] <;> omega)) (fun _ => ?_)
      refine hK _ 1 32 (Or.inr (Or.inr (Or.inr (Or.inr (Or.inr (Or.inr (Or.inl (⟨rfl, Or.inr (Or.inr (Or.inr (Or.inr (Or.inl (⟨c45, rfl⟩)))))⟩)))))))) (fun _ => by omega) ?_ ?_ (fun q j hq => ?_)
      · exact e31
      · first | rfl | decide
      · repeat (first | rw [zu2_off (by omega)] | rw [zsI_off (by omega)])
    · skip
      refine zdecT (show I 3 3 < I 3 2 from dlt (by rw [h3, h2] <;> omega)) (fun _ => ?_)
      refine zdecF eb (fun _ => ?_)
      refine zdecF (show ¬ I 1 (I 3 3).toNatClampNeg = Int32.ofNat 40 from den (by rw [hb, Int32.toInt_ofNat_of_lt (by decide)] <;> omega)) (fun _ => ?_)
      refine zdecF (show ¬ I 1 (I 3 3).toNatClampNeg = Int32.ofNat 41 from den (by rw [hb, Int32.toInt_ofNat_of_lt (by decide)] <;> omega)) (fun _ => ?_)
      refine zdecF (show ¬ I 1 (I 3 3).toNatClampNeg = Int32.ofNat 42 from den (by rw [hb, Int32.toInt_ofNat_of_lt (by decide)] <;> omega)) (fun _ => ?_)
      refine zdecF (show ¬ I 1 (I 3 3).toNatClampNeg = Int32.ofNat 43 from den (by rw [hb, Int32.toInt_ofNat_of_lt (by decide)] <;> omega)) (fun _ => ?_)
      refine zdecF (show ¬ I 1 (I 3 3).toNatClampNeg = Int32.ofNat 44 from den (by rw [hb, Int32.toInt_ofNat_of_lt (by decide)] <;> omega)) (fun _ => ?_)
      refine zdecT (show I 1 (I 3 3).toNatClampNeg = Int32.ofNat 45 from deq (by rw [hb, Int32.toInt_ofNat_of_lt (by decide)] <;> omega)) (fun _ => ?_)
      refine zdecF (show ¬ I 3 3 + Int32.ofInt 1 < I 3 2 from dltn (by rw [h31, h2] <;> omega)) (fun _ => ?_)
      refine hK _ 1 32 (Or.inr (Or.inr (Or.inr (Or.inr (Or.inr (Or.inr (Or.inl (⟨rfl, Or.inr (Or.inr (Or.inr (Or.inr (Or.inl (⟨c45, rfl⟩)))))⟩)))))))) (fun _ => by omega) ?_ ?_ (fun q j hq => ?_)
      · exact e31
      · first | rfl | decide
      · repeat (first | rw [zu2_off (by omega)] | rw [zsI_off (by omega)])
  by_cases c42 : T p = 42
  · skip
    by_cases hm : p + 1 < n
    · have eb2 : ¬ (I 3 3 + Int32.ofInt 1 < 0 ∨ 700 ≤ (I 3 3 + Int32.ofInt 1).toNatClampNeg) := by
        rw [e31]
        exact ofN_ix (by omega) (by omega)
      have hb2 : (I 1 (I 3 3 + Int32.ofInt 1).toNatClampNeg).toInt = sb (T (p + 1)) := by rw [e31, ofN_cl (by omega), hT (p + 1) (by omega)]
      have hr2 := hR (p + 1) (by omega)
      have hs2 := sb_or (T (p + 1))
      refine zdecT (show I 3 3 < I 3 2 from dlt (by rw [h3, h2] <;> omega)) (fun _ => ?_)
      refine zdecF eb (fun _ => ?_)
      refine zdecF (show ¬ I 1 (I 3 3).toNatClampNeg = Int32.ofNat 40 from den (by rw [hb, Int32.toInt_ofNat_of_lt (by decide)] <;> omega)) (fun _ => ?_)
      refine zdecF (show ¬ I 1 (I 3 3).toNatClampNeg = Int32.ofNat 41 from den (by rw [hb, Int32.toInt_ofNat_of_lt (by decide)] <;> omega)) (fun _ => ?_)
      refine zdecT (show I 1 (I 3 3).toNatClampNeg = Int32.ofNat 42 from deq (by rw [hb, Int32.toInt_ofNat_of_lt (by decide)] <;> omega)) (fun _ => ?_)
      refine zdecT (show I 3 3 + Int32.ofInt 1 < I 3 2 from dlt (by rw [h31, h2] <;> omega)) (fun _ => ?_)
      refine hK _ 1 33 (Or.inr (Or.inr (Or.inr (Or.inr (Or.inr (Or.inr (Or.inl (⟨rfl, Or.inr (Or.inr (Or.inr (Or.inr (Or.inr (Or.inl (⟨c42, rfl⟩))))))⟩)))))))) (fun _ => by omega) ?_ ?_ (fun q j hq => ?_)
      · exact e31
      · first | rfl | decide
      · repeat (first | rw [zu2_off (by omega)] | rw [zsI_off (by omega)])
    · skip
      refine zdecT (show I 3 3 < I 3 2 from dlt (by rw [h3, h2] <;> omega)) (fun _ => ?_)
      refine zdecF eb (fun _ => ?_)
      refine zdecF (show ¬ I 1 (I 3 3).toNatClampNeg = Int32.ofNat 40 from den (by rw [hb, Int32.toInt_ofNat_of_lt (by decide)] <;> omega)) (fun _ => ?_)
      refine zdecF (show ¬ I 1 (I 3 3).toNatClampNeg = Int32.ofNat 41 from den (by rw [hb, Int32.toInt_ofNat_of_lt (by decide)] <;> omega)) (fun _ => ?_)
      refine zdecT (show I 1 (I 3 3).toNatClampNeg = Int32.ofNat 42 from deq (by rw [hb, Int32.toInt_ofNat_of_lt (by decide)] <;> omega)) (fun _ => ?_)
      refine zdecF (show ¬ I 3 3 + Int32.ofInt 1 < I 3 2 from dltn (by rw [h31, h2] <;> omega)) (fun _ => ?_)
      refine hK _ 1 33 (Or.inr (Or.inr (Or.inr (Or.inr (Or.inr (Or.inr (Or.inl (⟨rfl, Or.inr (Or.inr (Or.inr (Or.inr (Or.inr (Or.inl (⟨c42, rfl⟩))))))⟩)))))))) (fun _ => by omega) ?_ ?_ (fun q j hq => ?_)
      · exact e31
      · first | rfl | decide
      · repeat (first | rw [zu2_off (by omega)] | rw [zsI_off (by omega)])
  by_cases c47 : T p = 47
  · skip
    by_cases hm : p + 1 < n
    · have eb2 : ¬ (I 3 3 + Int32.ofInt 1 < 0 ∨ 700 ≤ (I 3 3 + Int32.ofInt 1).toNatClampNeg) := by
        rw [e31]
        exact ofN_ix (by omega) (by omega)
      have hb2 : (I 1 (I 3 3 + Int32.ofInt 1).toNatClampNeg).toInt = sb (T (p + 1)) := by rw [e31, ofN_cl (by omega), hT (p + 1) (by omega)]
      have hr2 := hR (p + 1) (by omega)
      have hs2 := sb_or (T (p + 1))
      refine zdecT (show I 3 3 < I 3 2 from dlt (by rw [h3, h2] <;> omega)) (fun _ => ?_)
      refine zdecF eb (fun _ => ?_)
      refine zdecF (show ¬ I 1 (I 3 3).toNatClampNeg = Int32.ofNat 40 from den (by rw [hb, Int32.toInt_ofNat_of_lt (by decide)] <;> omega)) (fun _ => ?_)
      refine zdecF (show ¬ I 1 (I 3 3).toNatClampNeg = Int32.ofNat 41 from den (by rw [hb, Int32.toInt_ofNat_of_lt (by decide)] <;> omega)) (fun _ => ?_)
      refine zdecF (show ¬ I 1 (I 3 3).toNatClampNeg = Int32.ofNat 42 from den (by rw [hb, Int32.toInt_ofNat_of_lt (by decide)] <;> omega)) (fun _ => ?_)
      refine zdecF (show ¬ I 1 (I 3 3).toNatClampNeg = Int32.ofNat 43 from den (by rw [hb, Int32.toInt_ofNat_of_lt (by decide)] <;> omega)) (fun _ => ?_)
      refine zdecF (show ¬ I 1 (I 3 3).toNatClampNeg = Int32.ofNat 44 from den (by rw [hb, Int32.toInt_ofNat_of_lt (by decide)] <;> omega)) (fun _ => ?_)
      refine zdecF (show ¬ I 1 (I 3 3).toNatClampNeg = Int32.ofNat 45 from den (by rw [hb, Int32.toInt_ofNat_of_lt (by decide)] <;> omega)) (fun _ => ?_)
      refine zdecF (show ¬ I 1 (I 3 3).toNatClampNeg = Int32.ofNat 46 from den (by rw [hb, Int32.toInt_ofNat_of_lt (by decide)] <;> omega)) (fun _ => ?_)
      refine zdecT (show I 1 (I 3 3).toNatClampNeg = Int32.ofNat 47 from deq (by rw [hb, Int32.toInt_ofNat_of_lt (by decide)] <;> omega)) (fun _ => ?_)
      refine zdecT (show I 3 3 + Int32.ofInt 1 < I 3 2 from dlt (by rw [h31, h2] <;> omega)) (fun _ => ?_)
      refine hK _ 1 34 (Or.inr (Or.inr (Or.inr (Or.inr (Or.inr (Or.inr (Or.inl (⟨rfl, Or.inr (Or.inr (Or.inr (Or.inr (Or.inr (Or.inr (⟨c47, rfl⟩))))))⟩)))))))) (fun _ => by omega) ?_ ?_ (fun q j hq => ?_)
      · exact e31
      · first | rfl | decide
      · repeat (first | rw [zu2_off (by omega)] | rw [zsI_off (by omega)])
    · skip
      refine zdecT (show I 3 3 < I 3 2 from dlt (by rw [h3, h2] <;> omega)) (fun _ => ?_)
      refine zdecF eb (fun _ => ?_)
      refine zdecF (show ¬ I 1 (I 3 3).toNatClampNeg = Int32.ofNat 40 from den (by rw [hb, Int32.toInt_ofNat_of_lt (by decide)] <;> omega)) (fun _ => ?_)
      refine zdecF (show ¬ I 1 (I 3 3).toNatClampNeg = Int32.ofNat 41 from den (by rw [hb, Int32.toInt_ofNat_of_lt (by decide)] <;> omega)) (fun _ => ?_)
      refine zdecF (show ¬ I 1 (I 3 3).toNatClampNeg = Int32.ofNat 42 from den (by rw [hb, Int32.toInt_ofNat_of_lt (by decide)] <;> omega)) (fun _ => ?_)
      refine zdecF (show ¬ I 1 (I 3 3).toNatClampNeg = Int32.ofNat 43 from den (by rw [hb, Int32.toInt_ofNat_of_lt (by decide)] <;> omega)) (fun _ => ?_)
      refine zdecF (show ¬ I 1 (I 3 3).toNatClampNeg = Int32.ofNat 44 from den (by rw [hb, Int32.toInt_ofNat_of_lt (by decide)] <;> omega)) (fun _ => ?_)
      refine zdecF (show ¬ I 1 (I 3 3).toNatClampNeg = Int32.ofNat 45 from den (by rw [hb, Int32.toInt_ofNat_of_lt (by decide)] <;> omega)) (fun _ => ?_)
      refine zdecF (show ¬ I 1 (I 3 3).toNatClampNeg = Int32.ofNat 46 from den (by rw [hb, Int32.toInt_ofNat_of_lt (by decide)] <;> omega)) (fun _ => ?_)
      refine zdecT (show I 1 (I 3 3).toNatClampNeg = Int32.ofNat 47 from deq (by rw [hb, Int32.toInt_ofNat_of_lt (by decide)] <;> omega)) (fun _ => ?_)
      refine zdecF (show ¬ I 3 3 + Int32.ofInt 1 < I 3 2 from dltn (by rw [h31, h2] <;> omega)) (fun _ => ?_)
      refine hK _ 1 34 (Or.inr (Or.inr (Or.inr (Or.inr (Or.inr (Or.inr (Or.inl (⟨rfl, Or.inr (Or.inr (Or.inr (Or.inr (Or.inr (Or.inr (⟨c47, rfl⟩))))))⟩)))))))) (fun _ => by omega) ?_ ?_ (fun q j hq => ?_)
      · exact e31
      · first | rfl | decide
      · repeat (first | rw [zu2_off (by omega)] | rw [zsI_off (by omega)])
  by_cases c44 : T p = 44
  · skip
    by_cases hm : p + 1 < n
    · have eb2 : ¬ (I 3 3 + Int32.ofInt 1 < 0 ∨ 700 ≤ (I 3 3 + Int32.ofInt 1).toNatClampNeg) := by
        rw [e31]
        exact ofN_ix (by omega) (by omega)
      have hb2 : (I 1 (I 3 3 + Int32.ofInt 1).toNatClampNeg).toInt = sb (T (p + 1)) := by rw [e31, ofN_cl (by omega), hT (p + 1) (by omega)]
      have hr2 := hR (p + 1) (by omega)
      have hs2 := sb_or (T (p + 1))
      refine zdecT (show I 3 3 < I 3 2 from dlt (by rw [h3, h2] <;> omega)) (fun _ => ?_)
      refine zdecF eb (fun _ => ?_)
      refine zdecF (show ¬ I 1 (I 3 3).toNatClampNeg = Int32.ofNat 40 from den (by rw [hb, Int32.toInt_ofNat_of_lt (by decide)] <;> omega)) (fun _ => ?_)
      refine zdecF (show ¬ I 1 (I 3 3).toNatClampNeg = Int32.ofNat 41 from den (by rw [hb, Int32.toInt_ofNat_of_lt (by decide)] <;> omega)) (fun _ => ?_)
      refine zdecF (show ¬ I 1 (I 3 3).toNatClampNeg = Int32.ofNat 42 from den (by rw [hb, Int32.toInt_ofNat_of_lt (by decide)] <;> omega)) (fun _ => ?_)
      refine zdecF (show ¬ I 1 (I 3 3).toNatClampNeg = Int32.ofNat 43 from den (by rw [hb, Int32.toInt_ofNat_of_lt (by decide)] <;> omega)) (fun _ => ?_)
      refine zdecT (show I 1 (I 3 3).toNatClampNeg = Int32.ofNat 44 from deq (by rw [hb, Int32.toInt_ofNat_of_lt (by decide)] <;> omega)) (fun _ => ?_)
      refine zdecT (show I 3 3 + Int32.ofInt 1 < I 3 2 from dlt (by rw [h31, h2] <;> omega)) (fun _ => ?_)
      refine hK _ 1 1 (Or.inr (Or.inr (Or.inr (Or.inr (Or.inr (Or.inr (Or.inr (⟨c59, c40, c41, c43, c45, c42, c47, c60, c61, c62, rfl, rfl⟩)))))))) (fun _ => by omega) ?_ ?_ (fun q j hq => ?_)
      · exact e31
      · first | rfl | decide
      · repeat (first | rw [zu2_off (by omega)] | rw [zsI_off (by omega)])
    · skip
      refine zdecT (show I 3 3 < I 3 2 from dlt (by rw [h3, h2] <;> omega)) (fun _ => ?_)
      refine zdecF eb (fun _ => ?_)
      refine zdecF (show ¬ I 1 (I 3 3).toNatClampNeg = Int32.ofNat 40 from den (by rw [hb, Int32.toInt_ofNat_of_lt (by decide)] <;> omega)) (fun _ => ?_)
      refine zdecF (show ¬ I 1 (I 3 3).toNatClampNeg = Int32.ofNat 41 from den (by rw [hb, Int32.toInt_ofNat_of_lt (by decide)] <;> omega)) (fun _ => ?_)
      refine zdecF (show ¬ I 1 (I 3 3).toNatClampNeg = Int32.ofNat 42 from den (by rw [hb, Int32.toInt_ofNat_of_lt (by decide)] <;> omega)) (fun _ => ?_)
      refine zdecF (show ¬ I 1 (I 3 3).toNatClampNeg = Int32.ofNat 43 from den (by rw [hb, Int32.toInt_ofNat_of_lt (by decide)] <;> omega)) (fun _ => ?_)
      refine zdecT (show I 1 (I 3 3).toNatClampNeg = Int32.ofNat 44 from deq (by rw [hb, Int32.toInt_ofNat_of_lt (by decide)] <;> omega)) (fun _ => ?_)
      refine zdecF (show ¬ I 3 3 + Int32.ofInt 1 < I 3 2 from dltn (by rw [h31, h2] <;> omega)) (fun _ => ?_)
      refine hK _ 1 1 (Or.inr (Or.inr (Or.inr (Or.inr (Or.inr (Or.inr (Or.inr (⟨c59, c40, c41, c43, c45, c42, c47, c60, c61, c62, rfl, rfl⟩)))))))) (fun _ => by omega) ?_ ?_ (fun q j hq => ?_)
      · exact e31
      · first | rfl | decide
      · repeat (first | rw [zu2_off (by omega)] | rw [zsI_off (by omega)])
  by_cases c46 : T p = 46
  · skip
    by_cases hm : p + 1 < n
    · have eb2 : ¬ (I 3 3 + Int32.ofInt 1 < 0 ∨ 700 ≤ (I 3 3 + Int32.ofInt 1).toNatClampNeg) := by
        rw [e31]
        exact ofN_ix (by omega) (by omega)
      have hb2 : (I 1 (I 3 3 + Int32.ofInt 1).toNatClampNeg).toInt = sb (T (p + 1)) := by rw [e31, ofN_cl (by omega), hT (p + 1) (by omega)]
      have hr2 := hR (p + 1) (by omega)
      have hs2 := sb_or (T (p + 1))
      refine zdecT (show I 3 3 < I 3 2 from dlt (by rw [h3, h2] <;> omega)) (fun _ => ?_)
      refine zdecF eb (fun _ => ?_)
      refine zdecF (show ¬ I 1 (I 3 3).toNatClampNeg = Int32.ofNat 40 from den (by rw [hb, Int32.toInt_ofNat_of_lt (by decide)] <;> omega)) (fun _ => ?_)
      refine zdecF (show ¬ I 1 (I 3 3).toNatClampNeg = Int32.ofNat 41 from den (by rw [hb, Int32.toInt_ofNat_of_lt (by decide)] <;> omega)) (fun _ => ?_)
      refine zdecF (show ¬ I 1 (I 3 3).toNatClampNeg = Int32.ofNat 42 from den (by rw [hb, Int32.toInt_ofNat_of_lt (by decide)] <;> omega)) (fun _ => ?_)
      refine zdecF (show ¬ I 1 (I 3 3).toNatClampNeg = Int32.ofNat 43 from den (by rw [hb, Int32.toInt_ofNat_of_lt (by decide)] <;> omega)) (fun _ => ?_)
      refine zdecF (show ¬ I 1 (I 3 3).toNatClampNeg = Int32.ofNat 44 from den (by rw [hb, Int32.toInt_ofNat_of_lt (by decide)] <;> omega)) (fun _ => ?_)
      refine zdecF (show ¬ I 1 (I 3 3).toNatClampNeg = Int32.ofNat 45 from den (by rw [hb, Int32.toInt_ofNat_of_lt (by decide)] <;> omega)) (fun _ => ?_)
      refine zdecT (show I 1 (I 3 3).toNatClampNeg = Int32.ofNat 46 from deq (by rw [hb, Int32.toInt_ofNat_of_lt (by decide)] <;> omega)) (fun _ => ?_)
      refine zdecT (show I 3 3 + Int32.ofInt 1 < I 3 2 from dlt (by rw [h31, h2] <;> omega)) (fun _ => ?_)
      refine hK _ 1 1 (Or.inr (Or.inr (Or.inr (Or.inr (Or.inr (Or.inr (Or.inr (⟨c59, c40, c41, c43, c45, c42, c47, c60, c61, c62, rfl, rfl⟩)))))))) (fun _ => by omega) ?_ ?_ (fun q j hq => ?_)
      · exact e31
      · first | rfl | decide
      · repeat (first | rw [zu2_off (by omega)] | rw [zsI_off (by omega)])
    · skip
      refine zdecT (show I 3 3 < I 3 2 from dlt (by rw [h3, h2] <;> omega)) (fun _ => ?_)
      refine zdecF eb (fun _ => ?_)
      refine zdecF (show ¬ I 1 (I 3 3).toNatClampNeg = Int32.ofNat 40 from den (by rw [hb, Int32.toInt_ofNat_of_lt (by decide)] <;> omega)) (fun _ => ?_)
      refine zdecF (show ¬ I 1 (I 3 3).toNatClampNeg = Int32.ofNat 41 from den (by rw [hb, Int32.toInt_ofNat_of_lt (by decide)] <;> omega)) (fun _ => ?_)
      refine zdecF (show ¬ I 1 (I 3 3).toNatClampNeg = Int32.ofNat 42 from den (by rw [hb, Int32.toInt_ofNat_of_lt (by decide)] <;> omega)) (fun _ => ?_)
      refine zdecF (show ¬ I 1 (I 3 3).toNatClampNeg = Int32.ofNat 43 from den (by rw [hb, Int32.toInt_ofNat_of_lt (by decide)] <;> omega)) (fun _ => ?_)
      refine zdecF (show ¬ I 1 (I 3 3).toNatClampNeg = Int32.ofNat 44 from den (by rw [hb, Int32.toInt_ofNat_of_lt (by decide)] <;> omega)) (fun _ => ?_)
      refine zdecF (show ¬ I 1 (I 3 3).toNatClampNeg = Int32.ofNat 45 from den (by rw [hb, Int32.toInt_ofNat_of_lt (by decide)] <;> omega)) (fun _ => ?_)
      refine zdecT (show I 1 (I 3 3).toNatClampNeg = Int32.ofNat 46 from deq (by rw [hb, Int32.toInt_ofNat_of_lt (by decide)] <;> omega)) (fun _ => ?_)
      refine zdecF (show ¬ I 3 3 + Int32.ofInt 1 < I 3 2 from dltn (by rw [h31, h2] <;> omega)) (fun _ => ?_)
      refine hK _ 1 1 (Or.inr (Or.inr (Or.inr (Or.inr (Or.inr (Or.inr (Or.inr (⟨c59, c40, c41, c43, c45, c42, c47, c60, c61, c62, rfl, rfl⟩)))))))) (fun _ => by omega) ?_ ?_ (fun q j hq => ?_)
      · exact e31
      · first | rfl | decide
      · repeat (first | rw [zu2_off (by omega)] | rw [zsI_off (by omega)])
  by_cases c58 : T p = 58
  · skip
    by_cases hm : p + 1 < n
    · have eb2 : ¬ (I 3 3 + Int32.ofInt 1 < 0 ∨ 700 ≤ (I 3 3 + Int32.ofInt 1).toNatClampNeg) := by
        rw [e31]
        exact ofN_ix (by omega) (by omega)
      have hb2 : (I 1 (I 3 3 + Int32.ofInt 1).toNatClampNeg).toInt = sb (T (p + 1)) := by rw [e31, ofN_cl (by omega), hT (p + 1) (by omega)]
      have hr2 := hR (p + 1) (by omega)
      have hs2 := sb_or (T (p + 1))
      refine zdecT (show I 3 3 < I 3 2 from dlt (by rw [h3, h2] <;> omega)) (fun _ => ?_)
      refine zdecF eb (fun _ => ?_)
      refine zdecF (show ¬ I 1 (I 3 3).toNatClampNeg = Int32.ofNat 40 from den (by rw [hb, Int32.toInt_ofNat_of_lt (by decide)] <;> omega)) (fun _ => ?_)
      refine zdecF (show ¬ I 1 (I 3 3).toNatClampNeg = Int32.ofNat 41 from den (by rw [hb, Int32.toInt_ofNat_of_lt (by decide)] <;> omega)) (fun _ => ?_)
      refine zdecF (show ¬ I 1 (I 3 3).toNatClampNeg = Int32.ofNat 42 from den (by rw [hb, Int32.toInt_ofNat_of_lt (by decide)] <;> omega)) (fun _ => ?_)
      refine zdecF (show ¬ I 1 (I 3 3).toNatClampNeg = Int32.ofNat 43 from den (by rw [hb, Int32.toInt_ofNat_of_lt (by decide)] <;> omega)) (fun _ => ?_)
      refine zdecF (show ¬ I 1 (I 3 3).toNatClampNeg = Int32.ofNat 44 from den (by rw [hb, Int32.toInt_ofNat_of_lt (by decide)] <;> omega)) (fun _ => ?_)
      refine zdecF (show ¬ I 1 (I 3 3).toNatClampNeg = Int32.ofNat 45 from den (by rw [hb, Int32.toInt_ofNat_of_lt (by decide)] <;> omega)) (fun _ => ?_)
      refine zdecF (show ¬ I 1 (I 3 3).toNatClampNeg = Int32.ofNat 46 from den (by rw [hb, Int32.toInt_ofNat_of_lt (by decide)] <;> omega)) (fun _ => ?_)
      refine zdecF (show ¬ I 1 (I 3 3).toNatClampNeg = Int32.ofNat 47 from den (by rw [hb, Int32.toInt_ofNat_of_lt (by decide)] <;> omega)) (fun _ => ?_)
      refine zdecF (show ¬ I 1 (I 3 3).toNatClampNeg = Int32.ofNat 48 from den (by rw [hb, Int32.toInt_ofNat_of_lt (by decide)] <;> omega)) (fun _ => ?_)
      refine zdecF (show ¬ I 1 (I 3 3).toNatClampNeg = Int32.ofNat 49 from den (by rw [hb, Int32.toInt_ofNat_of_lt (by decide)] <;> omega)) (fun _ => ?_)
      refine zdecF (show ¬ I 1 (I 3 3).toNatClampNeg = Int32.ofNat 50 from den (by rw [hb, Int32.toInt_ofNat_of_lt (by decide)] <;> omega)) (fun _ => ?_)
      refine zdecF (show ¬ I 1 (I 3 3).toNatClampNeg = Int32.ofNat 51 from den (by rw [hb, Int32.toInt_ofNat_of_lt (by decide)] <;> omega)) (fun _ => ?_)
      refine zdecF (show ¬ I 1 (I 3 3).toNatClampNeg = Int32.ofNat 52 from den (by rw [hb, Int32.toInt_ofNat_of_lt (by decide)] <;> omega)) (fun _ => ?_)
      refine zdecF (show ¬ I 1 (I 3 3).toNatClampNeg = Int32.ofNat 53 from den (by rw [hb, Int32.toInt_ofNat_of_lt (by decide)] <;> omega)) (fun _ => ?_)
      refine zdecF (show ¬ I 1 (I 3 3).toNatClampNeg = Int32.ofNat 54 from den (by rw [hb, Int32.toInt_ofNat_of_lt (by decide)] <;> omega)) (fun _ => ?_)
      refine zdecF (show ¬ I 1 (I 3 3).toNatClampNeg = Int32.ofNat 55 from den (by rw [hb, Int32.toInt_ofNat_of_lt (by decide)] <;> omega)) (fun _ => ?_)
      refine zdecF (show ¬ I 1 (I 3 3).toNatClampNeg = Int32.ofNat 56 from den (by rw [hb, Int32.toInt_ofNat_of_lt (by decide)] <;> omega)) (fun _ => ?_)
      refine zdecF (show ¬ I 1 (I 3 3).toNatClampNeg = Int32.ofNat 57 from den (by rw [hb, Int32.toInt_ofNat_of_lt (by decide)] <;> omega)) (fun _ => ?_)
      refine zdecT (show I 1 (I 3 3).toNatClampNeg = Int32.ofNat 58 from deq (by rw [hb, Int32.toInt_ofNat_of_lt (by decide)] <;> omega)) (fun _ => ?_)
      refine zdecT (show I 3 3 + Int32.ofInt 1 < I 3 2 from dlt (by rw [h31, h2] <;> omega)) (fun _ => ?_)
      refine hK _ 1 1 (Or.inr (Or.inr (Or.inr (Or.inr (Or.inr (Or.inr (Or.inr (⟨c59, c40, c41, c43, c45, c42, c47, c60, c61, c62, rfl, rfl⟩)))))))) (fun _ => by omega) ?_ ?_ (fun q j hq => ?_)
      · exact e31
      · first | rfl | decide
      · repeat (first | rw [zu2_off (by omega)] | rw [zsI_off (by omega)])
    · skip
      refine zdecT (show I 3 3 < I 3 2 from dlt (by rw [h3, h2] <;> omega)) (fun _ => ?_)
      refine zdecF eb (fun _ => ?_)
      refine zdecF (show ¬ I 1 (I 3 3).toNatClampNeg = Int32.ofNat 40 from den (by rw [hb, Int32.toInt_ofNat_of_lt (by decide)] <;> omega)) (fun _ => ?_)
      refine zdecF (show ¬ I 1 (I 3 3).toNatClampNeg = Int32.ofNat 41 from den (by rw [hb, Int32.toInt_ofNat_of_lt (by decide)] <;> omega)) (fun _ => ?_)
      refine zdecF (show ¬ I 1 (I 3 3).toNatClampNeg = Int32.ofNat 42 from den (by rw [hb, Int32.toInt_ofNat_of_lt (by decide)] <;> omega)) (fun _ => ?_)
      refine zdecF (show ¬ I 1 (I 3 3).toNatClampNeg = Int32.ofNat 43 from den (by rw [hb, Int32.toInt_ofNat_of_lt (by decide)] <;> omega)) (fun _ => ?_)
      refine zdecF (show ¬ I 1 (I 3 3).toNatClampNeg = Int32.ofNat 44 from den (by rw [hb, Int32.toInt_ofNat_of_lt (by decide)] <;> omega)) (fun _ => ?_)
      refine zdecF (show ¬ I 1 (I 3 3).toNatClampNeg = Int32.ofNat 45 from den (by rw [hb, Int32.toInt_ofNat_of_lt (by decide)] <;> omega)) (fun _ => ?_)
      refine zdecF (show ¬ I 1 (I 3 3).toNatClampNeg = Int32.ofNat 46 from den (by rw [hb, Int32.toInt_ofNat_of_lt (by decide)] <;> omega)) (fun _ => ?_)
      refine zdecF (show ¬ I 1 (I 3 3).toNatClampNeg = Int32.ofNat 47 from den (by rw [hb, Int32.toInt_ofNat_of_lt (by decide)] <;> omega)) (fun _ => ?_)
      refine zdecF (show ¬ I 1 (I 3 3).toNatClampNeg = Int32.ofNat 48 from den (by rw [hb, Int32.toInt_ofNat_of_lt (by decide)] <;> omega)) (fun _ => ?_)
      refine zdecF (show ¬ I 1 (I 3 3).toNatClampNeg = Int32.ofNat 49 from den (by rw [hb, Int32.toInt_ofNat_of_lt (by decide)] <;> omega)) (fun _ => ?_)
      refine zdecF (show ¬ I 1 (I 3 3).toNatClampNeg = Int32.ofNat 50 from den (by rw [hb, Int32.toInt_ofNat_of_lt (by decide)] <;> omega)) (fun _ => ?_)
      refine zdecF (show ¬ I 1 (I 3 3).toNatClampNeg = Int32.ofNat 51 from den (by rw [hb, Int32.toInt_ofNat_of_lt (by decide)] <;> omega)) (fun _ => ?_)
      refine zdecF (show ¬ I 1 (I 3 3).toNatClampNeg = Int32.ofNat 52 from den (by rw [hb, Int32.toInt_ofNat_of_lt (by decide)] <;> omega)) (fun _ => ?_)
      refine zdecF (show ¬ I 1 (I 3 3).toNatClampNeg = Int32.ofNat 53 from den (by rw [hb, Int32.toInt_ofNat_of_lt (by decide)] <;> omega)) (fun _ => ?_)
      refine zdecF (show ¬ I 1 (I 3 3).toNatClampNeg = Int32.ofNat 54 from den (by rw [hb, Int32.toInt_ofNat_of_lt (by decide)] <;> omega)) (fun _ => ?_)
      refine zdecF (show ¬ I 1 (I 3 3).toNatClampNeg = Int32.ofNat 55 from den (by rw [hb, Int32.toInt_ofNat_of_lt (by decide)] <;> omega)) (fun _ => ?_)
      refine zdecF (show ¬ I 1 (I 3 3).toNatClampNeg = Int32.ofNat 56 from den (by rw [hb, Int32.toInt_ofNat_of_lt (by decide)] <;> omega)) (fun _ => ?_)
      refine zdecF (show ¬ I 1 (I 3 3).toNatClampNeg = Int32.ofNat 57 from den (by rw [hb, Int32.toInt_ofNat_of_lt (by decide)] <;> omega)) (fun _ => ?_)
      refine zdecT (show I 1 (I 3 3).toNatClampNeg = Int32.ofNat 58 from deq (by rw [hb, Int32.toInt_ofNat_of_lt (by decide)] <;> omega)) (fun _ => ?_)
      refine zdecF (show ¬ I 3 3 + Int32.ofInt 1 < I 3 2 from dltn (by rw [h31, h2] <;> omega)) (fun _ => ?_)
      refine hK _ 1 1 (Or.inr (Or.inr (Or.inr (Or.inr (Or.inr (Or.inr (Or.inr (⟨c59, c40, c41, c43, c45, c42, c47, c60, c61, c62, rfl, rfl⟩)))))))) (fun _ => by omega) ?_ ?_ (fun q j hq => ?_)
      · exact e31
      · first | rfl | decide
      · repeat (first | rw [zu2_off (by omega)] | rw [zsI_off (by omega)])
  by_cases g1 : sb (T p) < 40
  · skip
    by_cases hm : p + 1 < n
    · have eb2 : ¬ (I 3 3 + Int32.ofInt 1 < 0 ∨ 700 ≤ (I 3 3 + Int32.ofInt 1).toNatClampNeg) := by
        rw [e31]
        exact ofN_ix (by omega) (by omega)
      have hb2 : (I 1 (I 3 3 + Int32.ofInt 1).toNatClampNeg).toInt = sb (T (p + 1)) := by rw [e31, ofN_cl (by omega), hT (p + 1) (by omega)]
      have hr2 := hR (p + 1) (by omega)
      have hs2 := sb_or (T (p + 1))
      refine zdecT (show I 3 3 < I 3 2 from dlt (by rw [h3, h2] <;> omega)) (fun _ => ?_)
      refine zdecF eb (fun _ => ?_)
      refine zdecF (show ¬ I 1 (I 3 3).toNatClampNeg = Int32.ofNat 40 from den (by rw [hb, Int32.toInt_ofNat_of_lt (by decide)] <;> omega)) (fun _ => ?_)
      refine zdecF (show ¬ I 1 (I 3 3).toNatClampNeg = Int32.ofNat 41 from den (by rw [hb, Int32.toInt_ofNat_of_lt (by decide)] <;> omega)) (fun _ => ?_)
      refine zdecF (show ¬ I 1 (I 3 3).toNatClampNeg = Int32.ofNat 42 from den (by rw [hb, Int32.toInt_ofNat_of_lt (by decide)] <;> omega)) (fun _ => ?_)
      refine zdecF (show ¬ I 1 (I 3 3).toNatClampNeg = Int32.ofNat 43 from den (by rw [hb, Int32.toInt_ofNat_of_lt (by decide)] <;> omega)) (fun _ => ?_)
      refine zdecF (show ¬ I 1 (I 3 3).toNatClampNeg = Int32.ofNat 44 from den (by rw [hb, Int32.toInt_ofNat_of_lt (by decide)] <;> omega)) (fun _ => ?_)
      refine zdecF (show ¬ I 1 (I 3 3).toNatClampNeg = Int32.ofNat 45 from den (by rw [hb, Int32.toInt_ofNat_of_lt (by decide)] <;> omega)) (fun _ => ?_)
      refine zdecF (show ¬ I 1 (I 3 3).toNatClampNeg = Int32.ofNat 46 from den (by rw [hb, Int32.toInt_ofNat_of_lt (by decide)] <;> omega)) (fun _ => ?_)
      refine zdecF (show ¬ I 1 (I 3 3).toNatClampNeg = Int32.ofNat 47 from den (by rw [hb, Int32.toInt_ofNat_of_lt (by decide)] <;> omega)) (fun _ => ?_)
      refine zdecF (show ¬ I 1 (I 3 3).toNatClampNeg = Int32.ofNat 48 from den (by rw [hb, Int32.toInt_ofNat_of_lt (by decide)] <;> omega)) (fun _ => ?_)
      refine zdecF (show ¬ I 1 (I 3 3).toNatClampNeg = Int32.ofNat 49 from den (by rw [hb, Int32.toInt_ofNat_of_lt (by decide)] <;> omega)) (fun _ => ?_)
      refine zdecF (show ¬ I 1 (I 3 3).toNatClampNeg = Int32.ofNat 50 from den (by rw [hb, Int32.toInt_ofNat_of_lt (by decide)] <;> omega)) (fun _ => ?_)
      refine zdecF (show ¬ I 1 (I 3 3).toNatClampNeg = Int32.ofNat 51 from den (by rw [hb, Int32.toInt_ofNat_of_lt (by decide)] <;> omega)) (fun _ => ?_)
      refine zdecF (show ¬ I 1 (I 3 3).toNatClampNeg = Int32.ofNat 52 from den (by rw [hb, Int32.toInt_ofNat_of_lt (by decide)] <;> omega)) (fun _ => ?_)
      refine zdecF (show ¬ I 1 (I 3 3).toNatClampNeg = Int32.ofNat 53 from den (by rw [hb, Int32.toInt_ofNat_of_lt (by decide)] <;> omega)) (fun _ => ?_)
      refine zdecF (show ¬ I 1 (I 3 3).toNatClampNeg = Int32.ofNat 54 from den (by rw [hb, Int32.toInt_ofNat_of_lt (by decide)] <;> omega)) (fun _ => ?_)
      refine zdecF (show ¬ I 1 (I 3 3).toNatClampNeg = Int32.ofNat 55 from den (by rw [hb, Int32.toInt_ofNat_of_lt (by decide)] <;> omega)) (fun _ => ?_)
      refine zdecF (show ¬ I 1 (I 3 3).toNatClampNeg = Int32.ofNat 56 from den (by rw [hb, Int32.toInt_ofNat_of_lt (by decide)] <;> omega)) (fun _ => ?_)
      refine zdecF (show ¬ I 1 (I 3 3).toNatClampNeg = Int32.ofNat 57 from den (by rw [hb, Int32.toInt_ofNat_of_lt (by decide)] <;> omega)) (fun _ => ?_)
      refine zdecF (show ¬ I 1 (I 3 3).toNatClampNeg = Int32.ofNat 58 from den (by rw [hb, Int32.toInt_ofNat_of_lt (by decide)] <;> omega)) (fun _ => ?_)
      refine zdecF (show ¬ I 1 (I 3 3).toNatClampNeg = Int32.ofNat 59 from den (by rw [hb, Int32.toInt_ofNat_of_lt (by decide)] <;> omega)) (fun _ => ?_)
      refine zdecF (show ¬ I 1 (I 3 3).toNatClampNeg = Int32.ofNat 60 from den (by rw [hb, Int32.toInt_ofNat_of_lt (by decide)] <;> omega)) (fun _ => ?_)
      refine zdecF (show ¬ I 1 (I 3 3).toNatClampNeg = Int32.ofNat 61 from den (by rw [hb, Int32.toInt_ofNat_of_lt (by decide)] <;> omega)) (fun _ => ?_)
      refine zdecF (show ¬ I 1 (I 3 3).toNatClampNeg = Int32.ofNat 62 from den (by rw [hb, Int32.toInt_ofNat_of_lt (by decide)] <;> omega)) (fun _ => ?_)
      refine zdecT (show I 3 3 + Int32.ofInt 1 < I 3 2 from dlt (by rw [h31, h2] <;> omega)) (fun _ => ?_)
      refine hK _ 1 1 (Or.inr (Or.inr (Or.inr (Or.inr (Or.inr (Or.inr (Or.inr (⟨c59, c40, c41, c43, c45, c42, c47, c60, c61, c62, rfl, rfl⟩)))))))) (fun _ => by omega) ?_ ?_ (fun q j hq => ?_)
      · exact e31
      · first | rfl | decide
      · repeat (first | rw [zu2_off (by omega)] | rw [zsI_off (by omega)])
    · skip
      refine zdecT (show I 3 3 < I 3 2 from dlt (by rw [h3, h2] <;> omega)) (fun _ => ?_)
      refine zdecF eb (fun _ => ?_)
      refine zdecF (show ¬ I 1 (I 3 3).toNatClampNeg = Int32.ofNat 40 from den (by rw [hb, Int32.toInt_ofNat_of_lt (by decide)] <;> omega)) (fun _ => ?_)
      refine zdecF (show ¬ I 1 (I 3 3).toNatClampNeg = Int32.ofNat 41 from den (by rw [hb, Int32.toInt_ofNat_of_lt (by decide)] <;> omega)) (fun _ => ?_)
      refine zdecF (show ¬ I 1 (I 3 3).toNatClampNeg = Int32.ofNat 42 from den (by rw [hb, Int32.toInt_ofNat_of_lt (by decide)] <;> omega)) (fun _ => ?_)
      refine zdecF (show ¬ I 1 (I 3 3).toNatClampNeg = Int32.ofNat 43 from den (by rw [hb, Int32.toInt_ofNat_of_lt (by decide)] <;> omega)) (fun _ => ?_)
      refine zdecF (show ¬ I 1 (I 3 3).toNatClampNeg = Int32.ofNat 44 from den (by rw [hb, Int32.toInt_ofNat_of_lt (by decide)] <;> omega)) (fun _ => ?_)
      refine zdecF (show ¬ I 1 (I 3 3).toNatClampNeg = Int32.ofNat 45 from den (by rw [hb, Int32.toInt_ofNat_of_lt (by decide)] <;> omega)) (fun _ => ?_)
      refine zdecF (show ¬ I 1 (I 3 3).toNatClampNeg = Int32.ofNat 46 from den (by rw [hb, Int32.toInt_ofNat_of_lt (by decide)] <;> omega)) (fun _ => ?_)
      refine zdecF (show ¬ I 1 (I 3 3).toNatClampNeg = Int32.ofNat 47 from den (by rw [hb, Int32.toInt_ofNat_of_lt (by decide)] <;> omega)) (fun _ => ?_)
      refine zdecF (show ¬ I 1 (I 3 3).toNatClampNeg = Int32.ofNat 48 from den (by rw [hb, Int32.toInt_ofNat_of_lt (by decide)] <;> omega)) (fun _ => ?_)
      refine zdecF (show ¬ I 1 (I 3 3).toNatClampNeg = Int32.ofNat 49 from den (by rw [hb, Int32.toInt_ofNat_of_lt (by decide)] <;> omega)) (fun _ => ?_)
      refine zdecF (show ¬ I 1 (I 3 3).toNatClampNeg = Int32.ofNat 50 from den (by rw [hb, Int32.toInt_ofNat_of_lt (by decide)] <;> omega)) (fun _ => ?_)
      refine zdecF (show ¬ I 1 (I 3 3).toNatClampNeg = Int32.ofNat 51 from den (by rw [hb, Int32.toInt_ofNat_of_lt (by decide)] <;> omega)) (fun _ => ?_)
      refine zdecF (show ¬ I 1 (I 3 3).toNatClampNeg = Int32.ofNat 52 from den (by rw [hb, Int32.toInt_ofNat_of_lt (by decide)] <;> omega)) (fun _ => ?_)
      refine zdecF (show ¬ I 1 (I 3 3).toNatClampNeg = Int32.ofNat 53 from den (by rw [hb, Int32.toInt_ofNat_of_lt (by decide)] <;> omega)) (fun _ => ?_)
      refine zdecF (show ¬ I 1 (I 3 3).toNatClampNeg = Int32.ofNat 54 from den (by rw [hb, Int32.toInt_ofNat_of_lt (by decide)] <;> omega)) (fun _ => ?_)
      refine zdecF (show ¬ I 1 (I 3 3).toNatClampNeg = Int32.ofNat 55 from den (by rw [hb, Int32.toInt_ofNat_of_lt (by decide)] <;> omega)) (fun _ => ?_)
      refine zdecF (show ¬ I 1 (I 3 3).toNatClampNeg = Int32.ofNat 56 from den (by rw [hb, Int32.toInt_ofNat_of_lt (by decide)] <;> omega)) (fun _ => ?_)
      refine zdecF (show ¬ I 1 (I 3 3).toNatClampNeg = Int32.ofNat 57 from den (by rw [hb, Int32.toInt_ofNat_of_lt (by decide)] <;> omega)) (fun _ => ?_)
      refine zdecF (show ¬ I 1 (I 3 3).toNatClampNeg = Int32.ofNat 58 from den (by rw [hb, Int32.toInt_ofNat_of_lt (by decide)] <;> omega)) (fun _ => ?_)
      refine zdecF (show ¬ I 1 (I 3 3).toNatClampNeg = Int32.ofNat 59 from den (by rw [hb, Int32.toInt_ofNat_of_lt (by decide)] <;> omega)) (fun _ => ?_)
      refine zdecF (show ¬ I 1 (I 3 3).toNatClampNeg = Int32.ofNat 60 from den (by rw [hb, Int32.toInt_ofNat_of_lt (by decide)] <;> omega)) (fun _ => ?_)
      refine zdecF (show ¬ I 1 (I 3 3).toNatClampNeg = Int32.ofNat 61 from den (by rw [hb, Int32.toInt_ofNat_of_lt (by decide)] <;> omega)) (fun _ => ?_)
      refine zdecF (show ¬ I 1 (I 3 3).toNatClampNeg = Int32.ofNat 62 from den (by rw [hb, Int32.toInt_ofNat_of_lt (by decide)] <;> omega)) (fun _ => ?_)
      refine zdecF (show ¬ I 3 3 + Int32.ofInt 1 < I 3 2 from dltn (by rw [h31, h2] <;> omega)) (fun _ => ?_)
      refine hK _ 1 1 (Or.inr (Or.inr (Or.inr (Or.inr (Or.inr (Or.inr (Or.inr (⟨c59, c40, c41, c43, c45, c42, c47, c60, c61, c62, rfl, rfl⟩)))))))) (fun _ => by omega) ?_ ?_ (fun q j hq => ?_)
      · exact e31
      · first | rfl | decide
      · repeat (first | rw [zu2_off (by omega)] | rw [zsI_off (by omega)])
  by_cases hm : p + 1 < n
  · have eb2 : ¬ (I 3 3 + Int32.ofInt 1 < 0 ∨ 700 ≤ (I 3 3 + Int32.ofInt 1).toNatClampNeg) := by
      rw [e31]
      exact ofN_ix (by omega) (by omega)
    have hb2 : (I 1 (I 3 3 + Int32.ofInt 1).toNatClampNeg).toInt = sb (T (p + 1)) := by rw [e31, ofN_cl (by omega), hT (p + 1) (by omega)]
    have hr2 := hR (p + 1) (by omega)
    have hs2 := sb_or (T (p + 1))
    refine zdecT (show I 3 3 < I 3 2 from dlt (by rw [h3, h2] <;> omega)) (fun _ => ?_)
    refine zdecF eb (fun _ => ?_)
    refine zdecF (show ¬ I 1 (I 3 3).toNatClampNeg = Int32.ofNat 40 from den (by rw [hb, Int32.toInt_ofNat_of_lt (by decide)] <;> omega)) (fun _ => ?_)
    refine zdecF (show ¬ I 1 (I 3 3).toNatClampNeg = Int32.ofNat 41 from den (by rw [hb, Int32.toInt_ofNat_of_lt (by decide)] <;> omega)) (fun _ => ?_)
    refine zdecF (show ¬ I 1 (I 3 3).toNatClampNeg = Int32.ofNat 42 from den (by rw [hb, Int32.toInt_ofNat_of_lt (by decide)] <;> omega)) (fun _ => ?_)
    refine zdecF (show ¬ I 1 (I 3 3).toNatClampNeg = Int32.ofNat 43 from den (by rw [hb, Int32.toInt_ofNat_of_lt (by decide)] <;> omega)) (fun _ => ?_)
    refine zdecF (show ¬ I 1 (I 3 3).toNatClampNeg = Int32.ofNat 44 from den (by rw [hb, Int32.toInt_ofNat_of_lt (by decide)] <;> omega)) (fun _ => ?_)
    refine zdecF (show ¬ I 1 (I 3 3).toNatClampNeg = Int32.ofNat 45 from den (by rw [hb, Int32.toInt_ofNat_of_lt (by decide)] <;> omega)) (fun _ => ?_)
    refine zdecF (show ¬ I 1 (I 3 3).toNatClampNeg = Int32.ofNat 46 from den (by rw [hb, Int32.toInt_ofNat_of_lt (by decide)] <;> omega)) (fun _ => ?_)
    refine zdecF (show ¬ I 1 (I 3 3).toNatClampNeg = Int32.ofNat 47 from den (by rw [hb, Int32.toInt_ofNat_of_lt (by decide)] <;> omega)) (fun _ => ?_)
    refine zdecF (show ¬ I 1 (I 3 3).toNatClampNeg = Int32.ofNat 48 from den (by rw [hb, Int32.toInt_ofNat_of_lt (by decide)] <;> omega)) (fun _ => ?_)
    refine zdecF (show ¬ I 1 (I 3 3).toNatClampNeg = Int32.ofNat 49 from den (by rw [hb, Int32.toInt_ofNat_of_lt (by decide)] <;> omega)) (fun _ => ?_)
    refine zdecF (show ¬ I 1 (I 3 3).toNatClampNeg = Int32.ofNat 50 from den (by rw [hb, Int32.toInt_ofNat_of_lt (by decide)] <;> omega)) (fun _ => ?_)
    refine zdecF (show ¬ I 1 (I 3 3).toNatClampNeg = Int32.ofNat 51 from den (by rw [hb, Int32.toInt_ofNat_of_lt (by decide)] <;> omega)) (fun _ => ?_)
    refine zdecF (show ¬ I 1 (I 3 3).toNatClampNeg = Int32.ofNat 52 from den (by rw [hb, Int32.toInt_ofNat_of_lt (by decide)] <;> omega)) (fun _ => ?_)
    refine zdecF (show ¬ I 1 (I 3 3).toNatClampNeg = Int32.ofNat 53 from den (by rw [hb, Int32.toInt_ofNat_of_lt (by decide)] <;> omega)) (fun _ => ?_)
    refine zdecF (show ¬ I 1 (I 3 3).toNatClampNeg = Int32.ofNat 54 from den (by rw [hb, Int32.toInt_ofNat_of_lt (by decide)] <;> omega)) (fun _ => ?_)
    refine zdecF (show ¬ I 1 (I 3 3).toNatClampNeg = Int32.ofNat 55 from den (by rw [hb, Int32.toInt_ofNat_of_lt (by decide)] <;> omega)) (fun _ => ?_)
    refine zdecF (show ¬ I 1 (I 3 3).toNatClampNeg = Int32.ofNat 56 from den (by rw [hb, Int32.toInt_ofNat_of_lt (by decide)] <;> omega)) (fun _ => ?_)
    refine zdecF (show ¬ I 1 (I 3 3).toNatClampNeg = Int32.ofNat 57 from den (by rw [hb, Int32.toInt_ofNat_of_lt (by decide)] <;> omega)) (fun _ => ?_)
    refine zdecF (show ¬ I 1 (I 3 3).toNatClampNeg = Int32.ofNat 58 from den (by rw [hb, Int32.toInt_ofNat_of_lt (by decide)] <;> omega)) (fun _ => ?_)
    refine zdecF (show ¬ I 1 (I 3 3).toNatClampNeg = Int32.ofNat 59 from den (by rw [hb, Int32.toInt_ofNat_of_lt (by decide)] <;> omega)) (fun _ => ?_)
    refine zdecF (show ¬ I 1 (I 3 3).toNatClampNeg = Int32.ofNat 60 from den (by rw [hb, Int32.toInt_ofNat_of_lt (by decide)] <;> omega)) (fun _ => ?_)
    refine zdecF (show ¬ I 1 (I 3 3).toNatClampNeg = Int32.ofNat 61 from den (by rw [hb, Int32.toInt_ofNat_of_lt (by decide)] <;> omega)) (fun _ => ?_)
    refine zdecF (show ¬ I 1 (I 3 3).toNatClampNeg = Int32.ofNat 62 from den (by rw [hb, Int32.toInt_ofNat_of_lt (by decide)] <;> omega)) (fun _ => ?_)
    refine zdecT (show I 3 3 + Int32.ofInt 1 < I 3 2 from dlt (by rw [h31, h2] <;> omega)) (fun _ => ?_)
    refine hK _ 1 1 (Or.inr (Or.inr (Or.inr (Or.inr (Or.inr (Or.inr (Or.inr (⟨c59, c40, c41, c43, c45, c42, c47, c60, c61, c62, rfl, rfl⟩)))))))) (fun _ => by omega) ?_ ?_ (fun q j hq => ?_)
    · exact e31
    · first | rfl | decide
    · repeat (first | rw [zu2_off (by omega)] | rw [zsI_off (by omega)])
  · skip
    refine zdecT (show I 3 3 < I 3 2 from dlt (by rw [h3, h2] <;> omega)) (fun _ => ?_)
    refine zdecF eb (fun _ => ?_)
    refine zdecF (show ¬ I 1 (I 3 3).toNatClampNeg = Int32.ofNat 40 from den (by rw [hb, Int32.toInt_ofNat_of_lt (by decide)] <;> omega)) (fun _ => ?_)
    refine zdecF (show ¬ I 1 (I 3 3).toNatClampNeg = Int32.ofNat 41 from den (by rw [hb, Int32.toInt_ofNat_of_lt (by decide)] <;> omega)) (fun _ => ?_)
    refine zdecF (show ¬ I 1 (I 3 3).toNatClampNeg = Int32.ofNat 42 from den (by rw [hb, Int32.toInt_ofNat_of_lt (by decide)] <;> omega)) (fun _ => ?_)
    refine zdecF (show ¬ I 1 (I 3 3).toNatClampNeg = Int32.ofNat 43 from den (by rw [hb, Int32.toInt_ofNat_of_lt (by decide)] <;> omega)) (fun _ => ?_)
    refine zdecF (show ¬ I 1 (I 3 3).toNatClampNeg = Int32.ofNat 44 from den (by rw [hb, Int32.toInt_ofNat_of_lt (by decide)] <;> omega)) (fun _ => ?_)
    refine zdecF (show ¬ I 1 (I 3 3).toNatClampNeg = Int32.ofNat 45 from den (by rw [hb, Int32.toInt_ofNat_of_lt (by decide)] <;> omega)) (fun _ => ?_)
    refine zdecF (show ¬ I 1 (I 3 3).toNatClampNeg = Int32.ofNat 46 from den (by rw [hb, Int32.toInt_ofNat_of_lt (by decide)] <;> omega)) (fun _ => ?_)
    refine zdecF (show ¬ I 1 (I 3 3).toNatClampNeg = Int32.ofNat 47 from den (by rw [hb, Int32.toInt_ofNat_of_lt (by decide)] <;> omega)) (fun _ => ?_)
    refine zdecF (show ¬ I 1 (I 3 3).toNatClampNeg = Int32.ofNat 48 from den (by rw [hb, Int32.toInt_ofNat_of_lt (by decide)] <;> omega)) (fun _ => ?_)
    refine zdecF (show ¬ I 1 (I 3 3).toNatClampNeg = Int32.ofNat 49 from den (by rw [hb, Int32.toInt_ofNat_of_lt (by decide)] <;> omega)) (fun _ => ?_)
    refine zdecF (show ¬ I 1 (I 3 3).toNatClampNeg = Int32.ofNat 50 from den (by rw [hb, Int32.toInt_ofNat_of_lt (by decide)] <;> omega)) (fun _ => ?_)
    refine zdecF (show ¬ I 1 (I 3 3).toNatClampNeg = Int32.ofNat 51 from den (by rw [hb, Int32.toInt_ofNat_of_lt (by decide)] <;> omega)) (fun _ => ?_)
    refine zdecF (show ¬ I 1 (I 3 3).toNatClampNeg = Int32.ofNat 52 from den (by rw [hb, Int32.toInt_ofNat_of_lt (by decide)] <;> omega)) (fun _ => ?_)
    refine zdecF (show ¬ I 1 (I 3 3).toNatClampNeg = Int32.ofNat 53 from den (by rw [hb, Int32.toInt_ofNat_of_lt (by decide)] <;> omega)) (fun _ => ?_)
    refine zdecF (show ¬ I 1 (I 3 3).toNatClampNeg = Int32.ofNat 54 from den (by rw [hb, Int32.toInt_ofNat_of_lt (by decide)] <;> omega)) (fun _ => ?_)
    refine zdecF (show ¬ I 1 (I 3 3).toNatClampNeg = Int32.ofNat 55 from den (by rw [hb, Int32.toInt_ofNat_of_lt (by decide)] <;> omega)) (fun _ => ?_)
    refine zdecF (show ¬ I 1 (I 3 3).toNatClampNeg = Int32.ofNat 56 from den (by rw [hb, Int32.toInt_ofNat_of_lt (by decide)] <;> omega)) (fun _ => ?_)
    refine zdecF (show ¬ I 1 (I 3 3).toNatClampNeg = Int32.ofNat 57 from den (by rw [hb, Int32.toInt_ofNat_of_lt (by decide)] <;> omega)) (fun _ => ?_)
    refine zdecF (show ¬ I 1 (I 3 3).toNatClampNeg = Int32.ofNat 58 from den (by rw [hb, Int32.toInt_ofNat_of_lt (by decide)] <;> omega)) (fun _ => ?_)
    refine zdecF (show ¬ I 1 (I 3 3).toNatClampNeg = Int32.ofNat 59 from den (by rw [hb, Int32.toInt_ofNat_of_lt (by decide)] <;> omega)) (fun _ => ?_)
    refine zdecF (show ¬ I 1 (I 3 3).toNatClampNeg = Int32.ofNat 60 from den (by rw [hb, Int32.toInt_ofNat_of_lt (by decide)] <;> omega)) (fun _ => ?_)
    refine zdecF (show ¬ I 1 (I 3 3).toNatClampNeg = Int32.ofNat 61 from den (by rw [hb, Int32.toInt_ofNat_of_lt (by decide)] <;> omega)) (fun _ => ?_)
    refine zdecF (show ¬ I 1 (I 3 3).toNatClampNeg = Int32.ofNat 62 from den (by rw [hb, Int32.toInt_ofNat_of_lt (by decide)] <;> omega)) (fun _ => ?_)
    refine zdecF (show ¬ I 3 3 + Int32.ofInt 1 < I 3 2 from dltn (by rw [h31, h2] <;> omega)) (fun _ => ?_)
    refine hK _ 1 1 (Or.inr (Or.inr (Or.inr (Or.inr (Or.inr (Or.inr (Or.inr (⟨c59, c40, c41, c43, c45, c42, c47, c60, c61, c62, rfl, rfl⟩)))))))) (fun _ => by omega) ?_ ?_ (fun q j hq => ?_)
    · exact e31
    · first | rfl | decide
    · repeat (first | rw [zu2_off (by omega)] | rw [zsI_off (by omega)])
