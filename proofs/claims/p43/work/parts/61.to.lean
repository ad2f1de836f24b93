/-! the reference's signs -/
/-- a sign and what stands behind it: how many places, kind, which -/
def sgRel (c c2 : Int) (N : Nat) (k w : Int) : Prop := (c = 61 ∧ N = 1 ∧ k = 5 ∧ w = 2) ∨ (c = 60 ∧ c2 = 61 ∧ N = 2 ∧ k = 5 ∧ w = 1) ∨ (c = 60 ∧ c2 = 62 ∧ N = 2 ∧ k = 5 ∧ w = 3) ∨ (c = 60 ∧ c2 ≠ 61 ∧ c2 ≠ 62 ∧ N = 1 ∧ k = 5 ∧ w = 0) ∨ (c = 62 ∧ c2 = 61 ∧ N = 2 ∧ k = 5 ∧ w = 4) ∨ (c = 62 ∧ c2 ≠ 61 ∧ N = 1 ∧ k = 5 ∧ w = 5) ∨ ((c = 59 ∨ c = 40 ∨ c = 41 ∨ c = 43 ∨ c = 45 ∨ c = 42 ∨ c = 47 ∨ c = 37) ∧ N = 1 ∧ k = 4 ∧ w = c) ∨ (c ≠ 59 ∧ c ≠ 40 ∧ c ≠ 41 ∧ c ≠ 43 ∧ c ≠ 45 ∧ c ≠ 42 ∧ c ≠ 47 ∧ c ≠ 37 ∧ c ≠ 60 ∧ c ≠ 61 ∧ c ≠ 62 ∧ N = 1 ∧ k = 6 ∧ w = c)
theorem zsI_off {h : zH} {q k x y : Nat} {a : Int32} (hn : ¬ (x = q ∧ y = k)) : (zsI h q k a).2.1 x y = h.2.1 x y := zu2_off hn
theorem zSem_body {l : Launch} {Γ : zG} {d : Nat} {Kp : Option Value → zH → Prop} {I : zHI} {Lg : zHL} {P P' : zHP} {M : zM} (eP : P = P') (hpl : plainName M.1.1.cls = true) (hn : 1 ≤ M.1.2.2.1) (hck : zckB M = true)
    (ht : zitF False M false none (zrunF False false (fun q => Nat.beq q 0) (fun d mi args h K => zSem l Γ false d (zhd mi) args h K) 1000 d) Kp (fun q => Nat.beq q 1000) (fun cs ss pc lo st h => zX l Γ false (d + 1) M.1 (zMQ' Γ false M.1 Kp) cs ss pc lo st h) 1000 0 0 0 [(0, .ref 0)] [] ((zshM, I, Lg, P') : zH)) : zSem l Γ false (d + 1) M.1 [.ref 0] ((zshM, I, Lg, P) : zH) Kp := by
  rw [eP]
  exact zbody hpl hn (zpcF (M := M) 0 1000 rfl hck (fun _ _ _ _ h => h) ht)
set_option maxRecDepth 100000 in
set_option maxHeartbeats 4000000 in
theorem zkS {l : Launch} {Γ : zG} {d : Nat} {Kp : Option Value → zH → Prop} {I : zHI} {Lg : zHL} {P : zHP} {T : Nat → Int} {n p : Nat} (hH : tkH I P T n p) (hlt : p < n)
    (hK : ∀ (I' : zHI) (N : Nat) (k w : Int), sgRel (T p) (if p + 1 < n then T (p + 1) else 0) N k w → (N = 2 → p + 1 < n) → I' 0 7 = Int32.ofNat (p + N) → I' 0 8 = Int32.ofInt k → I' 0 9 = Int32.ofInt w → (∀ q j, ¬ (q = 0 ∧ 7 ≤ j ∧ j ≤ 9) → I' q j = I q j) → Kp none (zshM, I', Lg, P)) : zSem l Γ false (d + 1) zh200 [.ref 0] ((zshM, I, Lg, P) : zH) Kp := by
  obtain ⟨hP, h6', h7', hn, hpn, hT⟩ := hH
  have ei : (I 0 7).toNatClampNeg = p := by rw [h7', ofN_cl (by omega)]
  have eb : ¬ (I 0 7 < 0 ∨ 700 ≤ (I 0 7).toNatClampNeg) := by
    rw [h7']
    exact ofN_ix (by omega) (by omega)
  have e1 : I 0 7 + Int32.ofInt 1 = Int32.ofNat (p + 1) := by
    rw [h7']
    exact ofN_add p 1
  have e2 : I 0 7 + Int32.ofInt 1 + Int32.ofInt 1 = Int32.ofNat (p + 2) := by
    rw [e1]
    exact ofN_add (p + 1) 1
  have ht : (I 1 (I 0 7).toNatClampNeg).toInt = T p := by rw [ei, hT p (by omega)]
  have et : I 1 (I 0 7).toNatClampNeg = Int32.ofInt (T p) := by rw [← ht, Int32.ofInt_toInt]
  have h6 : (I 0 6).toInt = (n : Int) := by
    rw [h6']
    exact oN (by omega)
  have h71 : (I 0 7 + Int32.ofInt 1).toInt = (p : Int) + 1 := by
    rw [e1, oN (by omega)]
    omega
  have eP := zPx hP
  rw [eP] at hK
  refine zSem_body (M := (zh200, zc200)) eP (by decide +kernel) (by decide) zckm200 ?_
  by_cases c61 : T p = 61
  · by_cases hm : p + 1 < n
    · have eb2 : ¬ (I 0 7 + Int32.ofInt 1 < 0 ∨ 700 ≤ (I 0 7 + Int32.ofInt 1).toNatClampNeg) := by
        rw [e1]
        exact ofN_ix (by omega) (by omega)
      have ht2 : (I 1 (I 0 7 + Int32.ofInt 1).toNatClampNeg).toInt = T (p + 1) := by rw [e1, ofN_cl (by omega), hT (p + 1) (by omega)]
      refine zdecF eb (fun _ => ?_)
      refine zdecF (show ¬ I 1 (I 0 7).toNatClampNeg = Int32.ofInt 60 from den (by rw [ht, oI (by decide) (by decide)]; omega)) (fun _ => ?_)
      refine zdecF (show ¬ I 1 (I 0 7).toNatClampNeg = Int32.ofInt 62 from den (by rw [ht, oI (by decide) (by decide)]; omega)) (fun _ => ?_)
      refine zdecT (show I 1 (I 0 7).toNatClampNeg = Int32.ofInt 61 from deq (by rw [ht, oI (by decide) (by decide)]; omega)) (fun _ => ?_)
      refine zdecF (show ¬ I 0 6 ≤ I 0 7 + Int32.ofInt 1 from dlen (by rw [h6, h71]; omega)) (fun _ => ?_)
      refine zdecF eb2 (fun _ => ?_)
      refine zdecT (show I 1 (I 0 7).toNatClampNeg = Int32.ofInt 61 from deq (by rw [ht, oI (by decide) (by decide)]; omega)) (fun _ => ?_)
      refine zdecF (show ¬ I 1 (I 0 7).toNatClampNeg = Int32.ofInt 60 from den (by rw [ht, oI (by decide) (by decide)]; omega)) (fun _ => ?_)
      refine zdecT (show I 1 (I 0 7).toNatClampNeg = Int32.ofInt 61 from deq (by rw [ht, oI (by decide) (by decide)]; omega)) (fun _ => ?_)
      refine hK _ 1 5 2 (Or.inl (⟨c61, rfl, rfl, rfl⟩)) (fun _ => by omega) ?_ ?_ ?_ (fun q j hq => ?_)
      · exact e1
      · first | rfl | decide
      · first | rfl | decide
      · repeat (first | rw [zu2_off (by omega)] | rw [zsI_off (by omega)])
    · skip
      refine zdecF eb (fun _ => ?_)
      refine zdecF (show ¬ I 1 (I 0 7).toNatClampNeg = Int32.ofInt 60 from den (by rw [ht, oI (by decide) (by decide)]; omega)) (fun _ => ?_)
      refine zdecF (show ¬ I 1 (I 0 7).toNatClampNeg = Int32.ofInt 62 from den (by rw [ht, oI (by decide) (by decide)]; omega)) (fun _ => ?_)
      refine zdecT (show I 1 (I 0 7).toNatClampNeg = Int32.ofInt 61 from deq (by rw [ht, oI (by decide) (by decide)]; omega)) (fun _ => ?_)
      refine zdecT (show I 0 6 ≤ I 0 7 + Int32.ofInt 1 from dle (by rw [h6, h71]; omega)) (fun _ => ?_)
      refine zdecT (show I 1 (I 0 7).toNatClampNeg = Int32.ofInt 61 from deq (by rw [ht, oI (by decide) (by decide)]; omega)) (fun _ => ?_)
      refine zdecF (show ¬ I 1 (I 0 7).toNatClampNeg = Int32.ofInt 60 from den (by rw [ht, oI (by decide) (by decide)]; omega)) (fun _ => ?_)
      refine zdecT (show I 1 (I 0 7).toNatClampNeg = Int32.ofInt 61 from deq (by rw [ht, oI (by decide) (by decide)]; omega)) (fun _ => ?_)
      refine hK _ 1 5 2 (Or.inl (⟨c61, rfl, rfl, rfl⟩)) (fun _ => by omega) ?_ ?_ ?_ (fun q j hq => ?_)
      · exact e1
      · first | rfl | decide
      · first | rfl | decide
      · repeat (first | rw [zu2_off (by omega)] | rw [zsI_off (by omega)])
  by_cases c60 : T p = 60
  · by_cases hm : p + 1 < n
    · have eb2 : ¬ (I 0 7 + Int32.ofInt 1 < 0 ∨ 700 ≤ (I 0 7 + Int32.ofInt 1).toNatClampNeg) := by
        rw [e1]
        exact ofN_ix (by omega) (by omega)
      have ht2 : (I 1 (I 0 7 + Int32.ofInt 1).toNatClampNeg).toInt = T (p + 1) := by rw [e1, ofN_cl (by omega), hT (p + 1) (by omega)]
      by_cases d61 : T (p + 1) = 61
      · skip
        refine zdecF eb (fun _ => ?_)
        refine zdecT (show I 1 (I 0 7).toNatClampNeg = Int32.ofInt 60 from deq (by rw [ht, oI (by decide) (by decide)]; omega)) (fun _ => ?_)
        refine zdecF (show ¬ I 0 6 ≤ I 0 7 + Int32.ofInt 1 from dlen (by rw [h6, h71]; omega)) (fun _ => ?_)
        refine zdecF eb2 (fun _ => ?_)
        refine zdecF (show ¬ I 1 (I 0 7).toNatClampNeg = Int32.ofInt 61 from den (by rw [ht, oI (by decide) (by decide)]; omega)) (fun _ => ?_)
        refine zdecT (show I 1 (I 0 7 + Int32.ofInt 1).toNatClampNeg = Int32.ofInt 61 from deq (by rw [ht2, oI (by decide) (by decide)]; omega)) (fun _ => ?_)
        refine zdecT (show I 1 (I 0 7).toNatClampNeg = Int32.ofInt 60 from deq (by rw [ht, oI (by decide) (by decide)]; omega)) (fun _ => ?_)
        refine zdecF (show ¬ I 1 (I 0 7 + Int32.ofInt 1).toNatClampNeg = Int32.ofInt 62 from den (by rw [ht2, oI (by decide) (by decide)]; omega)) (fun _ => ?_)
        refine zdecF (show ¬ I 1 (I 0 7).toNatClampNeg = Int32.ofInt 61 from den (by rw [ht, oI (by decide) (by decide)]; omega)) (fun _ => ?_)
        refine zdecT (show I 1 (I 0 7).toNatClampNeg = Int32.ofInt 60 from deq (by rw [ht, oI (by decide) (by decide)]; omega)) (fun _ => ?_)
        refine hK _ 2 5 1 (Or.inr (Or.inl (⟨c60, by rw [if_pos hm]; exact d61, rfl, rfl, rfl⟩))) (fun _ => by omega) ?_ ?_ ?_ (fun q j hq => ?_)
        · exact e2
        · first | rfl | decide
        · first | rfl | decide
        · repeat (first | rw [zu2_off (by omega)] | rw [zsI_off (by omega)])
      by_cases d62 : T (p + 1) = 62
      · skip
        refine zdecF eb (fun _ => ?_)
        refine zdecT (show I 1 (I 0 7).toNatClampNeg = Int32.ofInt 60 from deq (by rw [ht, oI (by decide) (by decide)]; omega)) (fun _ => ?_)
        refine zdecF (show ¬ I 0 6 ≤ I 0 7 + Int32.ofInt 1 from dlen (by rw [h6, h71]; omega)) (fun _ => ?_)
        refine zdecF eb2 (fun _ => ?_)
        refine zdecF (show ¬ I 1 (I 0 7).toNatClampNeg = Int32.ofInt 61 from den (by rw [ht, oI (by decide) (by decide)]; omega)) (fun _ => ?_)
        refine zdecF (show ¬ I 1 (I 0 7 + Int32.ofInt 1).toNatClampNeg = Int32.ofInt 61 from den (by rw [ht2, oI (by decide) (by decide)]; omega)) (fun _ => ?_)
        refine zdecT (show I 1 (I 0 7).toNatClampNeg = Int32.ofInt 60 from deq (by rw [ht, oI (by decide) (by decide)]; omega)) (fun _ => ?_)
        refine zdecT (show I 1 (I 0 7 + Int32.ofInt 1).toNatClampNeg = Int32.ofInt 62 from deq (by rw [ht2, oI (by decide) (by decide)]; omega)) (fun _ => ?_)
        refine zdecF (show ¬ I 1 (I 0 7).toNatClampNeg = Int32.ofInt 61 from den (by rw [ht, oI (by decide) (by decide)]; omega)) (fun _ => ?_)
        refine zdecT (show I 1 (I 0 7).toNatClampNeg = Int32.ofInt 60 from deq (by rw [ht, oI (by decide) (by decide)]; omega)) (fun _ => ?_)
        refine hK _ 2 5 3 (Or.inr (Or.inr (Or.inl (⟨c60, by rw [if_pos hm]; exact d62, rfl, rfl, rfl⟩)))) (fun _ => by omega) ?_ ?_ ?_ (fun q j hq => ?_)
        · exact e2
        · first | rfl | decide
        · first | rfl | decide
        · repeat (first | rw [zu2_off (by omega)] | rw [zsI_off (by omega)])
      refine zdecF eb (fun _ => ?_)
      refine zdecT (show I 1 (I 0 7).toNatClampNeg = Int32.ofInt 60 from deq (by rw [ht, oI (by decide) (by decide)]; omega)) (fun _ => ?_)
      refine zdecF (show ¬ I 0 6 ≤ I 0 7 + Int32.ofInt 1 from dlen (by rw [h6, h71]; omega)) (fun _ => ?_)
      refine zdecF eb2 (fun _ => ?_)
      refine zdecF (show ¬ I 1 (I 0 7).toNatClampNeg = Int32.ofInt 61 from den (by rw [ht, oI (by decide) (by decide)]; omega)) (fun _ => ?_)
      refine zdecF (show ¬ I 1 (I 0 7 + Int32.ofInt 1).toNatClampNeg = Int32.ofInt 61 from den (by rw [ht2, oI (by decide) (by decide)]; omega)) (fun _ => ?_)
      refine zdecT (show I 1 (I 0 7).toNatClampNeg = Int32.ofInt 60 from deq (by rw [ht, oI (by decide) (by decide)]; omega)) (fun _ => ?_)
      refine zdecF (show ¬ I 1 (I 0 7 + Int32.ofInt 1).toNatClampNeg = Int32.ofInt 62 from den (by rw [ht2, oI (by decide) (by decide)]; omega)) (fun _ => ?_)
      refine zdecF (show ¬ I 1 (I 0 7).toNatClampNeg = Int32.ofInt 61 from den (by rw [ht, oI (by decide) (by decide)]; omega)) (fun _ => ?_)
      refine zdecT (show I 1 (I 0 7).toNatClampNeg = Int32.ofInt 60 from deq (by rw [ht, oI (by decide) (by decide)]; omega)) (fun _ => ?_)
      refine hK _ 1 5 0 (Or.inr (Or.inr (Or.inr (Or.inl (⟨c60, by rw [if_pos hm]; exact d61, by rw [if_pos hm]; exact d62, rfl, rfl, rfl⟩))))) (fun _ => by omega) ?_ ?_ ?_ (fun q j hq => ?_)
      · exact e1
      · first | rfl | decide
      · first | rfl | decide
      · repeat (first | rw [zu2_off (by omega)] | rw [zsI_off (by omega)])
    · skip
      refine zdecF eb (fun _ => ?_)
      refine zdecT (show I 1 (I 0 7).toNatClampNeg = Int32.ofInt 60 from deq (by rw [ht, oI (by decide) (by decide)]; omega)) (fun _ => ?_)
      refine zdecT (show I 0 6 ≤ I 0 7 + Int32.ofInt 1 from dle (by rw [h6, h71]; omega)) (fun _ => ?_)
      refine zdecF (show ¬ I 1 (I 0 7).toNatClampNeg = Int32.ofInt 61 from den (by rw [ht, oI (by decide) (by decide)]; omega)) (fun _ => ?_)
      refine zdecT (show I 1 (I 0 7).toNatClampNeg = Int32.ofInt 60 from deq (by rw [ht, oI (by decide) (by decide)]; omega)) (fun _ => ?_)
      refine zdecF (show ¬ I 1 (I 0 7).toNatClampNeg = Int32.ofInt 61 from den (by rw [ht, oI (by decide) (by decide)]; omega)) (fun _ => ?_)
      refine zdecT (show I 1 (I 0 7).toNatClampNeg = Int32.ofInt 60 from deq (by rw [ht, oI (by decide) (by decide)]; omega)) (fun _ => ?_)
      refine hK _ 1 5 0 (Or.inr (Or.inr (Or.inr (Or.inl (⟨c60, by rw [if_neg hm]; decide, by rw [if_neg hm]; decide, rfl, rfl, rfl⟩))))) (fun _ => by omega) ?_ ?_ ?_ (fun q j hq => ?_)
      · exact e1
      · first | rfl | decide
      · first | rfl | decide
      · repeat (first | rw [zu2_off (by omega)] | rw [zsI_off (by omega)])
  by_cases c62 : T p = 62
  · by_cases hm : p + 1 < n
    · have eb2 : ¬ (I 0 7 + Int32.ofInt 1 < 0 ∨ 700 ≤ (I 0 7 + Int32.ofInt 1).toNatClampNeg) := by
        rw [e1]
        exact ofN_ix (by omega) (by omega)
      have ht2 : (I 1 (I 0 7 + Int32.ofInt 1).toNatClampNeg).toInt = T (p + 1) := by rw [e1, ofN_cl (by omega), hT (p + 1) (by omega)]
      by_cases d61 : T (p + 1) = 61
      · skip
        refine zdecF eb (fun _ => ?_)
        refine zdecF (show ¬ I 1 (I 0 7).toNatClampNeg = Int32.ofInt 60 from den (by rw [ht, oI (by decide) (by decide)]; omega)) (fun _ => ?_)
        refine zdecT (show I 1 (I 0 7).toNatClampNeg = Int32.ofInt 62 from deq (by rw [ht, oI (by decide) (by decide)]; omega)) (fun _ => ?_)
        refine zdecF (show ¬ I 0 6 ≤ I 0 7 + Int32.ofInt 1 from dlen (by rw [h6, h71]; omega)) (fun _ => ?_)
        refine zdecF eb2 (fun _ => ?_)
        refine zdecF (show ¬ I 1 (I 0 7).toNatClampNeg = Int32.ofInt 61 from den (by rw [ht, oI (by decide) (by decide)]; omega)) (fun _ => ?_)
        refine zdecT (show I 1 (I 0 7 + Int32.ofInt 1).toNatClampNeg = Int32.ofInt 61 from deq (by rw [ht2, oI (by decide) (by decide)]; omega)) (fun _ => ?_)
        refine zdecF (show ¬ I 1 (I 0 7).toNatClampNeg = Int32.ofInt 60 from den (by rw [ht, oI (by decide) (by decide)]; omega)) (fun _ => ?_)
        refine zdecF (show ¬ I 1 (I 0 7).toNatClampNeg = Int32.ofInt 61 from den (by rw [ht, oI (by decide) (by decide)]; omega)) (fun _ => ?_)
        refine zdecF (show ¬ I 1 (I 0 7).toNatClampNeg = Int32.ofInt 60 from den (by rw [ht, oI (by decide) (by decide)]; omega)) (fun _ => ?_)
        refine hK _ 2 5 4 (Or.inr (Or.inr (Or.inr (Or.inr (Or.inl (⟨c62, by rw [if_pos hm]; exact d61, rfl, rfl, rfl⟩)))))) (fun _ => by omega) ?_ ?_ ?_ (fun q j hq => ?_)
        · exact e2
        · first | rfl | decide
        · first | rfl | decide
        · repeat (first | rw [zu2_off (by omega)] | rw [zsI_off (by omega)])
      refine zdecF eb (fun _ => ?_)
      refine zdecF (show ¬ I 1 (I 0 7).toNatClampNeg = Int32.ofInt 60 from den (by rw [ht, oI (by decide) (by decide)]; omega)) (fun _ => ?_)
      refine zdecT (show I 1 (I 0 7).toNatClampNeg = Int32.ofInt 62 from deq (by rw [ht, oI (by decide) (by decide)]; omega)) (fun _ => ?_)
      refine zdecF (show ¬ I 0 6 ≤ I 0 7 + Int32.ofInt 1 from dlen (by rw [h6, h71]; omega)) (fun _ => ?_)
      refine zdecF eb2 (fun _ => ?_)
      refine zdecF (show ¬ I 1 (I 0 7).toNatClampNeg = Int32.ofInt 61 from den (by rw [ht, oI (by decide) (by decide)]; omega)) (fun _ => ?_)
      refine zdecF (show ¬ I 1 (I 0 7 + Int32.ofInt 1).toNatClampNeg = Int32.ofInt 61 from den (by rw [ht2, oI (by decide) (by decide)]; omega)) (fun _ => ?_)
      refine zdecF (show ¬ I 1 (I 0 7).toNatClampNeg = Int32.ofInt 60 from den (by rw [ht, oI (by decide) (by decide)]; omega)) (fun _ => ?_)
      refine zdecF (show ¬ I 1 (I 0 7).toNatClampNeg = Int32.ofInt 61 from den (by rw [ht, oI (by decide) (by decide)]; omega)) (fun _ => ?_)
      refine zdecF (show ¬ I 1 (I 0 7).toNatClampNeg = Int32.ofInt 60 from den (by rw [ht, oI (by decide) (by decide)]; omega)) (fun _ => ?_)
      refine hK _ 1 5 5 (Or.inr (Or.inr (Or.inr (Or.inr (Or.inr (Or.inl (⟨c62, by rw [if_pos hm]; exact d61, rfl, rfl, rfl⟩))))))) (fun _ => by omega) ?_ ?_ ?_ (fun q j hq => ?_)
      · exact e1
      · first | rfl | decide
      · first | rfl | decide
      · repeat (first | rw [zu2_off (by omega)] | rw [zsI_off (by omega)])
    · skip
      refine zdecF eb (fun _ => ?_)
      refine zdecF (show ¬ I 1 (I 0 7).toNatClampNeg = Int32.ofInt 60 from den (by rw [ht, oI (by decide) (by decide)]; omega)) (fun _ => ?_)
      refine zdecT (show I 1 (I 0 7).toNatClampNeg = Int32.ofInt 62 from deq (by rw [ht, oI (by decide) (by decide)]; omega)) (fun _ => ?_)
      refine zdecT (show I 0 6 ≤ I 0 7 + Int32.ofInt 1 from dle (by rw [h6, h71]; omega)) (fun _ => ?_)
      refine zdecF (show ¬ I 1 (I 0 7).toNatClampNeg = Int32.ofInt 61 from den (by rw [ht, oI (by decide) (by decide)]; omega)) (fun _ => ?_)
      refine zdecF (show ¬ I 1 (I 0 7).toNatClampNeg = Int32.ofInt 60 from den (by rw [ht, oI (by decide) (by decide)]; omega)) (fun _ => ?_)
      refine zdecF (show ¬ I 1 (I 0 7).toNatClampNeg = Int32.ofInt 61 from den (by rw [ht, oI (by decide) (by decide)]; omega)) (fun _ => ?_)
      refine zdecF (show ¬ I 1 (I 0 7).toNatClampNeg = Int32.ofInt 60 from den (by rw [ht, oI (by decide) (by decide)]; omega)) (fun _ => ?_)
      refine hK _ 1 5 5 (Or.inr (Or.inr (Or.inr (Or.inr (Or.inr (Or.inl (⟨c62, by rw [if_neg hm]; decide, rfl, rfl, rfl⟩))))))) (fun _ => by omega) ?_ ?_ ?_ (fun q j hq => ?_)
      · exact e1
      · first | rfl | decide
      · first | rfl | decide
      · repeat (first | rw [zu2_off (by omega)] | rw [zsI_off (by omega)])
  by_cases c59 : T p = 59
  · skip
    refine zdecF eb (fun _ => ?_)
    refine zdecF (show ¬ I 1 (I 0 7).toNatClampNeg = Int32.ofInt 60 from den (by rw [ht, oI (by decide) (by decide)]; omega)) (fun _ => ?_)
    refine zdecF (show ¬ I 1 (I 0 7).toNatClampNeg = Int32.ofInt 62 from den (by rw [ht, oI (by decide) (by decide)]; omega)) (fun _ => ?_)
    refine zdecF (show ¬ I 1 (I 0 7).toNatClampNeg = Int32.ofInt 61 from den (by rw [ht, oI (by decide) (by decide)]; omega)) (fun _ => ?_)
    refine zdecT (show I 1 (I 0 7).toNatClampNeg = Int32.ofInt 59 from deq (by rw [ht, oI (by decide) (by decide)]; omega)) (fun _ => ?_)
    refine hK _ 1 4 (T p) (Or.inr (Or.inr (Or.inr (Or.inr (Or.inr (Or.inr (Or.inl (⟨Or.inl (c59), rfl, rfl, rfl⟩)))))))) (fun _ => by omega) ?_ ?_ ?_ (fun q j hq => ?_)
    · exact e1
    · first | rfl | decide
    · exact et
    · repeat (first | rw [zu2_off (by omega)] | rw [zsI_off (by omega)])
  by_cases c40 : T p = 40
  · skip
    refine zdecF eb (fun _ => ?_)
    refine zdecF (show ¬ I 1 (I 0 7).toNatClampNeg = Int32.ofInt 60 from den (by rw [ht, oI (by decide) (by decide)]; omega)) (fun _ => ?_)
    refine zdecF (show ¬ I 1 (I 0 7).toNatClampNeg = Int32.ofInt 62 from den (by rw [ht, oI (by decide) (by decide)]; omega)) (fun _ => ?_)
    refine zdecF (show ¬ I 1 (I 0 7).toNatClampNeg = Int32.ofInt 61 from den (by rw [ht, oI (by decide) (by decide)]; omega)) (fun _ => ?_)
    refine zdecF (show ¬ I 1 (I 0 7).toNatClampNeg = Int32.ofInt 59 from den (by rw [ht, oI (by decide) (by decide)]; omega)) (fun _ => ?_)
    refine zdecT (show I 1 (I 0 7).toNatClampNeg = Int32.ofInt 40 from deq (by rw [ht, oI (by decide) (by decide)]; omega)) (fun _ => ?_)
    refine hK _ 1 4 (T p) (Or.inr (Or.inr (Or.inr (Or.inr (Or.inr (Or.inr (Or.inl (⟨Or.inr (Or.inl (c40)), rfl, rfl, rfl⟩)))))))) (fun _ => by omega) ?_ ?_ ?_ (fun q j hq => ?_)
    · exact e1
    · first | rfl | decide
    · exact et
    · repeat (first | rw [zu2_off (by omega)] | rw [zsI_off (by omega)])
  by_cases c41 : T p = 41
  · skip
    refine zdecF eb (fun _ => ?_)
    refine zdecF (show ¬ I 1 (I 0 7).toNatClampNeg = Int32.ofInt 60 from den (by rw [ht, oI (by decide) (by decide)]; omega)) (fun _ => ?_)
    refine zdecF (show ¬ I 1 (I 0 7).toNatClampNeg = Int32.ofInt 62 from den (by rw [ht, oI (by decide) (by decide)]; omega)) (fun _ => ?_)
    refine zdecF (show ¬ I 1 (I 0 7).toNatClampNeg = Int32.ofInt 61 from den (by rw [ht, oI (by decide) (by decide)]; omega)) (fun _ => ?_)
    refine zdecF (show ¬ I 1 (I 0 7).toNatClampNeg = Int32.ofInt 59 from den (by rw [ht, oI (by decide) (by decide)]; omega)) (fun _ => ?_)
    refine zdecF (show ¬ I 1 (I 0 7).toNatClampNeg = Int32.ofInt 40 from den (by rw [ht, oI (by decide) (by decide)]; omega)) (fun _ => ?_)
    refine zdecT (show I 1 (I 0 7).toNatClampNeg = Int32.ofInt 41 from deq (by rw [ht, oI (by decide) (by decide)]; omega)) (fun _ => ?_)
    refine hK _ 1 4 (T p) (Or.inr (Or.inr (Or.inr (Or.inr (Or.inr (Or.inr (Or.inl (⟨Or.inr (Or.inr (Or.inl (c41))), rfl, rfl, rfl⟩)))))))) (fun _ => by omega) ?_ ?_ ?_ (fun q j hq => ?_)
    · exact e1
    · first | rfl | decide
    · exact et
    · repeat (first | rw [zu2_off (by omega)] | rw [zsI_off (by omega)])
  by_cases c43 : T p = 43
  · skip
    refine zdecF eb (fun _ => ?_)
    refine zdecF (show ¬ I 1 (I 0 7).toNatClampNeg = Int32.ofInt 60 from den (by rw [ht, oI (by decide) (by decide)]; omega)) (fun _ => ?_)
    refine zdecF (show ¬ I 1 (I 0 7).toNatClampNeg = Int32.ofInt 62 from den (by rw [ht, oI (by decide) (by decide)]; omega)) (fun _ => ?_)
    refine zdecF (show ¬ I 1 (I 0 7).toNatClampNeg = Int32.ofInt 61 from den (by rw [ht, oI (by decide) (by decide)]; omega)) (fun _ => ?_)
    refine zdecF (show ¬ I 1 (I 0 7).toNatClampNeg = Int32.ofInt 59 from den (by rw [ht, oI (by decide) (by decide)]; omega)) (fun _ => ?_)
    refine zdecF (show ¬ I 1 (I 0 7).toNatClampNeg = Int32.ofInt 40 from den (by rw [ht, oI (by decide) (by decide)]; omega)) (fun _ => ?_)
    refine zdecF (show ¬ I 1 (I 0 7).toNatClampNeg = Int32.ofInt 41 from den (by rw [ht, oI (by decide) (by decide)]; omega)) (fun _ => ?_)
    refine zdecT (show I 1 (I 0 7).toNatClampNeg = Int32.ofInt 43 from deq (by rw [ht, oI (by decide) (by decide)]; omega)) (fun _ => ?_)
    refine hK _ 1 4 (T p) (Or.inr (Or.inr (Or.inr (Or.inr (Or.inr (Or.inr (Or.inl (⟨Or.inr (Or.inr (Or.inr (Or.inl (c43)))), rfl, rfl, rfl⟩)))))))) (fun _ => by omega) ?_ ?_ ?_ (fun q j hq => ?_)
    · exact e1
    · first | rfl | decide
    · exact et
    · repeat (first | rw [zu2_off (by omega)] | rw [zsI_off (by omega)])
  by_cases c45 : T p = 45
  · skip
    refine zdecF eb (fun _ => ?_)
    refine zdecF (show ¬ I 1 (I 0 7).toNatClampNeg = Int32.ofInt 60 from den (by rw [ht, oI (by decide) (by decide)]; omega)) (fun _ => ?_)
    refine zdecF (show ¬ I 1 (I 0 7).toNatClampNeg = Int32.ofInt 62 from den (by rw [ht, oI (by decide) (by decide)]; omega)) (fun _ => ?_)
    refine zdecF (show ¬ I 1 (I 0 7).toNatClampNeg = Int32.ofInt 61 from den (by rw [ht, oI (by decide) (by decide)]; omega)) (fun _ => ?_)
    refine zdecF (show ¬ I 1 (I 0 7).toNatClampNeg = Int32.ofInt 59 from den (by rw [ht, oI (by decide) (by decide)]; omega)) (fun _ => ?_)
    refine zdecF (show ¬ I 1 (I 0 7).toNatClampNeg = Int32.ofInt 40 from den (by rw [ht, oI (by decide) (by decide)]; omega)) (fun _ => ?_)
    refine zdecF (show ¬ I 1 (I 0 7).toNatClampNeg = Int32.ofInt 41 from den (by rw [ht, oI (by decide) (by decide)]; omega)) (fun _ => ?_)
    refine zdecF (show ¬ I 1 (I 0 7).toNatClampNeg = Int32.ofInt 43 from den (by rw [ht, oI (by decide) (by decide)]; omega)) (fun _ => ?_)
    refine zdecT (show I 1 (I 0 7).toNatClampNeg = Int32.ofInt 45 from deq (by rw [ht, oI (by decide) (by decide)]; omega)) (fun _ => ?_)
    refine hK _ 1 4 (T p) (Or.inr (Or.inr (Or.inr (Or.inr (Or.inr (Or.inr (Or.inl (⟨Or.inr (Or.inr (Or.inr (Or.inr (Or.inl (c45))))), rfl, rfl, rfl⟩)))))))) (fun _ => by omega) ?_ ?_ ?_ (fun q j hq => ?_)
    · exact e1
    · first | rfl | decide
    · exact et
    · repeat (first | rw [zu2_off (by omega)] | rw [zsI_off (by omega)])
  by_cases c42 : T p = 42
  · skip
    refine zdecF eb (fun _ => ?_)
    refine zdecF (show ¬ I 1 (I 0 7).toNatClampNeg = Int32.ofInt 60 from den (by rw [ht, oI (by decide) (by decide)]; omega)) (fun _ => ?_)
    refine zdecF (show ¬ I 1 (I 0 7).toNatClampNeg = Int32.ofInt 62 from den (by rw [ht, oI (by decide) (by decide)]; omega)) (fun _ => ?_)
    refine zdecF (show ¬ I 1 (I 0 7).toNatClampNeg = Int32.ofInt 61 from den (by rw [ht, oI (by decide) (by decide)]; omega)) (fun _ => ?_)
    refine zdecF (show ¬ I 1 (I 0 7).toNatClampNeg = Int32.ofInt 59 from den (by rw [ht, oI (by decide) (by decide)]; omega)) (fun _ => ?_)
    refine zdecF (show ¬ I 1 (I 0 7).toNatClampNeg = Int32.ofInt 40 from den (by rw [ht, oI (by decide) (by decide)]; omega)) (fun _ => ?_)
    refine zdecF (show ¬ I 1 (I 0 7).toNatClampNeg = Int32.ofInt 41 from den (by rw [ht, oI (by decide) (by decide)]; omega)) (fun _ => ?_)
    refine zdecF (show ¬ I 1 (I 0 7).toNatClampNeg = Int32.ofInt 43 from den (by rw [ht, oI (by decide) (by decide)]; omega)) (fun _ => ?_)
    refine zdecF (show ¬ I 1 (I 0 7).toNatClampNeg = Int32.ofInt 45 from den (by rw [ht, oI (by decide) (by decide)]; omega)) (fun _ => ?_)
    refine zdecT (show I 1 (I 0 7).toNatClampNeg = Int32.ofInt 42 from deq (by rw [ht, oI (by decide) (by decide)]; omega)) (fun _ => ?_)
    refine hK _ 1 4 (T p) (Or.inr (Or.inr (Or.inr (Or.inr (Or.inr (Or.inr (Or.inl (⟨Or.inr (Or.inr (Or.inr (Or.inr (Or.inr (Or.inl (c42)))))), rfl, rfl, rfl⟩)))))))) (fun _ => by omega) ?_ ?_ ?_ (fun q j hq => ?_)
    · exact e1
    · first | rfl | decide
    · exact et
    · repeat (first | rw [zu2_off (by omega)] | rw [zsI_off (by omega)])
  by_cases c47 : T p = 47
  · skip
    refine zdecF eb (fun _ => ?_)
    refine zdecF (show ¬ I 1 (I 0 7).toNatClampNeg = Int32.ofInt 60 from den (by rw [ht, oI (by decide) (by decide)]; omega)) (fun _ => ?_)
    refine zdecF (show ¬ I 1 (I 0 7).toNatClampNeg = Int32.ofInt 62 from den (by rw [ht, oI (by decide) (by decide)]; omega)) (fun _ => ?_)
    refine zdecF (show ¬ I 1 (I 0 7).toNatClampNeg = Int32.ofInt 61 from den (by rw [ht, oI (by decide) (by decide)]; omega)) (fun _ => ?_)
    refine zdecF (show ¬ I 1 (I 0 7).toNatClampNeg = Int32.ofInt 59 from den (by rw [ht, oI (by decide) (by decide)]; omega)) (fun _ => ?_)
    refine zdecF (show ¬ I 1 (I 0 7).toNatClampNeg = Int32.ofInt 40 from den (by rw [ht, oI (by decide) (by decide)]; omega)) (fun _ => ?_)
    refine zdecF (show ¬ I 1 (I 0 7).toNatClampNeg = Int32.ofInt 41 from den (by rw [ht, oI (by decide) (by decide)]; omega)) (fun _ => ?_)
    refine zdecF (show ¬ I 1 (I 0 7).toNatClampNeg = Int32.ofInt 43 from den (by rw [ht, oI (by decide) (by decide)]; omega)) (fun _ => ?_)
    refine zdecF (show ¬ I 1 (I 0 7).toNatClampNeg = Int32.ofInt 45 from den (by rw [ht, oI (by decide) (by decide)]; omega)) (fun _ => ?_)
    refine zdecF (show ¬ I 1 (I 0 7).toNatClampNeg = Int32.ofInt 42 from den (by rw [ht, oI (by decide) (by decide)]; omega)) (fun _ => ?_)
    refine zdecT (show I 1 (I 0 7).toNatClampNeg = Int32.ofInt 47 from deq (by rw [ht, oI (by decide) (by decide)]; omega)) (fun _ => ?_)
    refine hK _ 1 4 (T p) (Or.inr (Or.inr (Or.inr (Or.inr (Or.inr (Or.inr (Or.inl (⟨Or.inr (Or.inr (Or.inr (Or.inr (Or.inr (Or.inr (Or.inl (c47))))))), rfl, rfl, rfl⟩)))))))) (fun _ => by omega) ?_ ?_ ?_ (fun q j hq => ?_)
    · exact e1
    · first | rfl | decide
    · exact et
    · repeat (first | rw [zu2_off (by omega)] | rw [zsI_off (by omega)])
  by_cases c37 : T p = 37
  · skip
    refine zdecF eb (fun _ => ?_)
    refine zdecF (show ¬ I 1 (I 0 7).toNatClampNeg = Int32.ofInt 60 from den (by rw [ht, oI (by decide) (by decide)]; omega)) (fun _ => ?_)
    refine zdecF (show ¬ I 1 (I 0 7).toNatClampNeg = Int32.ofInt 62 from den (by rw [ht, oI (by decide) (by decide)]; omega)) (fun _ => ?_)
    refine zdecF (show ¬ I 1 (I 0 7).toNatClampNeg = Int32.ofInt 61 from den (by rw [ht, oI (by decide) (by decide)]; omega)) (fun _ => ?_)
    refine zdecF (show ¬ I 1 (I 0 7).toNatClampNeg = Int32.ofInt 59 from den (by rw [ht, oI (by decide) (by decide)]; omega)) (fun _ => ?_)
    refine zdecF (show ¬ I 1 (I 0 7).toNatClampNeg = Int32.ofInt 40 from den (by rw [ht, oI (by decide) (by decide)]; omega)) (fun _ => ?_)
    refine zdecF (show ¬ I 1 (I 0 7).toNatClampNeg = Int32.ofInt 41 from den (by rw [ht, oI (by decide) (by decide)]; omega)) (fun _ => ?_)
    refine zdecF (show ¬ I 1 (I 0 7).toNatClampNeg = Int32.ofInt 43 from den (by rw [ht, oI (by decide) (by decide)]; omega)) (fun _ => ?_)
    refine zdecF (show ¬ I 1 (I 0 7).toNatClampNeg = Int32.ofInt 45 from den (by rw [ht, oI (by decide) (by decide)]; omega)) (fun _ => ?_)
    refine zdecF (show ¬ I 1 (I 0 7).toNatClampNeg = Int32.ofInt 42 from den (by rw [ht, oI (by decide) (by decide)]; omega)) (fun _ => ?_)
    refine zdecF (show ¬ I 1 (I 0 7).toNatClampNeg = Int32.ofInt 47 from den (by rw [ht, oI (by decide) (by decide)]; omega)) (fun _ => ?_)
    refine zdecT (show I 1 (I 0 7).toNatClampNeg = Int32.ofInt 37 from deq (by rw [ht, oI (by decide) (by decide)]; omega)) (fun _ => ?_)
    refine hK _ 1 4 (T p) (Or.inr (Or.inr (Or.inr (Or.inr (Or.inr (Or.inr (Or.inl (⟨Or.inr (Or.inr (Or.inr (Or.inr (Or.inr (Or.inr (Or.inr (c37))))))), rfl, rfl, rfl⟩)))))))) (fun _ => by omega) ?_ ?_ ?_ (fun q j hq => ?_)
    · exact e1
    · first | rfl | decide
    · exact et
    · repeat (first | rw [zu2_off (by omega)] | rw [zsI_off (by omega)])
  refine zdecF eb (fun _ => ?_)
  refine zdecF (show ¬ I 1 (I 0 7).toNatClampNeg = Int32.ofInt 60 from den (by rw [ht, oI (by decide) (by decide)]; omega)) (fun _ => ?_)
  refine zdecF (show ¬ I 1 (I 0 7).toNatClampNeg = Int32.ofInt 62 from den (by rw [ht, oI (by decide) (by decide)]; omega)) (fun _ => ?_)
  refine zdecF (show ¬ I 1 (I 0 7).toNatClampNeg = Int32.ofInt 61 from den (by rw [ht, oI (by decide) (by decide)]; omega)) (fun _ => ?_)
  refine zdecF (show ¬ I 1 (I 0 7).toNatClampNeg = Int32.ofInt 59 from den (by rw [ht, oI (by decide) (by decide)]; omega)) (fun _ => ?_)
  refine zdecF (show ¬ I 1 (I 0 7).toNatClampNeg = Int32.ofInt 40 from den (by rw [ht, oI (by decide) (by decide)]; omega)) (fun _ => ?_)
  refine zdecF (show ¬ I 1 (I 0 7).toNatClampNeg = Int32.ofInt 41 from den (by rw [ht, oI (by decide) (by decide)]; omega)) (fun _ => ?_)
  refine zdecF (show ¬ I 1 (I 0 7).toNatClampNeg = Int32.ofInt 43 from den (by rw [ht, oI (by decide) (by decide)]; omega)) (fun _ => ?_)
  refine zdecF (show ¬ I 1 (I 0 7).toNatClampNeg = Int32.ofInt 45 from den (by rw [ht, oI (by decide) (by decide)]; omega)) (fun _ => ?_)
  refine zdecF (show ¬ I 1 (I 0 7).toNatClampNeg = Int32.ofInt 42 from den (by rw [ht, oI (by decide) (by decide)]; omega)) (fun _ => ?_)
  refine zdecF (show ¬ I 1 (I 0 7).toNatClampNeg = Int32.ofInt 47 from den (by rw [ht, oI (by decide) (by decide)]; omega)) (fun _ => ?_)
  refine zdecF (show ¬ I 1 (I 0 7).toNatClampNeg = Int32.ofInt 37 from den (by rw [ht, oI (by decide) (by decide)]; omega)) (fun _ => ?_)
  refine hK _ 1 6 (T p) (Or.inr (Or.inr (Or.inr (Or.inr (Or.inr (Or.inr (Or.inr (⟨c59, c40, c41, c43, c45, c42, c47, c37, c60, c61, c62, rfl, rfl, rfl⟩)))))))) (fun _ => by omega) ?_ ?_ ?_ (fun q j hq => ?_)
  · exact e1
  · first | rfl | decide
  · exact et
  · repeat (first | rw [zu2_off (by omega)] | rw [zsI_off (by omega)])
