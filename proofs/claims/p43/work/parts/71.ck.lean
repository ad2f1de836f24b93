/-! the class's next as a whole -/
theorem ckWL {l : Launch} {Γ : zG} {d : Nat} {Kp : Option Value → zH → Prop} {Lg : zHL} {P : zHP} {T : Nat → Int} {n pa : Nat} (k : Nat) : ∀ (i : Nat) (I : zHI), pa + i + k = n → cH I P T n (pa + i) → I 3 6 = Int32.ofInt (pk T pa (min i 6)) → ltH T pa i →
    (∀ (I' : zHI) (S : Int32), I' 3 3 = Int32.ofNat (tWd T k (pa + i)) → I' 3 6 = Int32.ofInt (pk T pa (min (tWd T k (pa + i) - pa) 6)) → (∀ q j, ¬ (q = 3 ∧ (j = 3 ∨ j = 6)) → I' q j = I q j) → zX l Γ false (d + 1) zh35 (zMQ' Γ false zh35 Kp) 0 0 107 [(2, .int (Int32.ofNat 0)), (1, .int S), (0, .ref 3)] [] (zshC, zu2 I' 3 4 (Int32.ofInt (if 6 < tWd T k (pa + i) - pa then 1 else 2)), Lg, P)) →
    zX l Γ false (d + 1) zh35 (zMQ' Γ false zh35 Kp) 0 0 8 [(1, .int (Int32.ofInt (30 - 5 * (i : Int)))), (0, .ref 3)] [] (zshC, I, Lg, P) := by
  induction k with
  | zero =>
    intro i I hk hH e6 hl hX
    have e : tWd T 0 (pa + i) - pa = i := by
      show pa + i - pa = i
      omega
    have hn := hH.2.2.2.2.1
    have hX := hX I (Int32.ofInt (30 - 5 * (i : Int))) hH.2.2.2.1 (by rw [e]; exact e6) (fun _ _ _ => rfl)
    rw [e] at hX
    exact ckWx rfl (by omega) hH (fun h => absurd h (by omega)) hX
  | succ k ih =>
    intro i I hk hH e6 hl hX
    have hn := hH.2.2.2.2.1
    by_cases hs : 97 ≤ T (pa + i) ∧ T (pa + i) ≤ 122
    · have e : tWd T (k + 1) (pa + i) = tWd T k (pa + (i + 1)) := by
        simp only [tWd]
        rw [if_pos hs]
        rfl
      rw [e] at hX
      have hl' : ltH T pa (i + 1) := fun j hj => by
        by_cases ej : j = i
        · rw [ej]
          exact hs
        · exact hl j (by omega)
      have e5 : Int32.ofInt (30 - 5 * (i : Int)) + Int32.ofInt (-5) = Int32.ofInt (30 - 5 * ((i + 1 : Nat) : Int)) := by
        rw [← Int32.ofInt_add]
        exact congrArg Int32.ofInt (by omega)
      refine ckW1 e5 hH (by omega) hs ?_
      by_cases h6 : i < 6
      · have m1 : min i 6 = i := by omega
        have m2 : min (i + 1) 6 = i + 1 := by omega
        rw [m1] at e6
        refine ckWi rfl h6 rfl hH (by omega) hs hl e6 ?_
        refine ih (i + 1) _ (by omega) (((hH.up (j := 6) (by decide) _).nx (q := pa + i + 1) (by omega))) ?_ hl' (fun I' S a3 a6 ao => hX I' S a3 a6 (fun q j hq => ?_))
        · rw [zu2_off (by decide), zu2_at, m2]
        · rw [ao q j hq, zu2_off (by omega), zu2_off (by omega)]
      · have m1 : min i 6 = 6 := by omega
        have m2 : min (i + 1) 6 = 6 := by omega
        refine ckWj rfl (by omega) (by omega) hH (by omega) hs ?_
        refine ih (i + 1) _ (by omega) (hH.nx (q := pa + i + 1) (by omega)) ?_ hl' (fun I' S a3 a6 ao => hX I' S a3 a6 (fun q j hq => ?_))
        · rw [zu2_off (by decide), e6, m1, m2]
        · rw [ao q j hq, zu2_off (by omega)]
    · have e : tWd T (k + 1) (pa + i) = pa + i := by
        simp only [tWd]
        rw [if_neg hs]
      rw [e] at hX
      have e' : pa + i - pa = i := by omega
      have hX := hX I (Int32.ofInt (30 - 5 * (i : Int))) hH.2.2.2.1 (by rw [e']; exact e6) (fun _ _ _ => rfl)
      rw [e'] at hX
      exact ckWx rfl (by omega) hH (fun _ => hs) hX
/-- the class's kind of a word -/
def cWk (T : Nat → Int) (q m : Nat) : Int := if 6 < m then 1 else cFd (pk T q m) 21 0
theorem pk_0 (T : Nat → Int) (pa : Nat) : pk T pa 0 = 0 := by
  unfold pk pkX
  simp
theorem pk_bd {T : Nat → Int} {pa m : Nat} (hL : ltH T pa m) : 0 ≤ pk T pa m ∧ pk T pa m < 1073741824 := by
  have y0 := pkX_bd hL 0
  have y1 := pkX_bd hL 1
  have y2 := pkX_bd hL 2
  have y3 := pkX_bd hL 3
  have y4 := pkX_bd hL 4
  have y5 := pkX_bd hL 5
  unfold pk
  omega
set_option maxRecDepth 100000 in
set_option maxHeartbeats 4000000 in
theorem zcutW {l : Launch} {Γ : zG} {d : Nat} {Kp : Option Value → zH → Prop} {I : zHI} {Lg : zHL} {P : zHP} {T : Nat → Int} {n p : Nat} (hH : cH I P T n p) (hW : ∀ j, j < 21 → (I 4 j).toInt = wC.getD j 0)
    (hK : ∀ I' : zHI, I' 3 3 = Int32.ofNat (tWd T (n - p) p) → I' 3 4 = Int32.ofInt (cWk T p (tWd T (n - p) p - p)) → (I' 3 6).toInt = pk T p (min (tWd T (n - p) p - p) 6) → (∀ q j, ¬ (q = 3 ∧ (j = 3 ∨ j = 4 ∨ j = 6)) → I' q j = I q j) → Kp none (zshC, I', Lg, P)) : zSem l Γ false (d + 1) (zhd 35) [.ref 3] ((zshC, I, Lg, P) : zH) Kp := by
  show zSem l Γ false (d + 1) zh35 _ _ _
  refine zbody (by decide +kernel) (by decide) ?_
  have hpn := hH.2.2.2.2.2.1
  have bw := tWd_bd T (n - p) p
  have hlt : ltH T p (min (tWd T (n - p) p - p) 6) := fun i hi => bw.2.2 (p + i) (by omega) (by omega)
  refine zpcF (M := (zh35, zc35)) 0 8 rfl zckm35 (fun _ _ _ _ h => h) ?_
  show zX l Γ false (d + 1) zh35 (zMQ' Γ false zh35 Kp) 0 0 8 [(1, .int (Int32.ofInt (30 - 5 * ((0 : Nat) : Int)))), (0, .ref 3)] [] (zshC, zu2 I 3 6 (Int32.ofInt 0), Lg, P)
  refine ckWL (n - p) 0 _ (by omega) (hH.up (j := 6) (by decide) _) (by rw [zu2_at, show min 0 6 = 0 from rfl, pk_0]) (fun i hi => absurd hi (Nat.not_lt_zero _)) (fun I' S a3 a6 ao => ?_)
  have e0 : p + 0 = p := rfl
  rw [e0] at a3 a6 ⊢
  have ha6 : (I' 3 6).toInt = pk T p (min (tWd T (n - p) p - p) 6) := by
    rw [a6]
    have := pk_bd hlt
    exact Int32.toInt_ofInt_of_le (by omega) (by omega)
  by_cases h6 : 6 < tWd T (n - p) p - p
  · rw [if_pos h6]
    refine ckFx (by decide) hH.1 hH.2.1 (kk := 1) (by rw [zu2_at]; decide) (Or.inr (by decide)) (hK _ ?_ ?_ ?_ (fun q j hq => ?_))
    · rw [zu2_off (by decide), a3]
    · rw [zu2_at]
      unfold cWk
      rw [if_pos h6]
    · rw [zu2_off (by decide), ha6]
    · rw [zu2_off (by omega), ao q j (by omega), zu2_off (by omega)]
  · rw [if_neg h6]
    have m6 : min (tWd T (n - p) p - p) 6 = tWd T (n - p) p - p := by omega
    refine ckFd hH.1 hH.2.1 21 0 _ (fun j hj => ?_) rfl zu2_at ((congrArg Int32.toInt (zu2_off (by decide))).trans ha6) (hK _ ?_ ?_ ?_ (fun q j hq => ?_))
    · rw [zu2_off (by omega), ao 4 j (by omega), zu2_off (by omega)]
      exact hW j hj
    · rw [zu2_off (by decide), zu2_off (by decide), a3]
    · rw [zu2_at]
      unfold cWk
      rw [if_neg h6, m6]
    · rw [zu2_off (by decide), zu2_off (by decide), ha6]
    · rw [zu2_off (by omega), zu2_off (by omega), ao q j (by omega), zu2_off (by omega)]
theorem ckNL {l : Launch} {Γ : zG} {d : Nat} {Kp : Option Value → zH → Prop} {Lg : zHL} {P : zHP} {T : Nat → Int} {n : Nat} (k : Nat) : ∀ (p : Nat) (a : Int) (I : zHI), p + k = n → cH I P T n p → I 3 7 = Int32.ofInt a → 0 ≤ a → a ≤ 9999999 → (∀ I' : zHI, I' 3 3 = Int32.ofNat (tDg T k p) → I' 3 7 = Int32.ofInt (cNm T k p a) → (∀ q j, ¬ (q = 3 ∧ (j = 3 ∨ j = 7)) → I' q j = I q j) → Kp none (zshC, zu2 I' 3 4 (Int32.ofInt 3), Lg, P)) → zX l Γ false (d + 1) zh36 (zMQ' Γ false zh36 Kp) 0 0 5 [(0, .ref 3)] [] (zshC, I, Lg, P) := by
  induction k with
  | zero =>
    intro p a I hk hH e7 h0 h1 hK
    exact ckNx hH (fun h => absurd h (by omega)) (hK I hH.2.2.2.1 e7 (fun _ _ _ => rfl))
  | succ k ih =>
    intro p a I hk hH e7 h0 h1 hK
    by_cases hs : 48 ≤ T p ∧ T p ≤ 57
    · have e : tDg T (k + 1) p = tDg T k (p + 1) := by
        simp only [tDg]
        rw [if_pos hs]
      have e' : cNm T (k + 1) p a = cNm T k (p + 1) (if a < 1000000 then a * 10 + T p - 48 else a) := by
        simp only [cNm]
        rw [if_pos hs]
      rw [e, e'] at hK
      refine ckNi hH (by omega) hs e7 ⟨h0, h1⟩ (ih (p + 1) _ _ (by omega) ((hH.up (j := 7) (by decide) _).nx (by omega)) ((zu2_off (by decide)).trans zu2_at) ?_ ?_ (fun I' a1 a2 a3 => hK I' a1 a2 (fun q j hq => ?_)))
      · split <;> omega
      · split <;> omega
      · rw [a3 q j hq, zu2_off (by omega), zu2_off (by omega)]
    · have e : tDg T (k + 1) p = p := by
        simp only [tDg]
        rw [if_neg hs]
      have e' : cNm T (k + 1) p a = a := by
        simp only [cNm]
        rw [if_neg hs]
      rw [e, e'] at hK
      exact ckNx hH (fun _ => hs) (hK I hH.2.2.2.1 e7 (fun _ _ _ => rfl))
set_option maxRecDepth 100000 in
set_option maxHeartbeats 4000000 in
theorem zcutN {l : Launch} {Γ : zG} {d : Nat} {Kp : Option Value → zH → Prop} {I : zHI} {Lg : zHL} {P : zHP} {T : Nat → Int} {n p : Nat} (hH : cH I P T n p)
    (hK : ∀ I' : zHI, I' 3 3 = Int32.ofNat (tDg T (n - p) p) → I' 3 4 = Int32.ofInt 3 → I' 3 7 = Int32.ofInt (cNm T (n - p) p 0) → (∀ q j, ¬ (q = 3 ∧ (j = 3 ∨ j = 4 ∨ j = 7)) → I' q j = I q j) → Kp none (zshC, I', Lg, P)) : zSem l Γ false (d + 1) (zhd 36) [.ref 3] ((zshC, I, Lg, P) : zH) Kp := by
  show zSem l Γ false (d + 1) zh36 _ _ _
  refine zbody (by decide +kernel) (by decide) ?_
  have hpn := hH.2.2.2.2.2.1
  refine zpcF (M := (zh36, zc36)) 0 5 rfl zckm36 (fun _ _ _ _ h => h) ?_
  show zX l Γ false (d + 1) zh36 (zMQ' Γ false zh36 Kp) 0 0 5 [(0, .ref 3)] [] (zshC, zu2 I 3 7 (Int32.ofInt 0), Lg, P)
  refine ckNL (n - p) p 0 _ (by omega) (hH.up (j := 7) (by decide) _) zu2_at (by decide) (by decide) (fun I' a3 a7 ao => hK _ ?_ zu2_at ?_ (fun q j hq => ?_))
  · rw [zu2_off (by decide), a3]
  · rw [zu2_off (by decide), a7]
  · rw [zu2_off (by omega), ao q j (by omega), zu2_off (by omega)]
theorem zv_n0 : zcvB 34 108 2 0 35 = true := by decide +kernel
theorem zv_n1 : zcvB 34 143 2 0 36 = true := by decide +kernel
theorem zv_n2 : zcvB 34 150 2 0 37 = true := by decide +kernel
set_option maxRecDepth 100000 in
set_option maxHeartbeats 4000000 in
theorem ckR {l : Launch} {Γ : zG} {d : Nat} {Kp : Option Value → zH → Prop} {h : zH} {pc : Nat} (hpc : pc = 111 ∨ pc = 146 ∨ pc = 153) (hK : Kp none h) : zX l Γ false (d + 1) zh34 (zMQ' Γ false zh34 Kp) 0 0 pc [(0, .ref 3)] [] h := by
  rcases hpc with rfl | rfl | rfl
  · refine zpcF (M := (zh34, zc34)) 0 1000 rfl zckm34 (fun _ _ _ _ h => h) ?_
    exact hK
  · refine zpcF (M := (zh34, zc34)) 0 1000 rfl zckm34 (fun _ _ _ _ h => h) ?_
    exact hK
  · refine zpcF (M := (zh34, zc34)) 0 1000 rfl zckm34 (fun _ _ _ _ h => h) ?_
    exact hK
/-- a token of the class: kind, letters, value, the place behind it; q where it begins -/
def cO (T : Nat → Int) (n q : Nat) (k : Int) (ls vl : Int) (nx : Nat) : Prop := (q = n ∧ k = 0 ∧ nx = n) ∨
  (q < n ∧ (97 ≤ T q ∧ T q ≤ 122) ∧ nx = tWd T (n - q) q ∧ k = cWk T q (nx - q) ∧ ls = pk T q (min (nx - q) 6)) ∨
  (q < n ∧ (48 ≤ T q ∧ T q ≤ 57) ∧ nx = tDg T (n - q) q ∧ k = 3 ∧ vl = cNm T (n - q) q 0) ∨
  (q < n ∧ ¬ (97 ≤ T q ∧ T q ≤ 122) ∧ ¬ (48 ≤ T q ∧ T q ≤ 57) ∧ ∃ N : Nat, csRel (T q) (if q + 1 < n then T (q + 1) else 0) N k ∧ (N = 2 → q + 1 < n) ∧ nx = q + N)
theorem cFd_bd (v : Int) : ∀ k j, 2 ≤ cFd v k j ∧ cFd v k j ≤ 10 + (j : Int) + k
  | 0, j => by
    show (2 : Int) ≤ 2 ∧ (2 : Int) ≤ _
    omega
  | k + 1, j => by
    simp only [cFd]
    split
    · omega
    · have := cFd_bd v k (j + 1)
      omega
theorem cNm_bd (T : Nat → Int) : ∀ k p a, 0 ≤ a → a ≤ 9999999 → 0 ≤ cNm T k p a ∧ cNm T k p a ≤ 9999999
  | 0, _, _, h0, h1 => ⟨h0, h1⟩
  | k + 1, p, a, h0, h1 => by
    simp only [cNm]
    split
    · rename_i hc
      refine cNm_bd T k (p + 1) _ ?_ ?_ <;> (split <;> omega)
    · exact ⟨h0, h1⟩
theorem znext {l : Launch} {Γ : zG} {d : Nat} {Kp : Option Value → zH → Prop} {I : zHI} {Lg : zHL} {P : zHP} {T : Nat → Int} {n p : Nat} (hH : cH I P T n p) (hW : ∀ j, j < 21 → (I 4 j).toInt = wC.getD j 0) (hv7 : 0 ≤ (I 3 7).toInt ∧ (I 3 7).toInt ≤ 10000000)
    (hK : ∀ (I' : zHI) (k : Int) (nx : Nat), cO T n (tSk T (n - p) p) k (I' 3 6).toInt (I' 3 7).toInt nx → (I' 3 3).toInt = (nx : Int) → (I' 3 4).toInt = k → (I' 3 5).toInt = ((tSk T (n - p) p : Nat) : Int) → (0 ≤ (I' 3 7).toInt ∧ (I' 3 7).toInt ≤ 10000000) → (∀ q j, ¬ (q = 3 ∧ 3 ≤ j ∧ j ≤ 7) → I' q j = I q j) → Kp none (zshC, I', Lg, P)) : zSem l Γ false (d + 3) (zhd 34) [.ref 3] ((zshC, I, Lg, P) : zH) Kp := by
  show zSem l Γ false (d + 2 + 1) zh34 _ _ _
  refine zbody (by decide +kernel) (by decide) ?_
  show zX l Γ false (d + 2 + 1) zh34 (zMQ' Γ false zh34 Kp) 0 0 0 [(0, .ref 3)] [] (zshC, I, Lg, P)
  have hpn := hH.2.2.2.2.2.1
  have hn := hH.2.2.2.2.1
  refine ckSk (n - p) p I (by omega) hH ?_
  have bd := tSk_bd T (n - p) p
  generalize hq : tSk T (n - p) p = q at hK bd ⊢
  have hH1 := hH.nx (q := q) (by omega)
  by_cases hqn : q = n
  · refine ckE hH1 hqn (hK _ 0 n (Or.inl ⟨hqn, rfl, rfl⟩) ?_ ?_ ?_ ?_ (fun x j hx => ?_))
    · rw [zu2_off (by decide), zu2_off (by decide), zu2_at, oN (by omega), hqn]
    · rw [zu2_at]
      decide
    · rw [zu2_off (by decide), zu2_at, zu2_at, oN (by omega)]
    · rw [zu2_off (by decide), zu2_off (by decide), zu2_off (by decide)]
      exact hv7
    · rw [zu2_off (by omega), zu2_off (by omega), zu2_off (by omega)]
  have hqlt : q < n := by omega
  have hH2 : cH (zu2 (zu2 I 3 3 (Int32.ofNat q)) 3 5 (Int32.ofNat q)) P T n q := hH1.up (by decide) _
  by_cases hl : 97 ≤ T q ∧ T q ≤ 122
  · refine ckL hH1 hqlt hl ?_
    refine zcallR (as := []) (rest := []) (q0 := 3) zv_n0 rfl (by decide) (by rfl) ?_
    have bw := tWd_bd T (n - q) q
    refine zcutW (d := d + 1) hH2 (fun j hj => ?_) (fun I' a3 a4 a6 ao => ?_)
    · rw [zu2_off (by omega), zu2_off (by omega)]
      exact hW j hj
    show zX l Γ false (d + 2 + 1) zh34 (zMQ' Γ false zh34 Kp) 0 0 111 [(0, .ref 3)] [] (zshC, I', Lg, P)
    refine ckR (Or.inl rfl) (hK I' (cWk T q (tWd T (n - q) q - q)) (tWd T (n - q) q) (Or.inr (Or.inl ⟨hqlt, hl, rfl, rfl, a6⟩)) (by rw [a3, oN (by omega)]) ?_ ?_ (by rw [ao 3 7 (by decide), zu2_off (by decide), zu2_off (by decide)]; exact hv7) (fun x j hx => ?_))
    · rw [a4]
      have := cFd_bd (pk T q (tWd T (n - q) q - q)) 21 0
      refine oI ?_ ?_ <;> (unfold cWk; split <;> omega)
    · rw [ao 3 5 (by decide), zu2_at, oN (by omega)]
    · rw [ao x j (by omega), zu2_off (by omega), zu2_off (by omega)]
  by_cases hdg : 48 ≤ T q ∧ T q ≤ 57
  · refine ckD hH1 hqlt hdg ?_
    refine zcallR (as := []) (rest := []) (q0 := 3) zv_n1 rfl (by decide) (by rfl) ?_
    have bg := tDg_bd T (n - q) q
    have bn := cNm_bd T (n - q) q 0 (by decide) (by decide)
    refine zcutN (d := d + 1) hH2 (fun I' a3 a4 a7 ao => ?_)
    show zX l Γ false (d + 2 + 1) zh34 (zMQ' Γ false zh34 Kp) 0 0 146 [(0, .ref 3)] [] (zshC, I', Lg, P)
    refine ckR (Or.inr (Or.inl rfl)) (hK I' 3 (tDg T (n - q) q) (Or.inr (Or.inr (Or.inl ⟨hqlt, hdg, rfl, rfl, ?_⟩))) (by rw [a3, oN (by omega)]) ?_ ?_ (by rw [a7, Int32.toInt_ofInt_of_le (by omega) (by omega)]; omega) (fun x j hx => ?_))
    · rw [a7]
      exact Int32.toInt_ofInt_of_le (by omega) (by omega)
    · rw [a4]
      decide
    · rw [ao 3 5 (by decide), zu2_at, oN (by omega)]
    · rw [ao x j (by omega), zu2_off (by omega), zu2_off (by omega)]
  · refine ckO hH1 hqlt ⟨hl, hdg⟩ ?_
    refine zcallR (as := []) (rest := []) (q0 := 3) zv_n2 rfl (by decide) (by rfl) ?_
    refine ckS (d := d) hH2 hqlt hdg (fun I' N k hcs hN b3 b4 bo => ?_)
    show zX l Γ false (d + 2 + 1) zh34 (zMQ' Γ false zh34 Kp) 0 0 153 [(0, .ref 3)] [] (zshC, I', Lg, P)
    have Nb : 1 ≤ N ∧ N ≤ 2 := by
      unfold csRel at hcs
      omega
    have kb : 1 ≤ k ∧ k ≤ 40 := by
      unfold csRel at hcs
      omega
    refine ckR (Or.inr (Or.inr rfl)) (hK I' k (q + N) (Or.inr (Or.inr (Or.inr ⟨hqlt, hl, hdg, N, hcs, hN, rfl⟩))) (by rw [b3, oN (by omega)]) (by rw [b4]; exact oI (by omega) (by omega)) ?_ (by rw [bo 3 7 (by decide), zu2_off (by decide), zu2_off (by decide)]; exact hv7) (fun x j hx => ?_))
    · rw [bo 3 5 (by decide), zu2_at, oN (by omega)]
    · rw [bo x j (by omega), zu2_off (by omega), zu2_off (by omega)]
