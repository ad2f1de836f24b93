set_option maxRecDepth 100000 in
set_option maxHeartbeats 4000000 in
theorem zkO {l : Launch} {Γ : zG} {d : Nat} {Kp : Option Value → zH → Prop} {I : zHI} {Lg : zHL} {P : zHP} {T : Nat → Int} {n p : Nat} (hH : tkH I P T n p) (hlt : p < n) (hl : ¬ (97 ≤ T p ∧ T p ≤ 122)) (hd : ¬ (48 ≤ T p ∧ T p ≤ 57))
    (hX : zXt l Γ (d + 1) Kp 278 [.ref 0] (zshM, zu2 I 0 10 (Int32.ofNat p), Lg, P)) : zXt l Γ (d + 1) Kp 52 [] (zshM, I, Lg, P) := by
  obtain ⟨hP, e6, e7, hn, hpn, hT⟩ := hH
  have ei : (I 0 7).toNatClampNeg = p := by rw [e7, ofN_cl (by omega)]
  have eb : ¬ (I 0 7 < 0 ∨ 700 ≤ (I 0 7).toNatClampNeg) := by
    rw [e7]
    exact ofN_ix (by omega) (by omega)
  have ht : (I 1 (I 0 7).toNatClampNeg).toInt = T p := by rw [ei, hT p (by omega)]
  have c6 : ¬ I 0 6 ≤ I 0 7 := by
    rw [e6, e7]
    exact dlen (by rw [oN (by omega), oN (by omega)]; omega)
  have eP := zPx hP
  have fin : zXt l Γ (d + 1) Kp 278 [.ref 0] (zshM, zu2 I 0 10 (I 0 7), Lg, (fun a b => if a = 0 ∧ b = 0 then some 1 else P a b : zHP)) := by
    rw [← eP, e7]
    exact hX
  rw [eP]
  refine zpcF (M := (zh195, zc195)) 195 278 rfl zckm195 (fun _ _ _ _ h => h) ?_
  refine zdecF (show ¬ I 0 7 = I 0 6 from ?_) (fun _ => ?_)
  · rw [e6, e7]
    exact den (by rw [oN (by omega), oN (by omega)]; omega)
  refine zdecF c6 (fun _ => ?_)
  refine zdecF eb (fun _ => ?_)
  by_cases a1 : T p < 97
  · refine zdecT (show I 1 (I 0 7).toNatClampNeg < Int32.ofInt 97 from dlt (by rw [ht, oI (by decide) (by decide)]; omega)) (fun _ => ?_)
    refine zdecF c6 (fun _ => ?_)
    refine zdecF eb (fun _ => ?_)
    by_cases a2 : T p < 48
    · refine zdecT (show I 1 (I 0 7).toNatClampNeg < Int32.ofInt 48 from dlt (by rw [ht, oI (by decide) (by decide)]; omega)) (fun _ => ?_)
      exact fin
    · refine zdecF (show ¬ I 1 (I 0 7).toNatClampNeg < Int32.ofInt 48 from dltn (by rw [ht, oI (by decide) (by decide)]; omega)) (fun _ => ?_)
      refine zdecF eb (fun _ => ?_)
      refine zdecT (show Int32.ofInt 57 < I 1 (I 0 7).toNatClampNeg from dlt (by rw [ht, oI (by decide) (by decide)]; omega)) (fun _ => ?_)
      exact fin
  · refine zdecF (show ¬ I 1 (I 0 7).toNatClampNeg < Int32.ofInt 97 from dltn (by rw [ht, oI (by decide) (by decide)]; omega)) (fun _ => ?_)
    refine zdecF eb (fun _ => ?_)
    refine zdecT (show Int32.ofInt 122 < I 1 (I 0 7).toNatClampNeg from dlt (by rw [ht, oI (by decide) (by decide)]; omega)) (fun _ => ?_)
    refine zdecF c6 (fun _ => ?_)
    refine zdecF eb (fun _ => ?_)
    refine zdecF (show ¬ I 1 (I 0 7).toNatClampNeg < Int32.ofInt 48 from dltn (by rw [ht, oI (by decide) (by decide)]; omega)) (fun _ => ?_)
    refine zdecF eb (fun _ => ?_)
    refine zdecT (show Int32.ofInt 57 < I 1 (I 0 7).toNatClampNeg from dlt (by rw [ht, oI (by decide) (by decide)]; omega)) (fun _ => ?_)
    exact fin
theorem tWd_bd (T : Nat → Int) : ∀ k p, p ≤ tWd T k p ∧ tWd T k p ≤ p + k ∧ ∀ j, p ≤ j → j < tWd T k p → 97 ≤ T j ∧ T j ≤ 122
  | 0, p => ⟨Nat.le_refl _, Nat.le_refl _, fun j h1 h2 => absurd h2 (Nat.not_lt.mpr h1)⟩
  | k + 1, p => by
    simp only [tWd]
    split
    · rename_i hc
      have := tWd_bd T k (p + 1)
      refine ⟨by omega, by omega, fun j h1 h2 => ?_⟩
      by_cases e : j = p
      · rw [e]
        exact hc
      · exact this.2.2 j (by omega) h2
    · exact ⟨Nat.le_refl _, by omega, fun j h1 h2 => absurd h2 (by omega)⟩
theorem tDg_bd (T : Nat → Int) : ∀ k p, p ≤ tDg T k p ∧ tDg T k p ≤ p + k
  | 0, p => ⟨Nat.le_refl _, Nat.le_refl _⟩
  | k + 1, p => by
    simp only [tDg]
    split
    · have := tDg_bd T k (p + 1)
      omega
    · omega
/-- a token of the reference: kind, which, its place, the place behind it; q where it begins -/
def tO (T : Nat → Int) (n q : Nat) (o9 k w : Int) (nx : Nat) : Prop := (q = n ∧ k = 0 ∧ w = o9 ∧ nx = n) ∨
  (q < n ∧ (97 ≤ T q ∧ T q ≤ 122) ∧ nx = tWd T (n - q) q ∧ ((∃ kk : Nat, kk < 21 ∧ mtW T q (nx - q) kk ∧ k = 1 ∧ w = (kk : Int)) ∨ ((∀ kk, kk < 21 → ¬ mtW T q (nx - q) kk) ∧ ((6 < nx - q ∧ k = 6 ∧ w = -1) ∨ (nx - q ≤ 6 ∧ k = 2 ∧ w = pk T q (nx - q)))))) ∨
  (q < n ∧ (48 ≤ T q ∧ T q ≤ 57) ∧ nx = tDg T (n - q) q ∧ k = 3 ∧ w = tNm T (n - q) q 0) ∨
  (q < n ∧ ¬ (97 ≤ T q ∧ T q ≤ 122) ∧ ¬ (48 ≤ T q ∧ T q ≤ 57) ∧ ∃ N : Nat, sgRel (T q) (if q + 1 < n then T (q + 1) else 0) N k w ∧ (N = 2 → q + 1 < n) ∧ nx = q + N)
theorem ztokM {l : Launch} {Γ : zG} {d : Nat} {Kp : Option Value → zH → Prop} {I : zHI} {Lg : zHL} {P : zHP} {T : Nat → Int} {n p : Nat} (hH : tkH I P T n p) (hP3 : P 0 3 = some 2) (hw : ∀ j c, wTab[j]? = some c → (I 2 j).toInt = c)
    (hK : ∀ (I' : zHI) (k w : Int) (nx : Nat), tO T n (tSk T (n - p) p) (I 0 9).toInt k w nx → (I' 0 7).toInt = (nx : Int) → (I' 0 8).toInt = k → (I' 0 9).toInt = w → (I' 0 10).toInt = ((tSk T (n - p) p : Nat) : Int) → (∀ q j, ¬ (q = 0 ∧ 7 ≤ j ∧ j ≤ 10) → I' q j = I q j) → Kp none (zshM, I', Lg, P)) : zSem l Γ false (d + 2) (zhd 195) [.ref 0] ((zshM, I, Lg, P) : zH) Kp := by
  show zSem l Γ false (d + 1 + 1) zh195 _ _ _
  have ha : sTL [sr0] [.ref 0] := ⟨_, _, rfl, rfl, rfl⟩
  refine zbody (by decide +kernel) (by rw [sslen_ok _ _ ha]; decide +kernel) ?_
  show zXt l Γ (d + 1) Kp 0 [] (zshM, I, Lg, P)
  have hpn := hH.2.2.2.2.1
  have hn := hH.2.2.2.1
  refine zkSk (n - p) p I (by omega) hH ?_
  have bd := tSk_bd T (n - p) p
  generalize hq : tSk T (n - p) p = q at hK bd ⊢
  have hH1 := hH.nx (q := q) (by omega)
  have hs : q < n → ¬ (T q = 10 ∨ T q = 32) := fun h => bd.2.2 (by omega)
  by_cases hqn : q = n
  · refine zkE hH1 hqn (hK _ 0 _ n (Or.inl ⟨hqn, rfl, rfl, rfl⟩) ?_ ?_ ?_ ?_ (fun x j hx => ?_))
    · rw [zu2_off (by decide), zu2_off (by decide), zu2_at, oN (by omega), hqn]
    · rw [zu2_at]
      decide
    · rw [zu2_off (by decide), zu2_off (by decide), zu2_off (by decide)]
    · rw [zu2_off (by decide), zu2_at, zu2_at, oN (by omega)]
    · rw [zu2_off (by omega), zu2_off (by omega), zu2_off (by omega)]
  have hqlt : q < n := by omega
  by_cases hl : 97 ≤ T q ∧ T q ≤ 122
  · refine zkL hH1 hqlt hl ?_
    have hH2 : tkH (zu2 (zu2 I 0 7 (Int32.ofNat q)) 0 10 (Int32.ofNat q)) P T n q := ⟨hH1.1, (zu2_off (by decide)).trans hH1.2.1, (zu2_off (by decide)).trans hH1.2.2.1, hH1.2.2.2.1, hH1.2.2.2.2.1, fun j hj => by
      rw [zu2_off (by omega)]
      exact hH1.2.2.2.2.2 j hj⟩
    refine zkWd (n - q) q _ (by omega) hH2 ?_
    have bw := tWd_bd T (n - q) q
    have bw1 : q + 1 ≤ tWd T (n - q) q := by
      have e : n - q = (n - q - 1) + 1 := by omega
      rw [e]
      simp only [tWd]
      rw [if_pos hl]
      exact (tWd_bd T (n - q - 1) (q + 1)).1
    generalize he : tWd T (n - q) q = e at bw bw1 ⊢
    have hH3 := hH2.nx (q := e) (by omega)
    obtain ⟨I3, hI3⟩ : ∃ I3, I3 = zu2 (zu2 (zu2 I 0 7 (Int32.ofNat q)) 0 10 (Int32.ofNat q)) 0 7 (Int32.ofNat e) := ⟨_, rfl⟩
    rw [← hI3] at hH3 ⊢
    have a7 : I3 0 7 = Int32.ofNat e := by rw [hI3, zu2_at]
    have a10 : I3 0 10 = Int32.ofNat q := by rw [hI3, zu2_off (by decide), zu2_at]
    have ao : ∀ x j, ¬ (x = 0 ∧ 7 ≤ j ∧ j ≤ 10) → I3 x j = I x j := fun x j hx => by rw [hI3, zu2_off (by omega), zu2_off (by omega), zu2_off (by omega)]
    have em : Int32.ofNat e = Int32.ofNat (q + (e - q)) := by
      congr 1
      omega
    rw [zu2_at, em]
    refine zcallR (as := [.int (Int32.ofNat (q + (e - q))), .int (Int32.ofNat q)]) (rest := [.ref 0]) zv_t0 rfl (by decide) (by rfl) ?_
    refine zwordAt (d := d) (T := T) (pa := q) (m := e - q) ⟨hH3.1, hP3, fun j c hc => ?_, by omega, by omega, hH3.2.2.2.2.2⟩ (fun r hr => ?_)
    · rw [ao 2 j (by omega)]
      exact hw j c hc
    have bm : (I3 0 7 - I3 0 10).toInt = ((e - q : Nat) : Int) := by
      rw [a7, a10, Int32.toInt_sub, oN (by omega), oN (by omega), s32r _ (by show (-2147483648 : Int) ≤ _; omega) (by show _ ≤ (2147483647 : Int); omega)]
      omega
    have hrb : -1 ≤ r ∧ r < 21 := by
      rcases hr with ⟨e1, _⟩ | ⟨kk, h1, e1, _⟩ <;> omega
    have tr : (Int32.ofInt r).toInt = r := oI (by omega) (by omega)
    show zXt l Γ (d + 1) Kp 127 [.int (Int32.ofInt r), .ref 0] (zshM, I3, Lg, P)
    refine zkW2 bm (fun g0 => ?_) (fun g0 g6 => ?_) (fun g0 g6 => ?_)
    · rw [tr] at g0
      rcases hr with ⟨e1, _⟩ | ⟨kk, h1, e1, h2⟩
      · omega
      · refine hK _ 1 r e (Or.inr (Or.inl ⟨hqlt, hl, he.symm, Or.inl ⟨kk, h1, h2, rfl, e1⟩⟩)) ?_ ?_ ?_ ?_ (fun x j hx => ?_)
        · rw [zu2_off (by decide), zu2_off (by decide), a7, oN (by omega)]
        · rw [zu2_at]
          decide
        · rw [zu2_off (by decide), zu2_at, tr]
        · rw [zu2_off (by decide), zu2_off (by decide), a10, oN (by omega)]
        · rw [zu2_off (by omega), zu2_off (by omega), ao x j hx]
    · rw [tr] at g0
      rcases hr with ⟨e1, hno⟩ | ⟨kk, h1, e1, h2⟩
      · refine hK _ 6 (-1) e (Or.inr (Or.inl ⟨hqlt, hl, he.symm, Or.inr ⟨hno, Or.inl ⟨by omega, rfl, rfl⟩⟩⟩)) ?_ ?_ ?_ ?_ (fun x j hx => ?_)
        · rw [zu2_off (by decide), zu2_off (by decide), a7, oN (by omega)]
        · rw [zu2_at]
          decide
        · rw [zu2_off (by decide), zu2_at, tr, e1]
        · rw [zu2_off (by decide), zu2_off (by decide), a10, oN (by omega)]
        · rw [zu2_off (by omega), zu2_off (by omega), ao x j hx]
      · omega
    · rw [tr] at g0
      rcases hr with ⟨e1, hno⟩ | ⟨kk, h1, e1, h2⟩
      · rw [a7, a10]
        refine zcallR (as := [.int (Int32.ofNat e), .int (Int32.ofNat q)]) (rest := [.ref 0]) zv_t1 rfl (by decide) (by rfl) ?_
        refine zpacked (d := d) (T := T) (pa := q) (m := e - q) rfl em hH3.1 (by omega) (fun j hj => ?_) (fun i hi => bw.2.2 (q + i) (by omega) (by omega)) (fun v hv => ?_)
        · rw [zu2_off (by omega), zu2_off (by omega)]
          exact hH3.2.2.2.2.2 j hj
        show zXt l Γ (d + 1) Kp 186 [.int v, .ref 0] _
        refine zkW3 (hK _ 2 (pk T q (e - q)) e (Or.inr (Or.inl ⟨hqlt, hl, he.symm, Or.inr ⟨hno, Or.inr ⟨by omega, rfl, rfl⟩⟩⟩)) ?_ ?_ ?_ ?_ (fun x j hx => ?_))
        · rw [zu2_off (by decide), zu2_off (by decide), zu2_off (by decide), a7, oN (by omega)]
        · rw [zu2_off (by decide), zu2_at]
          decide
        · rw [zu2_at, hv]
        · rw [zu2_off (by decide), zu2_off (by decide), zu2_off (by decide), a10, oN (by omega)]
        · rw [zu2_off (by omega), zu2_off (by omega), zu2_off (by omega), ao x j hx]
      · omega
  by_cases hdg : 48 ≤ T q ∧ T q ≤ 57
  · refine zkD hH1 hqlt hdg ?_
    have hH2 : tkH (zu2 (zu2 (zu2 (zu2 I 0 7 (Int32.ofNat q)) 0 10 (Int32.ofNat q)) 0 8 (Int32.ofInt 3)) 0 9 (Int32.ofInt 0)) P T n q := ⟨hH1.1, by rw [zu2_off (by decide), zu2_off (by decide), zu2_off (by decide)]; exact hH1.2.1, by rw [zu2_off (by decide), zu2_off (by decide), zu2_off (by decide)]; exact hH1.2.2.1, hH1.2.2.2.1, hH1.2.2.2.2.1, fun j hj => by
      rw [zu2_off (by omega), zu2_off (by omega), zu2_off (by omega)]
      exact hH1.2.2.2.2.2 j hj⟩
    have bg := tDg_bd T (n - q) q
    have bn := tNm_bd T (n - q) q 0 (by decide) (by decide)
    refine zkDg (n - q) q 0 _ (by omega) hH2 zu2_at (by decide) (by decide) (fun I' a7 a9 ao => ?_)
    refine hK I' 3 (tNm T (n - q) q 0) (tDg T (n - q) q) (Or.inr (Or.inr (Or.inl ⟨hqlt, hdg, rfl, rfl, rfl⟩))) (by rw [a7, oN (by omega)]) ?_ (by rw [a9]; exact oI (by omega) (by omega)) ?_ (fun x j hx => ?_)
    · rw [ao 0 8 (by decide), zu2_off (by decide), zu2_at]
      decide
    · rw [ao 0 10 (by decide), zu2_off (by decide), zu2_off (by decide), zu2_at, oN (by omega)]
    · rw [ao x j (by omega), zu2_off (by omega), zu2_off (by omega), zu2_off (by omega), zu2_off (by omega)]
  · refine zkO hH1 hqlt hl hdg ?_
    have hH2 : tkH (zu2 (zu2 I 0 7 (Int32.ofNat q)) 0 10 (Int32.ofNat q)) P T n q := ⟨hH1.1, (zu2_off (by decide)).trans hH1.2.1, (zu2_off (by decide)).trans hH1.2.2.1, hH1.2.2.2.1, hH1.2.2.2.2.1, fun j hj => by
      rw [zu2_off (by omega)]
      exact hH1.2.2.2.2.2 j hj⟩
    refine zcallR (as := []) (rest := []) zv_t2 rfl (by decide) (by rfl) ?_
    refine zkS (d := d) hH2 hqlt (fun I' N k w hsg hN b7 b8 b9 bo => ?_)
    show zXt l Γ (d + 1) Kp 281 [] (zshM, I', Lg, P)
    have Nb : 1 ≤ N ∧ N ≤ 2 := by
      unfold sgRel at hsg
      omega
    have kb : 4 ≤ k ∧ k ≤ 6 := by
      unfold sgRel at hsg
      omega
    have tb : 0 ≤ T q ∧ T q ≤ 255 ∨ True := Or.inr trivial
    refine zkRr (hK I' k w (q + N) (Or.inr (Or.inr (Or.inr ⟨hqlt, hl, hdg, N, hsg, hN, rfl⟩))) (by rw [b7, oN (by omega)]) (by rw [b8]; exact oI (by omega) (by omega)) ?_ ?_ (fun x j hx => ?_))
    · rw [b9]
      have ht : ((zu2 (zu2 I 0 7 (Int32.ofNat q)) 0 10 (Int32.ofNat q)) 1 q).toInt = T q := hH2.2.2.2.2.2 q (by omega)
      have hb := i32bd ((zu2 (zu2 I 0 7 (Int32.ofNat q)) 0 10 (Int32.ofNat q)) 1 q)
      refine Int32.toInt_ofInt_of_le ?_ ?_ <;> (unfold sgRel at hsg; omega)
    · rw [bo 0 10 (by decide), zu2_at, oN (by omega)]
    · rw [bo x j (by omega), zu2_off (by omega), zu2_off (by omega)]
