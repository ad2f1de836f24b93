/-! the class: find -/
theorem ofN_mul (a b : Nat) : Int32.ofNat a * Int32.ofNat b = Int32.ofNat (a * b) := by
  rw [← Int32.ofInt_eq_ofNat, ← Int32.ofInt_eq_ofNat, ← Int32.ofInt_eq_ofNat, ← Int32.ofInt_mul]
  rfl
set_option maxRecDepth 100000 in
set_option maxHeartbeats 4000000 in
theorem rcS10 {l : Launch} {Γ : zG} {d : Nat} {Kp : Option Value → zH → Prop} {I : zHI} {Lg : zHL} {P : zHP} {v K X K' : Int32} (hP : P 10 2 = some 11) (hX : K * I 10 1 + Int32.ofInt 0 = X) (hK' : K + Int32.ofInt 1 = K') (c1 : ¬ I 10 3 ≤ K) (c2 : ¬ K < 0) (c3 : Int32.ofInt 0 < I 10 1) (c4 : ¬ Int32.ofInt 5 ≤ X) (hb : ¬ (X < 0 ∨ 5 ≤ X.toNatClampNeg)) (hN : I 11 X.toNatClampNeg ≠ v → zX l Γ false (d + 2) zh45 (zMQ' Γ false zh45 Kp) 0 0 2 [(2, .int K'), (0, .ref 10), (1, .int v)] [] (zshC, I, Lg, P)) (hY : I 11 X.toNatClampNeg = v → Kp (some (.int K)) (zshC, I, Lg, P)) : zX l Γ false (d + 2) zh45 (zMQ' Γ false zh45 Kp) 0 0 2 [(2, .int K), (0, .ref 10), (1, .int v)] [] (zshC, I, Lg, P) := by
  subst hX
  subst hK'
  have eP := zPn hP
  rw [eP] at hN hY ⊢
  refine zpcF (M := (zh45, zc45)) 45 2 rfl zckm45 (fun _ _ _ _ h => h) ?_
  refine zdecF c1 (fun _ => ?_)
  refine zdecF c2 (fun _ => ?_)
  refine zdecF c1 (fun _ => ?_)
  refine zdecT c3 (fun _ => ?_)
  refine zdecF c4 (fun _ => ?_)
  refine zdecF hb (fun _ => ?_)
  by_cases e : I 11 (K * I 10 1 + Int32.ofInt 0).toNatClampNeg = v
  · refine zdecT e (fun _ => ?_)
    exact hY e
  · refine zdecF e (fun _ => ?_)
    exact hN e
set_option maxRecDepth 100000 in
set_option maxHeartbeats 4000000 in
theorem rcX10 {l : Launch} {Γ : zG} {d : Nat} {Kp : Option Value → zH → Prop} {I : zHI} {Lg : zHL} {P : zHP} {v K : Int32} (hle : I 10 3 ≤ K) (hK : Kp (some (.int (Int32.ofInt (-1)))) (zshC, I, Lg, P)) : zX l Γ false (d + 2) zh45 (zMQ' Γ false zh45 Kp) 0 0 2 [(2, .int K), (0, .ref 10), (1, .int v)] [] (zshC, I, Lg, P) := by
  refine zpcF (M := (zh45, zc45)) 45 1000 rfl zckm45 (fun _ _ _ _ h => h) ?_
  refine zdecT hle (fun _ => ?_)
  exact hK
theorem rcL10 {l : Launch} {Γ : zG} {d : Nat} {Kp : Option Value → zH → Prop} {I : zHI} {Lg : zHL} {P : zHP} {v : Int32} {r : Nat} (hP : P 10 2 = some 11) (hw : (I 10 1).toInt = 1) (hR : (I 10 3).toInt = (r : Int)) (hr : r ≤ 5) : ∀ (m k : Nat) (K : Int32), K.toInt = (k : Int) → k + m = r → (∀ x : Int32, x.toInt = fFd (fun i => (I 11 (i * 1)).toInt) v.toInt m k → Kp (some (.int x)) (zshC, I, Lg, P)) → zX l Γ false (d + 2) zh45 (zMQ' Γ false zh45 Kp) 0 0 2 [(2, .int K), (0, .ref 10), (1, .int v)] [] (zshC, I, Lg, P)
  | 0, k, K, hK, hm, h => rcX10 (dle (by omega)) (h _ (by show (Int32.ofInt (-1)).toInt = -1; decide))
  | m + 1, k, K, hK, hm, h => by
    have eK : K = Int32.ofNat k := iN (by omega) hK
    have ew : I 10 1 = Int32.ofNat 1 := iN (by decide) hw
    have e1 : K * I 10 1 + Int32.ofInt 0 = Int32.ofNat (k * 1) := by
      rw [ew, eK, ofN_mul]
      exact ofN_add (k * 1) 0
    have e2 : K + Int32.ofInt 1 = Int32.ofNat (k + 1) := by
      rw [eK]
      exact ofN_add k 1
    have e3 : (Int32.ofNat (k * 1)).toNatClampNeg = k * 1 := ofN_cl (by omega)
    refine rcS10 hP e1 e2 (dlen (by omega)) (dltn (by rw [hK, show (0 : Int32).toInt = 0 from by decide]; omega)) (dlt (by rw [hw]; decide)) (dlen (by rw [oN (by omega), oI (by decide) (by decide)]; omega)) (ofN_ix (by omega) (by decide)) (fun ne => ?_) (fun e => h K ?_)
    · rw [e3] at ne
      refine rcL10 hP hw hR hr m (k + 1) _ (oN (by omega)) (by omega) (fun x hx => h x ?_)
      simp only [fFd]
      rw [if_neg (fun g => ne (Int32.toInt_inj.mp g))]
      exact hx
    · rw [e3] at e
      simp only [fFd]
      rw [if_pos (by rw [e])]
      exact hK
theorem zfindC10 {l : Launch} {Γ : zG} {d : Nat} {h : zH} (hi : sInv swC h) {v : Int32} {r : Nat} (hR : pI h 10 3 = (r : Int)) (hr : r ≤ 5) : zSem l Γ false (d + 2) (zhd 45) [.ref 10, .int v] h (fun rr h' => h' = h ∧ ∃ x : Int32, rr = some (.int x) ∧ x.toInt = fIx (fun i => pI h 11 (i * 1)) r v.toInt) := by
  obtain ⟨s, I, Lg, P⟩ := h
  have es : s = zshC := hi.1
  subst es
  have hP : P 10 2 = some 11 := hi.r1 (q := 10) (k := 2) (r := 11) (by decide +kernel)
  have hw : (I 10 1).toInt = 1 := by
    have g := hi.2.2.1 10 1
    rw [show sIv swC 10 1 = (1, 1) from by decide +kernel] at g
    have g : 1 ≤ (I 10 1).toInt ∧ (I 10 1).toInt ≤ 1 := g
    omega
  show zSem l Γ false (d + 1 + 1) zh45 _ _ _
  have ha : sTL [.inr (.inl 10), .inl sf32] [.ref 10, .int v] := ⟨_, _, rfl, rfl, _, _, rfl, ⟨_, rfl, i32bd _⟩, rfl⟩
  refine zbody (by decide +kernel) (by rw [sslen_ok _ _ ha]; decide +kernel) ?_
  refine zpcF (M := (zh45, zc45)) 45 2 rfl zckm45 (fun _ _ _ _ h => h) ?_
  show zX l Γ false (d + 2) zh45 (zMQ' Γ false zh45 _) 0 0 2 [(2, .int (Int32.ofInt 0)), (0, .ref 10), (1, .int v)] [] (zshC, I, Lg, P)
  exact rcL10 hP hw hR hr r 0 _ (by decide) (by omega) (fun x hx => ⟨rfl, x, rfl, hx⟩)
set_option maxRecDepth 100000 in
set_option maxHeartbeats 4000000 in
theorem rcS27 {l : Launch} {Γ : zG} {d : Nat} {Kp : Option Value → zH → Prop} {I : zHI} {Lg : zHL} {P : zHP} {v K X K' : Int32} (hP : P 27 2 = some 28) (hX : K * I 27 1 + Int32.ofInt 0 = X) (hK' : K + Int32.ofInt 1 = K') (c1 : ¬ I 27 3 ≤ K) (c2 : ¬ K < 0) (c3 : Int32.ofInt 0 < I 27 1) (c4 : ¬ Int32.ofInt 5 ≤ X) (hb : ¬ (X < 0 ∨ 5 ≤ X.toNatClampNeg)) (hN : I 28 X.toNatClampNeg ≠ v → zX l Γ false (d + 2) zh45 (zMQ' Γ false zh45 Kp) 0 0 2 [(2, .int K'), (0, .ref 27), (1, .int v)] [] (zshC, I, Lg, P)) (hY : I 28 X.toNatClampNeg = v → Kp (some (.int K)) (zshC, I, Lg, P)) : zX l Γ false (d + 2) zh45 (zMQ' Γ false zh45 Kp) 0 0 2 [(2, .int K), (0, .ref 27), (1, .int v)] [] (zshC, I, Lg, P) := by
  subst hX
  subst hK'
  have eP := zPn hP
  rw [eP] at hN hY ⊢
  refine zpcF (M := (zh45, zc45)) 45 2 rfl zckm45 (fun _ _ _ _ h => h) ?_
  refine zdecF c1 (fun _ => ?_)
  refine zdecF c2 (fun _ => ?_)
  refine zdecF c1 (fun _ => ?_)
  refine zdecT c3 (fun _ => ?_)
  refine zdecF c4 (fun _ => ?_)
  refine zdecF hb (fun _ => ?_)
  by_cases e : I 28 (K * I 27 1 + Int32.ofInt 0).toNatClampNeg = v
  · refine zdecT e (fun _ => ?_)
    exact hY e
  · refine zdecF e (fun _ => ?_)
    exact hN e
set_option maxRecDepth 100000 in
set_option maxHeartbeats 4000000 in
theorem rcX27 {l : Launch} {Γ : zG} {d : Nat} {Kp : Option Value → zH → Prop} {I : zHI} {Lg : zHL} {P : zHP} {v K : Int32} (hle : I 27 3 ≤ K) (hK : Kp (some (.int (Int32.ofInt (-1)))) (zshC, I, Lg, P)) : zX l Γ false (d + 2) zh45 (zMQ' Γ false zh45 Kp) 0 0 2 [(2, .int K), (0, .ref 27), (1, .int v)] [] (zshC, I, Lg, P) := by
  refine zpcF (M := (zh45, zc45)) 45 1000 rfl zckm45 (fun _ _ _ _ h => h) ?_
  refine zdecT hle (fun _ => ?_)
  exact hK
theorem rcL27 {l : Launch} {Γ : zG} {d : Nat} {Kp : Option Value → zH → Prop} {I : zHI} {Lg : zHL} {P : zHP} {v : Int32} {r : Nat} (hP : P 27 2 = some 28) (hw : (I 27 1).toInt = 1) (hR : (I 27 3).toInt = (r : Int)) (hr : r ≤ 5) : ∀ (m k : Nat) (K : Int32), K.toInt = (k : Int) → k + m = r → (∀ x : Int32, x.toInt = fFd (fun i => (I 28 (i * 1)).toInt) v.toInt m k → Kp (some (.int x)) (zshC, I, Lg, P)) → zX l Γ false (d + 2) zh45 (zMQ' Γ false zh45 Kp) 0 0 2 [(2, .int K), (0, .ref 27), (1, .int v)] [] (zshC, I, Lg, P)
  | 0, k, K, hK, hm, h => rcX27 (dle (by omega)) (h _ (by show (Int32.ofInt (-1)).toInt = -1; decide))
  | m + 1, k, K, hK, hm, h => by
    have eK : K = Int32.ofNat k := iN (by omega) hK
    have ew : I 27 1 = Int32.ofNat 1 := iN (by decide) hw
    have e1 : K * I 27 1 + Int32.ofInt 0 = Int32.ofNat (k * 1) := by
      rw [ew, eK, ofN_mul]
      exact ofN_add (k * 1) 0
    have e2 : K + Int32.ofInt 1 = Int32.ofNat (k + 1) := by
      rw [eK]
      exact ofN_add k 1
    have e3 : (Int32.ofNat (k * 1)).toNatClampNeg = k * 1 := ofN_cl (by omega)
    refine rcS27 hP e1 e2 (dlen (by omega)) (dltn (by rw [hK, show (0 : Int32).toInt = 0 from by decide]; omega)) (dlt (by rw [hw]; decide)) (dlen (by rw [oN (by omega), oI (by decide) (by decide)]; omega)) (ofN_ix (by omega) (by decide)) (fun ne => ?_) (fun e => h K ?_)
    · rw [e3] at ne
      refine rcL27 hP hw hR hr m (k + 1) _ (oN (by omega)) (by omega) (fun x hx => h x ?_)
      simp only [fFd]
      rw [if_neg (fun g => ne (Int32.toInt_inj.mp g))]
      exact hx
    · rw [e3] at e
      simp only [fFd]
      rw [if_pos (by rw [e])]
      exact hK
theorem zfindC27 {l : Launch} {Γ : zG} {d : Nat} {h : zH} (hi : sInv swC h) {v : Int32} {r : Nat} (hR : pI h 27 3 = (r : Int)) (hr : r ≤ 5) : zSem l Γ false (d + 2) (zhd 45) [.ref 27, .int v] h (fun rr h' => h' = h ∧ ∃ x : Int32, rr = some (.int x) ∧ x.toInt = fIx (fun i => pI h 28 (i * 1)) r v.toInt) := by
  obtain ⟨s, I, Lg, P⟩ := h
  have es : s = zshC := hi.1
  subst es
  have hP : P 27 2 = some 28 := hi.r1 (q := 27) (k := 2) (r := 28) (by decide +kernel)
  have hw : (I 27 1).toInt = 1 := by
    have g := hi.2.2.1 27 1
    rw [show sIv swC 27 1 = (1, 1) from by decide +kernel] at g
    have g : 1 ≤ (I 27 1).toInt ∧ (I 27 1).toInt ≤ 1 := g
    omega
  show zSem l Γ false (d + 1 + 1) zh45 _ _ _
  have ha : sTL [.inr (.inl 27), .inl sf32] [.ref 27, .int v] := ⟨_, _, rfl, rfl, _, _, rfl, ⟨_, rfl, i32bd _⟩, rfl⟩
  refine zbody (by decide +kernel) (by rw [sslen_ok _ _ ha]; decide +kernel) ?_
  refine zpcF (M := (zh45, zc45)) 45 2 rfl zckm45 (fun _ _ _ _ h => h) ?_
  show zX l Γ false (d + 2) zh45 (zMQ' Γ false zh45 _) 0 0 2 [(2, .int (Int32.ofInt 0)), (0, .ref 27), (1, .int v)] [] (zshC, I, Lg, P)
  exact rcL27 hP hw hR hr r 0 _ (by decide) (by omega) (fun x hx => ⟨rfl, x, rfl, hx⟩)
set_option maxRecDepth 100000 in
set_option maxHeartbeats 4000000 in
theorem rcS12 {l : Launch} {Γ : zG} {d : Nat} {Kp : Option Value → zH → Prop} {I : zHI} {Lg : zHL} {P : zHP} {v K X K' : Int32} (hP : P 12 2 = some 13) (hX : K * I 12 1 + Int32.ofInt 0 = X) (hK' : K + Int32.ofInt 1 = K') (c1 : ¬ I 12 3 ≤ K) (c2 : ¬ K < 0) (c3 : Int32.ofInt 0 < I 12 1) (c4 : ¬ Int32.ofInt 48 ≤ X) (hb : ¬ (X < 0 ∨ 48 ≤ X.toNatClampNeg)) (hN : I 13 X.toNatClampNeg ≠ v → zX l Γ false (d + 2) zh45 (zMQ' Γ false zh45 Kp) 0 0 2 [(2, .int K'), (0, .ref 12), (1, .int v)] [] (zshC, I, Lg, P)) (hY : I 13 X.toNatClampNeg = v → Kp (some (.int K)) (zshC, I, Lg, P)) : zX l Γ false (d + 2) zh45 (zMQ' Γ false zh45 Kp) 0 0 2 [(2, .int K), (0, .ref 12), (1, .int v)] [] (zshC, I, Lg, P) := by
  subst hX
  subst hK'
  have eP := zPn hP
  rw [eP] at hN hY ⊢
  refine zpcF (M := (zh45, zc45)) 45 2 rfl zckm45 (fun _ _ _ _ h => h) ?_
  refine zdecF c1 (fun _ => ?_)
  refine zdecF c2 (fun _ => ?_)
  refine zdecF c1 (fun _ => ?_)
  refine zdecT c3 (fun _ => ?_)
  refine zdecF c4 (fun _ => ?_)
  refine zdecF hb (fun _ => ?_)
  by_cases e : I 13 (K * I 12 1 + Int32.ofInt 0).toNatClampNeg = v
  · refine zdecT e (fun _ => ?_)
    exact hY e
  · refine zdecF e (fun _ => ?_)
    exact hN e
set_option maxRecDepth 100000 in
set_option maxHeartbeats 4000000 in
theorem rcX12 {l : Launch} {Γ : zG} {d : Nat} {Kp : Option Value → zH → Prop} {I : zHI} {Lg : zHL} {P : zHP} {v K : Int32} (hle : I 12 3 ≤ K) (hK : Kp (some (.int (Int32.ofInt (-1)))) (zshC, I, Lg, P)) : zX l Γ false (d + 2) zh45 (zMQ' Γ false zh45 Kp) 0 0 2 [(2, .int K), (0, .ref 12), (1, .int v)] [] (zshC, I, Lg, P) := by
  refine zpcF (M := (zh45, zc45)) 45 1000 rfl zckm45 (fun _ _ _ _ h => h) ?_
  refine zdecT hle (fun _ => ?_)
  exact hK
theorem rcL12 {l : Launch} {Γ : zG} {d : Nat} {Kp : Option Value → zH → Prop} {I : zHI} {Lg : zHL} {P : zHP} {v : Int32} {r : Nat} (hP : P 12 2 = some 13) (hw : (I 12 1).toInt = 6) (hR : (I 12 3).toInt = (r : Int)) (hr : r ≤ 8) : ∀ (m k : Nat) (K : Int32), K.toInt = (k : Int) → k + m = r → (∀ x : Int32, x.toInt = fFd (fun i => (I 13 (i * 6)).toInt) v.toInt m k → Kp (some (.int x)) (zshC, I, Lg, P)) → zX l Γ false (d + 2) zh45 (zMQ' Γ false zh45 Kp) 0 0 2 [(2, .int K), (0, .ref 12), (1, .int v)] [] (zshC, I, Lg, P)
  | 0, k, K, hK, hm, h => rcX12 (dle (by omega)) (h _ (by show (Int32.ofInt (-1)).toInt = -1; decide))
  | m + 1, k, K, hK, hm, h => by
    have eK : K = Int32.ofNat k := iN (by omega) hK
    have ew : I 12 1 = Int32.ofNat 6 := iN (by decide) hw
    have e1 : K * I 12 1 + Int32.ofInt 0 = Int32.ofNat (k * 6) := by
      rw [ew, eK, ofN_mul]
      exact ofN_add (k * 6) 0
    have e2 : K + Int32.ofInt 1 = Int32.ofNat (k + 1) := by
      rw [eK]
      exact ofN_add k 1
    have e3 : (Int32.ofNat (k * 6)).toNatClampNeg = k * 6 := ofN_cl (by omega)
    refine rcS12 hP e1 e2 (dlen (by omega)) (dltn (by rw [hK, show (0 : Int32).toInt = 0 from by decide]; omega)) (dlt (by rw [hw]; decide)) (dlen (by rw [oN (by omega), oI (by decide) (by decide)]; omega)) (ofN_ix (by omega) (by decide)) (fun ne => ?_) (fun e => h K ?_)
    · rw [e3] at ne
      refine rcL12 hP hw hR hr m (k + 1) _ (oN (by omega)) (by omega) (fun x hx => h x ?_)
      simp only [fFd]
      rw [if_neg (fun g => ne (Int32.toInt_inj.mp g))]
      exact hx
    · rw [e3] at e
      simp only [fFd]
      rw [if_pos (by rw [e])]
      exact hK
theorem zfindC12 {l : Launch} {Γ : zG} {d : Nat} {h : zH} (hi : sInv swC h) {v : Int32} {r : Nat} (hR : pI h 12 3 = (r : Int)) (hr : r ≤ 8) : zSem l Γ false (d + 2) (zhd 45) [.ref 12, .int v] h (fun rr h' => h' = h ∧ ∃ x : Int32, rr = some (.int x) ∧ x.toInt = fIx (fun i => pI h 13 (i * 6)) r v.toInt) := by
  obtain ⟨s, I, Lg, P⟩ := h
  have es : s = zshC := hi.1
  subst es
  have hP : P 12 2 = some 13 := hi.r1 (q := 12) (k := 2) (r := 13) (by decide +kernel)
  have hw : (I 12 1).toInt = 6 := by
    have g := hi.2.2.1 12 1
    rw [show sIv swC 12 1 = (6, 6) from by decide +kernel] at g
    have g : 6 ≤ (I 12 1).toInt ∧ (I 12 1).toInt ≤ 6 := g
    omega
  show zSem l Γ false (d + 1 + 1) zh45 _ _ _
  have ha : sTL [.inr (.inl 12), .inl sf32] [.ref 12, .int v] := ⟨_, _, rfl, rfl, _, _, rfl, ⟨_, rfl, i32bd _⟩, rfl⟩
  refine zbody (by decide +kernel) (by rw [sslen_ok _ _ ha]; decide +kernel) ?_
  refine zpcF (M := (zh45, zc45)) 45 2 rfl zckm45 (fun _ _ _ _ h => h) ?_
  show zX l Γ false (d + 2) zh45 (zMQ' Γ false zh45 _) 0 0 2 [(2, .int (Int32.ofInt 0)), (0, .ref 12), (1, .int v)] [] (zshC, I, Lg, P)
  exact rcL12 hP hw hR hr r 0 _ (by decide) (by omega) (fun x hx => ⟨rfl, x, rfl, hx⟩)
set_option maxRecDepth 100000 in
set_option maxHeartbeats 4000000 in
theorem rcS29 {l : Launch} {Γ : zG} {d : Nat} {Kp : Option Value → zH → Prop} {I : zHI} {Lg : zHL} {P : zHP} {v K X K' : Int32} (hP : P 29 2 = some 30) (hX : K * I 29 1 + Int32.ofInt 0 = X) (hK' : K + Int32.ofInt 1 = K') (c1 : ¬ I 29 3 ≤ K) (c2 : ¬ K < 0) (c3 : Int32.ofInt 0 < I 29 1) (c4 : ¬ Int32.ofInt 48 ≤ X) (hb : ¬ (X < 0 ∨ 48 ≤ X.toNatClampNeg)) (hN : I 30 X.toNatClampNeg ≠ v → zX l Γ false (d + 2) zh45 (zMQ' Γ false zh45 Kp) 0 0 2 [(2, .int K'), (0, .ref 29), (1, .int v)] [] (zshC, I, Lg, P)) (hY : I 30 X.toNatClampNeg = v → Kp (some (.int K)) (zshC, I, Lg, P)) : zX l Γ false (d + 2) zh45 (zMQ' Γ false zh45 Kp) 0 0 2 [(2, .int K), (0, .ref 29), (1, .int v)] [] (zshC, I, Lg, P) := by
  subst hX
  subst hK'
  have eP := zPn hP
  rw [eP] at hN hY ⊢
  refine zpcF (M := (zh45, zc45)) 45 2 rfl zckm45 (fun _ _ _ _ h => h) ?_
  refine zdecF c1 (fun _ => ?_)
  refine zdecF c2 (fun _ => ?_)
  refine zdecF c1 (fun _ => ?_)
  refine zdecT c3 (fun _ => ?_)
  refine zdecF c4 (fun _ => ?_)
  refine zdecF hb (fun _ => ?_)
  by_cases e : I 30 (K * I 29 1 + Int32.ofInt 0).toNatClampNeg = v
  · refine zdecT e (fun _ => ?_)
    exact hY e
  · refine zdecF e (fun _ => ?_)
    exact hN e
set_option maxRecDepth 100000 in
set_option maxHeartbeats 4000000 in
theorem rcX29 {l : Launch} {Γ : zG} {d : Nat} {Kp : Option Value → zH → Prop} {I : zHI} {Lg : zHL} {P : zHP} {v K : Int32} (hle : I 29 3 ≤ K) (hK : Kp (some (.int (Int32.ofInt (-1)))) (zshC, I, Lg, P)) : zX l Γ false (d + 2) zh45 (zMQ' Γ false zh45 Kp) 0 0 2 [(2, .int K), (0, .ref 29), (1, .int v)] [] (zshC, I, Lg, P) := by
  refine zpcF (M := (zh45, zc45)) 45 1000 rfl zckm45 (fun _ _ _ _ h => h) ?_
  refine zdecT hle (fun _ => ?_)
  exact hK
theorem rcL29 {l : Launch} {Γ : zG} {d : Nat} {Kp : Option Value → zH → Prop} {I : zHI} {Lg : zHL} {P : zHP} {v : Int32} {r : Nat} (hP : P 29 2 = some 30) (hw : (I 29 1).toInt = 6) (hR : (I 29 3).toInt = (r : Int)) (hr : r ≤ 8) : ∀ (m k : Nat) (K : Int32), K.toInt = (k : Int) → k + m = r → (∀ x : Int32, x.toInt = fFd (fun i => (I 30 (i * 6)).toInt) v.toInt m k → Kp (some (.int x)) (zshC, I, Lg, P)) → zX l Γ false (d + 2) zh45 (zMQ' Γ false zh45 Kp) 0 0 2 [(2, .int K), (0, .ref 29), (1, .int v)] [] (zshC, I, Lg, P)
  | 0, k, K, hK, hm, h => rcX29 (dle (by omega)) (h _ (by show (Int32.ofInt (-1)).toInt = -1; decide))
  | m + 1, k, K, hK, hm, h => by
    have eK : K = Int32.ofNat k := iN (by omega) hK
    have ew : I 29 1 = Int32.ofNat 6 := iN (by decide) hw
    have e1 : K * I 29 1 + Int32.ofInt 0 = Int32.ofNat (k * 6) := by
      rw [ew, eK, ofN_mul]
      exact ofN_add (k * 6) 0
    have e2 : K + Int32.ofInt 1 = Int32.ofNat (k + 1) := by
      rw [eK]
      exact ofN_add k 1
    have e3 : (Int32.ofNat (k * 6)).toNatClampNeg = k * 6 := ofN_cl (by omega)
    refine rcS29 hP e1 e2 (dlen (by omega)) (dltn (by rw [hK, show (0 : Int32).toInt = 0 from by decide]; omega)) (dlt (by rw [hw]; decide)) (dlen (by rw [oN (by omega), oI (by decide) (by decide)]; omega)) (ofN_ix (by omega) (by decide)) (fun ne => ?_) (fun e => h K ?_)
    · rw [e3] at ne
      refine rcL29 hP hw hR hr m (k + 1) _ (oN (by omega)) (by omega) (fun x hx => h x ?_)
      simp only [fFd]
      rw [if_neg (fun g => ne (Int32.toInt_inj.mp g))]
      exact hx
    · rw [e3] at e
      simp only [fFd]
      rw [if_pos (by rw [e])]
      exact hK
theorem zfindC29 {l : Launch} {Γ : zG} {d : Nat} {h : zH} (hi : sInv swC h) {v : Int32} {r : Nat} (hR : pI h 29 3 = (r : Int)) (hr : r ≤ 8) : zSem l Γ false (d + 2) (zhd 45) [.ref 29, .int v] h (fun rr h' => h' = h ∧ ∃ x : Int32, rr = some (.int x) ∧ x.toInt = fIx (fun i => pI h 30 (i * 6)) r v.toInt) := by
  obtain ⟨s, I, Lg, P⟩ := h
  have es : s = zshC := hi.1
  subst es
  have hP : P 29 2 = some 30 := hi.r1 (q := 29) (k := 2) (r := 30) (by decide +kernel)
  have hw : (I 29 1).toInt = 6 := by
    have g := hi.2.2.1 29 1
    rw [show sIv swC 29 1 = (6, 6) from by decide +kernel] at g
    have g : 6 ≤ (I 29 1).toInt ∧ (I 29 1).toInt ≤ 6 := g
    omega
  show zSem l Γ false (d + 1 + 1) zh45 _ _ _
  have ha : sTL [.inr (.inl 29), .inl sf32] [.ref 29, .int v] := ⟨_, _, rfl, rfl, _, _, rfl, ⟨_, rfl, i32bd _⟩, rfl⟩
  refine zbody (by decide +kernel) (by rw [sslen_ok _ _ ha]; decide +kernel) ?_
  refine zpcF (M := (zh45, zc45)) 45 2 rfl zckm45 (fun _ _ _ _ h => h) ?_
  show zX l Γ false (d + 2) zh45 (zMQ' Γ false zh45 _) 0 0 2 [(2, .int (Int32.ofInt 0)), (0, .ref 29), (1, .int v)] [] (zshC, I, Lg, P)
  exact rcL29 hP hw hR hr r 0 _ (by decide) (by omega) (fun x hx => ⟨rfl, x, rfl, hx⟩)
