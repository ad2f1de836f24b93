/-! the reference's find -/
set_option maxRecDepth 100000 in
set_option maxHeartbeats 4000000 in
theorem rfS5 {l : Launch} {Γ : zG} {d : Nat} {Kp : Option Value → zH → Prop} {I : zHI} {Lg : zHL} {P : zHP} {F K R v X K' : Int32} (hX : F + K = X) (hK' : K + Int32.ofInt 1 = K') (hb : ¬ (X < 0 ∨ 10 ≤ X.toNatClampNeg)) (hlt : K.toInt < R.toInt) (hN : I 5 X.toNatClampNeg ≠ v → zX l Γ false (d + 1) zh205 (zMQ' Γ false zh205 Kp) 0 0 3 [(4, .int K'), (0, .ref 5), (1, .int F), (2, .int R), (3, .int v)] [] (zshM, I, Lg, P)) (hY : I 5 X.toNatClampNeg = v → Kp (some (.int K)) (zshM, I, Lg, P)) : zX l Γ false (d + 1) zh205 (zMQ' Γ false zh205 Kp) 0 0 3 [(4, .int K), (0, .ref 5), (1, .int F), (2, .int R), (3, .int v)] [] (zshM, I, Lg, P) := by
  subst hX
  subst hK'
  refine zpcF (M := (zh205, zc205)) 205 3 rfl zckm205 (fun _ _ _ _ h => h) ?_
  refine zdecF (show ¬ R ≤ K from dlen hlt) (fun _ => ?_)
  refine zdecF hb (fun _ => ?_)
  by_cases e : I 5 (F + K).toNatClampNeg = v
  · refine zdecT e (fun _ => ?_)
    exact hY e
  · refine zdecF e (fun _ => ?_)
    exact hN e
set_option maxRecDepth 100000 in
set_option maxHeartbeats 4000000 in
theorem rfX5 {l : Launch} {Γ : zG} {d : Nat} {Kp : Option Value → zH → Prop} {I : zHI} {Lg : zHL} {P : zHP} {F K R v : Int32} (hle : R.toInt ≤ K.toInt) (hK : Kp (some (.int (Int32.ofInt (-1)))) (zshM, I, Lg, P)) : zX l Γ false (d + 1) zh205 (zMQ' Γ false zh205 Kp) 0 0 3 [(4, .int K), (0, .ref 5), (1, .int F), (2, .int R), (3, .int v)] [] (zshM, I, Lg, P) := by
  refine zpcF (M := (zh205, zc205)) 205 1000 rfl zckm205 (fun _ _ _ _ h => h) ?_
  refine zdecT (show R ≤ K from dle hle) (fun _ => ?_)
  exact hK
theorem rfL5 {l : Launch} {Γ : zG} {d : Nat} {Kp : Option Value → zH → Prop} {I : zHI} {Lg : zHL} {P : zHP} {F R v : Int32} {r : Nat} (hF : F.toInt = 5) (hR : R.toInt = (r : Int)) (hr : r ≤ 5) : ∀ (m k : Nat) (K : Int32), K.toInt = (k : Int) → k + m = r → (∀ x : Int32, x.toInt = fFd (fun i => (I 5 (5 + i)).toInt) v.toInt m k → Kp (some (.int x)) (zshM, I, Lg, P)) → zX l Γ false (d + 1) zh205 (zMQ' Γ false zh205 Kp) 0 0 3 [(4, .int K), (0, .ref 5), (1, .int F), (2, .int R), (3, .int v)] [] (zshM, I, Lg, P)
  | 0, k, K, hK, hm, h => rfX5 (by omega) (h _ (by show (Int32.ofInt (-1)).toInt = -1; decide))
  | m + 1, k, K, hK, hm, h => by
    have eF : F = Int32.ofNat 5 := iN (by decide) hF
    have eK : K = Int32.ofNat k := iN (by omega) hK
    have e1 : F + K = Int32.ofNat (5 + k) := by
      rw [eF, eK]
      exact ofN_add 5 k
    have e2 : K + Int32.ofInt 1 = Int32.ofNat (k + 1) := by
      rw [eK]
      exact ofN_add k 1
    have e3 : (Int32.ofNat (5 + k)).toNatClampNeg = 5 + k := ofN_cl (by omega)
    refine rfS5 e1 e2 (ofN_ix (by omega) (by decide)) (by omega) (fun ne => ?_) (fun e => h K ?_)
    · rw [e3] at ne
      refine rfL5 hF hR hr m (k + 1) _ (oN (by omega)) (by omega) (fun x hx => h x ?_)
      simp only [fFd]
      rw [if_neg (fun g => ne (Int32.toInt_inj.mp g))]
      exact hx
    · rw [e3] at e
      simp only [fFd]
      rw [if_pos (by rw [e])]
      exact hK
theorem zfind5 {l : Launch} {Γ : zG} {d : Nat} {h : zH} (hi : sInv swM h) {F R v : Int32} {r : Nat} (hF : F.toInt = 5) (hR : R.toInt = (r : Int)) (hr : r ≤ 5) : zSem l Γ false (d + 1) (zhd 205) [.ref 5, .int F, .int R, .int v] h (fun rr h' => h' = h ∧ ∃ x : Int32, rr = some (.int x) ∧ x.toInt = fIx (fun i => pI h 5 (5 + i)) r v.toInt) := by
  obtain ⟨s, I, Lg, P⟩ := h
  have es : s = zshM := hi.1
  subst es
  show zSem l Γ false (d + 1) zh205 _ _ _
  have ha : sTL [.inr (.inl 5), .inl sf32, .inl sf32, .inl sf32] [.ref 5, .int F, .int R, .int v] := ⟨_, _, rfl, rfl, _, _, rfl, ⟨_, rfl, i32bd _⟩, _, _, rfl, ⟨_, rfl, i32bd _⟩, _, _, rfl, ⟨_, rfl, i32bd _⟩, rfl⟩
  refine zbody (by decide +kernel) (by rw [sslen_ok _ _ ha]; decide +kernel) ?_
  refine zpcF (M := (zh205, zc205)) 205 3 rfl zckm205 (fun _ _ _ _ h => h) ?_
  show zX l Γ false (d + 1) zh205 (zMQ' Γ false zh205 _) 0 0 3 [(4, .int (Int32.ofInt 0)), (0, .ref 5), (1, .int F), (2, .int R), (3, .int v)] [] (zshM, I, Lg, P)
  exact rfL5 hF hR hr r 0 _ (by decide) (by omega) (fun x hx => ⟨rfl, x, rfl, hx⟩)
set_option maxRecDepth 100000 in
set_option maxHeartbeats 4000000 in
theorem rfS6 {l : Launch} {Γ : zG} {d : Nat} {Kp : Option Value → zH → Prop} {I : zHI} {Lg : zHL} {P : zHP} {F K R v X K' : Int32} (hX : F + K = X) (hK' : K + Int32.ofInt 1 = K') (hb : ¬ (X < 0 ∨ 16 ≤ X.toNatClampNeg)) (hlt : K.toInt < R.toInt) (hN : I 6 X.toNatClampNeg ≠ v → zX l Γ false (d + 1) zh205 (zMQ' Γ false zh205 Kp) 0 0 3 [(4, .int K'), (0, .ref 6), (1, .int F), (2, .int R), (3, .int v)] [] (zshM, I, Lg, P)) (hY : I 6 X.toNatClampNeg = v → Kp (some (.int K)) (zshM, I, Lg, P)) : zX l Γ false (d + 1) zh205 (zMQ' Γ false zh205 Kp) 0 0 3 [(4, .int K), (0, .ref 6), (1, .int F), (2, .int R), (3, .int v)] [] (zshM, I, Lg, P) := by
  subst hX
  subst hK'
  refine zpcF (M := (zh205, zc205)) 205 3 rfl zckm205 (fun _ _ _ _ h => h) ?_
  refine zdecF (show ¬ R ≤ K from dlen hlt) (fun _ => ?_)
  refine zdecF hb (fun _ => ?_)
  by_cases e : I 6 (F + K).toNatClampNeg = v
  · refine zdecT e (fun _ => ?_)
    exact hY e
  · refine zdecF e (fun _ => ?_)
    exact hN e
set_option maxRecDepth 100000 in
set_option maxHeartbeats 4000000 in
theorem rfX6 {l : Launch} {Γ : zG} {d : Nat} {Kp : Option Value → zH → Prop} {I : zHI} {Lg : zHL} {P : zHP} {F K R v : Int32} (hle : R.toInt ≤ K.toInt) (hK : Kp (some (.int (Int32.ofInt (-1)))) (zshM, I, Lg, P)) : zX l Γ false (d + 1) zh205 (zMQ' Γ false zh205 Kp) 0 0 3 [(4, .int K), (0, .ref 6), (1, .int F), (2, .int R), (3, .int v)] [] (zshM, I, Lg, P) := by
  refine zpcF (M := (zh205, zc205)) 205 1000 rfl zckm205 (fun _ _ _ _ h => h) ?_
  refine zdecT (show R ≤ K from dle hle) (fun _ => ?_)
  exact hK
theorem rfL6 {l : Launch} {Γ : zG} {d : Nat} {Kp : Option Value → zH → Prop} {I : zHI} {Lg : zHL} {P : zHP} {F R v : Int32} {r : Nat} (hF : F.toInt = 8) (hR : R.toInt = (r : Int)) (hr : r ≤ 8) : ∀ (m k : Nat) (K : Int32), K.toInt = (k : Int) → k + m = r → (∀ x : Int32, x.toInt = fFd (fun i => (I 6 (8 + i)).toInt) v.toInt m k → Kp (some (.int x)) (zshM, I, Lg, P)) → zX l Γ false (d + 1) zh205 (zMQ' Γ false zh205 Kp) 0 0 3 [(4, .int K), (0, .ref 6), (1, .int F), (2, .int R), (3, .int v)] [] (zshM, I, Lg, P)
  | 0, k, K, hK, hm, h => rfX6 (by omega) (h _ (by show (Int32.ofInt (-1)).toInt = -1; decide))
  | m + 1, k, K, hK, hm, h => by
    have eF : F = Int32.ofNat 8 := iN (by decide) hF
    have eK : K = Int32.ofNat k := iN (by omega) hK
    have e1 : F + K = Int32.ofNat (8 + k) := by
      rw [eF, eK]
      exact ofN_add 8 k
    have e2 : K + Int32.ofInt 1 = Int32.ofNat (k + 1) := by
      rw [eK]
      exact ofN_add k 1
    have e3 : (Int32.ofNat (8 + k)).toNatClampNeg = 8 + k := ofN_cl (by omega)
    refine rfS6 e1 e2 (ofN_ix (by omega) (by decide)) (by omega) (fun ne => ?_) (fun e => h K ?_)
    · rw [e3] at ne
      refine rfL6 hF hR hr m (k + 1) _ (oN (by omega)) (by omega) (fun x hx => h x ?_)
      simp only [fFd]
      rw [if_neg (fun g => ne (Int32.toInt_inj.mp g))]
      exact hx
    · rw [e3] at e
      simp only [fFd]
      rw [if_pos (by rw [e])]
      exact hK
theorem zfind6 {l : Launch} {Γ : zG} {d : Nat} {h : zH} (hi : sInv swM h) {F R v : Int32} {r : Nat} (hF : F.toInt = 8) (hR : R.toInt = (r : Int)) (hr : r ≤ 8) : zSem l Γ false (d + 1) (zhd 205) [.ref 6, .int F, .int R, .int v] h (fun rr h' => h' = h ∧ ∃ x : Int32, rr = some (.int x) ∧ x.toInt = fIx (fun i => pI h 6 (8 + i)) r v.toInt) := by
  obtain ⟨s, I, Lg, P⟩ := h
  have es : s = zshM := hi.1
  subst es
  show zSem l Γ false (d + 1) zh205 _ _ _
  have ha : sTL [.inr (.inl 6), .inl sf32, .inl sf32, .inl sf32] [.ref 6, .int F, .int R, .int v] := ⟨_, _, rfl, rfl, _, _, rfl, ⟨_, rfl, i32bd _⟩, _, _, rfl, ⟨_, rfl, i32bd _⟩, _, _, rfl, ⟨_, rfl, i32bd _⟩, rfl⟩
  refine zbody (by decide +kernel) (by rw [sslen_ok _ _ ha]; decide +kernel) ?_
  refine zpcF (M := (zh205, zc205)) 205 3 rfl zckm205 (fun _ _ _ _ h => h) ?_
  show zX l Γ false (d + 1) zh205 (zMQ' Γ false zh205 _) 0 0 3 [(4, .int (Int32.ofInt 0)), (0, .ref 6), (1, .int F), (2, .int R), (3, .int v)] [] (zshM, I, Lg, P)
  exact rfL6 hF hR hr r 0 _ (by decide) (by omega) (fun x hx => ⟨rfl, x, rfl, hx⟩)
