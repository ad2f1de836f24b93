/-! the class: numbers, names, the ends of lines -/
abbrev flI (I : zHI) (c : Int32) : zHI := zu2 (zu2 I 3 8 c) 3 9 (zu2 I 3 8 c 3 5)
def fC (c p : Int) (h : zH) : Prop := pI h 3 8 = c ∧ pI h 3 9 = p
theorem sP_cS : ∀ {P : zHP} {a b r a' b' r' : Nat}, P a b = some r → P a' b' = some r' → P = (fun x y => if x = a ∧ y = b then some r else if x = a' ∧ y = b' then some r' else P x y : zHP) := fun {P a b r a' b' r'} h h' => by
  funext x y
  split
  · rename_i e
    rw [e.1, e.2, h]
  · split
    · rename_i e
      rw [e.1, e.2, h']
    · rfl
set_option maxRecDepth 100000 in
set_option maxHeartbeats 4000000 in
theorem nmC1 {l : Launch} {Γ : zG} {d : Nat} {Kp : Option Value → zH → Prop} {I : zHI} {Lg : zHL} {P : zHP} (hP : P 2 0 = some 3) {a b : Int32} (hk : ¬ I 3 4 = Int32.ofInt 3) (h0 : I 3 8 = 0) (hX : zX l Γ false (d + 2) zh52 (zMQ' Γ false zh52 Kp) 0 0 52 [(3, .int (I 3 7)), (0, .ref 2), (1, .int a), (2, .int b)] [.ref 3] (zshC, flI I (Int32.ofInt 1), Lg, P)) : zX l Γ false (d + 2) zh52 (zMQ' Γ false zh52 Kp) 0 0 0 [(0, .ref 2), (1, .int a), (2, .int b)] [] (zshC, I, Lg, P) := by
  have eP := zPn hP
  rw [eP] at hX ⊢
  refine zpcF (M := (zh52, zc52)) 52 52 rfl zckm52 (fun _ _ _ _ h => h) ?_
  refine zdecF hk (fun _ => ?_)
  refine zdecT h0 (fun _ => ?_)
  exact hX
set_option maxRecDepth 100000 in
set_option maxHeartbeats 4000000 in
theorem nmC2 {l : Launch} {Γ : zG} {d : Nat} {Kp : Option Value → zH → Prop} {I : zHI} {Lg : zHL} {P : zHP} (hP : P 2 0 = some 3) {a b : Int32} (hk : I 3 4 = Int32.ofInt 3) (hv : I 3 7 < a) (h0 : I 3 8 = 0) (hX : zX l Γ false (d + 2) zh52 (zMQ' Γ false zh52 Kp) 0 0 52 [(3, .int (I 3 7)), (0, .ref 2), (1, .int a), (2, .int b)] [.ref 3] (zshC, flI I (Int32.ofInt 2), Lg, P)) : zX l Γ false (d + 2) zh52 (zMQ' Γ false zh52 Kp) 0 0 0 [(0, .ref 2), (1, .int a), (2, .int b)] [] (zshC, I, Lg, P) := by
  have eP := zPn hP
  rw [eP] at hX ⊢
  refine zpcF (M := (zh52, zc52)) 52 52 rfl zckm52 (fun _ _ _ _ h => h) ?_
  refine zdecT hk (fun _ => ?_)
  refine zdecT hv (fun _ => ?_)
  refine zdecT h0 (fun _ => ?_)
  exact hX
set_option maxRecDepth 100000 in
set_option maxHeartbeats 4000000 in
theorem nmC3 {l : Launch} {Γ : zG} {d : Nat} {Kp : Option Value → zH → Prop} {I : zHI} {Lg : zHL} {P : zHP} (hP : P 2 0 = some 3) {a b : Int32} (hk : I 3 4 = Int32.ofInt 3) (hv : ¬ I 3 7 < a) (hw : ¬ I 3 7 ≤ b) (h0 : I 3 8 = 0) (hX : zX l Γ false (d + 2) zh52 (zMQ' Γ false zh52 Kp) 0 0 52 [(3, .int (I 3 7)), (0, .ref 2), (1, .int a), (2, .int b)] [.ref 3] (zshC, flI I (Int32.ofInt 2), Lg, P)) : zX l Γ false (d + 2) zh52 (zMQ' Γ false zh52 Kp) 0 0 0 [(0, .ref 2), (1, .int a), (2, .int b)] [] (zshC, I, Lg, P) := by
  have eP := zPn hP
  rw [eP] at hX ⊢
  refine zpcF (M := (zh52, zc52)) 52 52 rfl zckm52 (fun _ _ _ _ h => h) ?_
  refine zdecT hk (fun _ => ?_)
  refine zdecF hv (fun _ => ?_)
  refine zdecF hw (fun _ => ?_)
  refine zdecT h0 (fun _ => ?_)
  exact hX
set_option maxRecDepth 100000 in
set_option maxHeartbeats 4000000 in
theorem nmC4 {l : Launch} {Γ : zG} {d : Nat} {Kp : Option Value → zH → Prop} {I : zHI} {Lg : zHL} {P : zHP} (hP : P 2 0 = some 3) {a b : Int32} (hk : I 3 4 = Int32.ofInt 3) (hv : ¬ I 3 7 < a) (hw : I 3 7 ≤ b) (hX : zX l Γ false (d + 1) zh52 (zMQ' Γ false zh52 Kp) 0 0 52 [(3, .int (I 3 7)), (0, .ref 2), (1, .int a), (2, .int b)] [.ref 3] (zshC, I, Lg, P)) : zX l Γ false (d + 1) zh52 (zMQ' Γ false zh52 Kp) 0 0 0 [(0, .ref 2), (1, .int a), (2, .int b)] [] (zshC, I, Lg, P) := by
  have eP := zPn hP
  rw [eP] at hX ⊢
  refine zpcF (M := (zh52, zc52)) 52 52 rfl zckm52 (fun _ _ _ _ h => h) ?_
  refine zdecT hk (fun _ => ?_)
  refine zdecF hv (fun _ => ?_)
  refine zdecT hw (fun _ => ?_)
  exact hX
set_option maxRecDepth 100000 in
set_option maxHeartbeats 4000000 in
theorem nmC5 {l : Launch} {Γ : zG} {d : Nat} {Kp : Option Value → zH → Prop} {h : zH} {v a b : Int32} (hK : Kp (some (.int v)) h) : zX l Γ false (d + 1) zh52 (zMQ' Γ false zh52 Kp) 0 0 55 [(3, .int v), (0, .ref 2), (1, .int a), (2, .int b)] [] h := by
  refine zpcF (M := (zh52, zc52)) 52 1000 rfl zckm52 (fun _ _ _ _ h => h) ?_
  exact hK
set_option maxRecDepth 100000 in
set_option maxHeartbeats 4000000 in
theorem nwC1 {l : Launch} {Γ : zG} {d : Nat} {Kp : Option Value → zH → Prop} {I : zHI} {Lg : zHL} {P : zHP} (hP : P 2 0 = some 3) {R : Nat} (hk : ¬ I 3 4 = Int32.ofInt 2) (h0 : I 3 8 = 0) (hX : zX l Γ false (d + 2) zh44 (zMQ' Γ false zh44 Kp) 0 0 51 [(2, .int (I 3 6)), (0, .ref 2), (1, .ref R)] [.ref 3] (zshC, flI I (Int32.ofInt 1), Lg, P)) : zX l Γ false (d + 2) zh44 (zMQ' Γ false zh44 Kp) 0 0 0 [(0, .ref 2), (1, .ref R)] [] (zshC, I, Lg, P) := by
  have eP := zPn hP
  rw [eP] at hX ⊢
  refine zpcF (M := (zh44, zc44)) 44 51 rfl zckm44 (fun _ _ _ _ h => h) ?_
  refine zdecF hk (fun _ => ?_)
  refine zdecT h0 (fun _ => ?_)
  exact hX
set_option maxRecDepth 100000 in
set_option maxHeartbeats 4000000 in
theorem nwC2 {l : Launch} {Γ : zG} {d : Nat} {Kp : Option Value → zH → Prop} {I : zHI} {Lg : zHL} {P : zHP} (hP : P 2 0 = some 3) {R : Nat} (hk : I 3 4 = Int32.ofInt 2) (hX : zX l Γ false (d + 1) zh44 (zMQ' Γ false zh44 Kp) 0 0 32 [(2, .int (I 3 6)), (0, .ref 2), (1, .ref R)] [.int (I 3 6), .ref R] (zshC, I, Lg, P)) : zX l Γ false (d + 1) zh44 (zMQ' Γ false zh44 Kp) 0 0 0 [(0, .ref 2), (1, .ref R)] [] (zshC, I, Lg, P) := by
  have eP := zPn hP
  rw [eP] at hX ⊢
  refine zpcF (M := (zh44, zc44)) 44 32 rfl zckm44 (fun _ _ _ _ h => h) ?_
  refine zdecT hk (fun _ => ?_)
  exact hX
set_option maxRecDepth 100000 in
set_option maxHeartbeats 4000000 in
theorem nwC3 {l : Launch} {Γ : zG} {d : Nat} {Kp : Option Value → zH → Prop} {I : zHI} {Lg : zHL} {P : zHP} (hP : P 2 0 = some 3) {R : Nat} {r v : Int32} (hr : ¬ r = Int32.ofInt (-1)) (h0 : I 3 8 = 0) (hX : zX l Γ false (d + 2) zh44 (zMQ' Γ false zh44 Kp) 0 0 51 [(2, .int v), (0, .ref 2), (1, .ref R)] [.ref 3] (zshC, flI I (Int32.ofInt 3), Lg, P)) : zX l Γ false (d + 2) zh44 (zMQ' Γ false zh44 Kp) 0 0 35 [(2, .int v), (0, .ref 2), (1, .ref R)] [.int r] (zshC, I, Lg, P) := by
  have eP := zPn hP
  rw [eP] at hX ⊢
  refine zpcF (M := (zh44, zc44)) 44 51 rfl zckm44 (fun _ _ _ _ h => h) ?_
  refine zdecF hr (fun _ => ?_)
  refine zdecT h0 (fun _ => ?_)
  exact hX
set_option maxRecDepth 100000 in
set_option maxHeartbeats 4000000 in
theorem nwC4 {l : Launch} {Γ : zG} {d : Nat} {Kp : Option Value → zH → Prop} {I : zHI} {Lg : zHL} {P : zHP} (hP : P 2 0 = some 3) {R : Nat} {r v : Int32} (hr : r = Int32.ofInt (-1)) (hX : zX l Γ false (d + 1) zh44 (zMQ' Γ false zh44 Kp) 0 0 51 [(2, .int v), (0, .ref 2), (1, .ref R)] [.ref 3] (zshC, I, Lg, P)) : zX l Γ false (d + 1) zh44 (zMQ' Γ false zh44 Kp) 0 0 35 [(2, .int v), (0, .ref 2), (1, .ref R)] [.int r] (zshC, I, Lg, P) := by
  have eP := zPn hP
  rw [eP] at hX ⊢
  refine zpcF (M := (zh44, zc44)) 44 51 rfl zckm44 (fun _ _ _ _ h => h) ?_
  refine zdecT hr (fun _ => ?_)
  exact hX
set_option maxRecDepth 100000 in
set_option maxHeartbeats 4000000 in
theorem nwC5 {l : Launch} {Γ : zG} {d : Nat} {Kp : Option Value → zH → Prop} {h : zH} {v : Int32} {R : Nat} (hK : Kp (some (.int v)) h) : zX l Γ false (d + 1) zh44 (zMQ' Γ false zh44 Kp) 0 0 54 [(2, .int v), (0, .ref 2), (1, .ref R)] [] h := by
  refine zpcF (M := (zh44, zc44)) 44 1000 rfl zckm44 (fun _ _ _ _ h => h) ?_
  exact hK
set_option maxRecDepth 100000 in
set_option maxHeartbeats 4000000 in
theorem tnC1 {l : Launch} {Γ : zG} {d : Nat} {Kp : Option Value → zH → Prop} {I : zHI} {Lg : zHL} {P : zHP} (hP : P 2 0 = some 3) {R : Nat} (hk : ¬ I 3 4 = Int32.ofInt 2) (h0 : I 3 8 = 0) (hX : zX l Γ false (d + 2) zh51 (zMQ' Γ false zh51 Kp) 0 0 66 [(2, .int (Int32.ofInt (-1))), (0, .ref 2), (1, .ref R)] [.ref 3] (zshC, flI I (Int32.ofInt 1), Lg, P)) : zX l Γ false (d + 2) zh51 (zMQ' Γ false zh51 Kp) 0 0 0 [(0, .ref 2), (1, .ref R)] [] (zshC, I, Lg, P) := by
  have eP := zPn hP
  rw [eP] at hX ⊢
  refine zpcF (M := (zh51, zc51)) 51 66 rfl zckm51 (fun _ _ _ _ h => h) ?_
  refine zdecF hk (fun _ => ?_)
  refine zdecF hk (fun _ => ?_)
  refine zdecT h0 (fun _ => ?_)
  exact hX
set_option maxRecDepth 100000 in
set_option maxHeartbeats 4000000 in
theorem tnC2 {l : Launch} {Γ : zG} {d : Nat} {Kp : Option Value → zH → Prop} {I : zHI} {Lg : zHL} {P : zHP} (hP : P 2 0 = some 3) {R : Nat} (hk : I 3 4 = Int32.ofInt 2) (hX : zX l Γ false (d + 1) zh51 (zMQ' Γ false zh51 Kp) 0 0 19 [(0, .ref 2), (1, .ref R)] [.int (I 3 6), .ref R] (zshC, I, Lg, P)) : zX l Γ false (d + 1) zh51 (zMQ' Γ false zh51 Kp) 0 0 0 [(0, .ref 2), (1, .ref R)] [] (zshC, I, Lg, P) := by
  have eP := zPn hP
  rw [eP] at hX ⊢
  refine zpcF (M := (zh51, zc51)) 51 19 rfl zckm51 (fun _ _ _ _ h => h) ?_
  refine zdecT hk (fun _ => ?_)
  exact hX
set_option maxRecDepth 100000 in
set_option maxHeartbeats 4000000 in
theorem tnC3 {l : Launch} {Γ : zG} {d : Nat} {Kp : Option Value → zH → Prop} {I : zHI} {Lg : zHL} {P : zHP} (hP : P 2 0 = some 3) {R : Nat} {r : Int32} (hk : I 3 4 = Int32.ofInt 2) (hr : r = Int32.ofInt (-1)) (h0 : I 3 8 = 0) (hX : zX l Γ false (d + 2) zh51 (zMQ' Γ false zh51 Kp) 0 0 66 [(2, .int r), (0, .ref 2), (1, .ref R)] [.ref 3] (zshC, flI I (Int32.ofInt 4), Lg, P)) : zX l Γ false (d + 2) zh51 (zMQ' Γ false zh51 Kp) 0 0 22 [(0, .ref 2), (1, .ref R)] [.int r] (zshC, I, Lg, P) := by
  have eP := zPn hP
  rw [eP] at hX ⊢
  refine zpcF (M := (zh51, zc51)) 51 66 rfl zckm51 (fun _ _ _ _ h => h) ?_
  refine zdecT hk (fun _ => ?_)
  refine zdecT hr (fun _ => ?_)
  refine zdecT h0 (fun _ => ?_)
  exact hX
set_option maxRecDepth 100000 in
set_option maxHeartbeats 4000000 in
theorem tnC4 {l : Launch} {Γ : zG} {d : Nat} {Kp : Option Value → zH → Prop} {I : zHI} {Lg : zHL} {P : zHP} (hP : P 2 0 = some 3) {R : Nat} {r : Int32} (hk : I 3 4 = Int32.ofInt 2) (hr : ¬ r = Int32.ofInt (-1)) (hX : zX l Γ false (d + 1) zh51 (zMQ' Γ false zh51 Kp) 0 0 66 [(2, .int r), (0, .ref 2), (1, .ref R)] [.ref 3] (zshC, I, Lg, P)) : zX l Γ false (d + 1) zh51 (zMQ' Γ false zh51 Kp) 0 0 22 [(0, .ref 2), (1, .ref R)] [.int r] (zshC, I, Lg, P) := by
  have eP := zPn hP
  rw [eP] at hX ⊢
  refine zpcF (M := (zh51, zc51)) 51 66 rfl zckm51 (fun _ _ _ _ h => h) ?_
  refine zdecT hk (fun _ => ?_)
  refine zdecF hr (fun _ => ?_)
  exact hX
set_option maxRecDepth 100000 in
set_option maxHeartbeats 4000000 in
theorem tnC5 {l : Launch} {Γ : zG} {d : Nat} {Kp : Option Value → zH → Prop} {h : zH} {v : Int32} {R : Nat} (hK : Kp (some (.int v)) h) : zX l Γ false (d + 1) zh51 (zMQ' Γ false zh51 Kp) 0 0 69 [(2, .int v), (0, .ref 2), (1, .ref R)] [] h := by
  refine zpcF (M := (zh51, zc51)) 51 1000 rfl zckm51 (fun _ _ _ _ h => h) ?_
  exact hK
set_option maxRecDepth 100000 in
set_option maxHeartbeats 4000000 in
theorem clC1 {l : Launch} {Γ : zG} {d : Nat} {Kp : Option Value → zH → Prop} {I : zHI} {Lg : zHL} {P : zHP} (hP : P 2 0 = some 3) (hk : ¬ I 3 4 = Int32.ofInt 4) (h0 : I 3 8 = 0) (hX : zX l Γ false (d + 2) zh48 (zMQ' Γ false zh48 Kp) 0 0 23 [(0, .ref 2)] [.ref 3] (zshC, flI I (Int32.ofInt 1), Lg, P)) : zX l Γ false (d + 2) zh48 (zMQ' Γ false zh48 Kp) 0 0 0 [(0, .ref 2)] [] (zshC, I, Lg, P) := by
  have eP := zPn hP
  rw [eP] at hX ⊢
  refine zpcF (M := (zh48, zc48)) 48 23 rfl zckm48 (fun _ _ _ _ h => h) ?_
  refine zdecF hk (fun _ => ?_)
  refine zdecT h0 (fun _ => ?_)
  exact hX
set_option maxRecDepth 100000 in
set_option maxHeartbeats 4000000 in
theorem clC2 {l : Launch} {Γ : zG} {d : Nat} {Kp : Option Value → zH → Prop} {I : zHI} {Lg : zHL} {P : zHP} (hP : P 2 0 = some 3) (hk : I 3 4 = Int32.ofInt 4) (hX : zX l Γ false (d + 1) zh48 (zMQ' Γ false zh48 Kp) 0 0 23 [(0, .ref 2)] [.ref 3] (zshC, I, Lg, P)) : zX l Γ false (d + 1) zh48 (zMQ' Γ false zh48 Kp) 0 0 0 [(0, .ref 2)] [] (zshC, I, Lg, P) := by
  have eP := zPn hP
  rw [eP] at hX ⊢
  refine zpcF (M := (zh48, zc48)) 48 23 rfl zckm48 (fun _ _ _ _ h => h) ?_
  refine zdecT hk (fun _ => ?_)
  exact hX
set_option maxRecDepth 100000 in
set_option maxHeartbeats 4000000 in
theorem clC3 {l : Launch} {Γ : zG} {d : Nat} {Kp : Option Value → zH → Prop} {h : zH} {R : Nat} (hK : Kp none h) : zX l Γ false (d + 1) zh48 (zMQ' Γ false zh48 Kp) 0 0 26 [(0, .ref 2)] [] h := by
  refine zpcF (M := (zh48, zc48)) 48 1000 rfl zckm48 (fun _ _ _ _ h => h) ?_
  exact hK
set_option maxRecDepth 100000 in
set_option maxHeartbeats 4000000 in
theorem bgC3 {l : Launch} {Γ : zG} {d : Nat} {Kp : Option Value → zH → Prop} {h : zH} {R : Nat} (hK : Kp none h) : zX l Γ false (d + 1) zh41 (zMQ' Γ false zh41 Kp) 0 0 22 [(0, .ref 2), (1, .ref R)] [] h := by
  refine zpcF (M := (zh41, zc41)) 41 1000 rfl zckm41 (fun _ _ _ _ h => h) ?_
  exact hK
set_option maxRecDepth 100000 in
set_option maxHeartbeats 4000000 in
theorem bgC1_10 {l : Launch} {Γ : zG} {d : Nat} {Kp : Option Value → zH → Prop} {I : zHI} {Lg : zHL} {P : zHP} (hP : P 2 0 = some 3) (hk : ¬ I 10 3 < I 10 0) (h0 : I 3 8 = 0) (hX : zX l Γ false (d + 2) zh41 (zMQ' Γ false zh41 Kp) 0 0 19 [(0, .ref 2), (1, .ref 10)] [.ref 3] (zshC, flI I (Int32.ofInt 2), Lg, P)) : zX l Γ false (d + 2) zh41 (zMQ' Γ false zh41 Kp) 0 0 0 [(0, .ref 2), (1, .ref 10)] [] (zshC, I, Lg, P) := by
  have eP := zPn hP
  rw [eP] at hX ⊢
  refine zpcF (M := (zh41, zc41)) 41 19 rfl zckm41 (fun _ _ _ _ h => h) ?_
  refine zdecF hk (fun _ => ?_)
  refine zdecT h0 (fun _ => ?_)
  exact hX
set_option maxRecDepth 100000 in
set_option maxHeartbeats 4000000 in
theorem bgC2_10 {l : Launch} {Γ : zG} {d : Nat} {Kp : Option Value → zH → Prop} {I : zHI} {Lg : zHL} {P : zHP} (hP : P 2 0 = some 3) (hk : I 10 3 < I 10 0) (hX : zX l Γ false (d + 2) zh41 (zMQ' Γ false zh41 Kp) 0 0 19 [(0, .ref 2), (1, .ref 10)] [.ref 3] (zshC, I, Lg, P)) : zX l Γ false (d + 2) zh41 (zMQ' Γ false zh41 Kp) 0 0 0 [(0, .ref 2), (1, .ref 10)] [] (zshC, I, Lg, P) := by
  have eP := zPn hP
  rw [eP] at hX ⊢
  refine zpcF (M := (zh41, zc41)) 41 19 rfl zckm41 (fun _ _ _ _ h => h) ?_
  refine zdecT hk (fun _ => ?_)
  exact hX
set_option maxRecDepth 100000 in
set_option maxHeartbeats 4000000 in
theorem bgC1_12 {l : Launch} {Γ : zG} {d : Nat} {Kp : Option Value → zH → Prop} {I : zHI} {Lg : zHL} {P : zHP} (hP : P 2 0 = some 3) (hk : ¬ I 12 3 < I 12 0) (h0 : I 3 8 = 0) (hX : zX l Γ false (d + 2) zh41 (zMQ' Γ false zh41 Kp) 0 0 19 [(0, .ref 2), (1, .ref 12)] [.ref 3] (zshC, flI I (Int32.ofInt 2), Lg, P)) : zX l Γ false (d + 2) zh41 (zMQ' Γ false zh41 Kp) 0 0 0 [(0, .ref 2), (1, .ref 12)] [] (zshC, I, Lg, P) := by
  have eP := zPn hP
  rw [eP] at hX ⊢
  refine zpcF (M := (zh41, zc41)) 41 19 rfl zckm41 (fun _ _ _ _ h => h) ?_
  refine zdecF hk (fun _ => ?_)
  refine zdecT h0 (fun _ => ?_)
  exact hX
set_option maxRecDepth 100000 in
set_option maxHeartbeats 4000000 in
theorem bgC2_12 {l : Launch} {Γ : zG} {d : Nat} {Kp : Option Value → zH → Prop} {I : zHI} {Lg : zHL} {P : zHP} (hP : P 2 0 = some 3) (hk : I 12 3 < I 12 0) (hX : zX l Γ false (d + 2) zh41 (zMQ' Γ false zh41 Kp) 0 0 19 [(0, .ref 2), (1, .ref 12)] [.ref 3] (zshC, I, Lg, P)) : zX l Γ false (d + 2) zh41 (zMQ' Γ false zh41 Kp) 0 0 0 [(0, .ref 2), (1, .ref 12)] [] (zshC, I, Lg, P) := by
  have eP := zPn hP
  rw [eP] at hX ⊢
  refine zpcF (M := (zh41, zc41)) 41 19 rfl zckm41 (fun _ _ _ _ h => h) ?_
  refine zdecT hk (fun _ => ?_)
  exact hX
set_option maxRecDepth 100000 in
set_option maxHeartbeats 4000000 in
theorem bgC1_14 {l : Launch} {Γ : zG} {d : Nat} {Kp : Option Value → zH → Prop} {I : zHI} {Lg : zHL} {P : zHP} (hP : P 2 0 = some 3) (hk : ¬ I 14 3 < I 14 0) (h0 : I 3 8 = 0) (hX : zX l Γ false (d + 2) zh41 (zMQ' Γ false zh41 Kp) 0 0 19 [(0, .ref 2), (1, .ref 14)] [.ref 3] (zshC, flI I (Int32.ofInt 2), Lg, P)) : zX l Γ false (d + 2) zh41 (zMQ' Γ false zh41 Kp) 0 0 0 [(0, .ref 2), (1, .ref 14)] [] (zshC, I, Lg, P) := by
  have eP := zPn hP
  rw [eP] at hX ⊢
  refine zpcF (M := (zh41, zc41)) 41 19 rfl zckm41 (fun _ _ _ _ h => h) ?_
  refine zdecF hk (fun _ => ?_)
  refine zdecT h0 (fun _ => ?_)
  exact hX
set_option maxRecDepth 100000 in
set_option maxHeartbeats 4000000 in
theorem bgC2_14 {l : Launch} {Γ : zG} {d : Nat} {Kp : Option Value → zH → Prop} {I : zHI} {Lg : zHL} {P : zHP} (hP : P 2 0 = some 3) (hk : I 14 3 < I 14 0) (hX : zX l Γ false (d + 2) zh41 (zMQ' Γ false zh41 Kp) 0 0 19 [(0, .ref 2), (1, .ref 14)] [.ref 3] (zshC, I, Lg, P)) : zX l Γ false (d + 2) zh41 (zMQ' Γ false zh41 Kp) 0 0 0 [(0, .ref 2), (1, .ref 14)] [] (zshC, I, Lg, P) := by
  have eP := zPn hP
  rw [eP] at hX ⊢
  refine zpcF (M := (zh41, zc41)) 41 19 rfl zckm41 (fun _ _ _ _ h => h) ?_
  refine zdecT hk (fun _ => ?_)
  exact hX
set_option maxRecDepth 100000 in
set_option maxHeartbeats 4000000 in
theorem bgC1_16 {l : Launch} {Γ : zG} {d : Nat} {Kp : Option Value → zH → Prop} {I : zHI} {Lg : zHL} {P : zHP} (hP : P 2 0 = some 3) (hk : ¬ I 16 3 < I 16 0) (h0 : I 3 8 = 0) (hX : zX l Γ false (d + 2) zh41 (zMQ' Γ false zh41 Kp) 0 0 19 [(0, .ref 2), (1, .ref 16)] [.ref 3] (zshC, flI I (Int32.ofInt 2), Lg, P)) : zX l Γ false (d + 2) zh41 (zMQ' Γ false zh41 Kp) 0 0 0 [(0, .ref 2), (1, .ref 16)] [] (zshC, I, Lg, P) := by
  have eP := zPn hP
  rw [eP] at hX ⊢
  refine zpcF (M := (zh41, zc41)) 41 19 rfl zckm41 (fun _ _ _ _ h => h) ?_
  refine zdecF hk (fun _ => ?_)
  refine zdecT h0 (fun _ => ?_)
  exact hX
set_option maxRecDepth 100000 in
set_option maxHeartbeats 4000000 in
theorem bgC2_16 {l : Launch} {Γ : zG} {d : Nat} {Kp : Option Value → zH → Prop} {I : zHI} {Lg : zHL} {P : zHP} (hP : P 2 0 = some 3) (hk : I 16 3 < I 16 0) (hX : zX l Γ false (d + 2) zh41 (zMQ' Γ false zh41 Kp) 0 0 19 [(0, .ref 2), (1, .ref 16)] [.ref 3] (zshC, I, Lg, P)) : zX l Γ false (d + 2) zh41 (zMQ' Γ false zh41 Kp) 0 0 0 [(0, .ref 2), (1, .ref 16)] [] (zshC, I, Lg, P) := by
  have eP := zPn hP
  rw [eP] at hX ⊢
  refine zpcF (M := (zh41, zc41)) 41 19 rfl zckm41 (fun _ _ _ _ h => h) ?_
  refine zdecT hk (fun _ => ?_)
  exact hX
set_option maxRecDepth 100000 in
set_option maxHeartbeats 4000000 in
theorem bgC1_18 {l : Launch} {Γ : zG} {d : Nat} {Kp : Option Value → zH → Prop} {I : zHI} {Lg : zHL} {P : zHP} (hP : P 2 0 = some 3) (hk : ¬ I 18 3 < I 18 0) (h0 : I 3 8 = 0) (hX : zX l Γ false (d + 2) zh41 (zMQ' Γ false zh41 Kp) 0 0 19 [(0, .ref 2), (1, .ref 18)] [.ref 3] (zshC, flI I (Int32.ofInt 2), Lg, P)) : zX l Γ false (d + 2) zh41 (zMQ' Γ false zh41 Kp) 0 0 0 [(0, .ref 2), (1, .ref 18)] [] (zshC, I, Lg, P) := by
  have eP := zPn hP
  rw [eP] at hX ⊢
  refine zpcF (M := (zh41, zc41)) 41 19 rfl zckm41 (fun _ _ _ _ h => h) ?_
  refine zdecF hk (fun _ => ?_)
  refine zdecT h0 (fun _ => ?_)
  exact hX
set_option maxRecDepth 100000 in
set_option maxHeartbeats 4000000 in
theorem bgC2_18 {l : Launch} {Γ : zG} {d : Nat} {Kp : Option Value → zH → Prop} {I : zHI} {Lg : zHL} {P : zHP} (hP : P 2 0 = some 3) (hk : I 18 3 < I 18 0) (hX : zX l Γ false (d + 2) zh41 (zMQ' Γ false zh41 Kp) 0 0 19 [(0, .ref 2), (1, .ref 18)] [.ref 3] (zshC, I, Lg, P)) : zX l Γ false (d + 2) zh41 (zMQ' Γ false zh41 Kp) 0 0 0 [(0, .ref 2), (1, .ref 18)] [] (zshC, I, Lg, P) := by
  have eP := zPn hP
  rw [eP] at hX ⊢
  refine zpcF (M := (zh41, zc41)) 41 19 rfl zckm41 (fun _ _ _ _ h => h) ?_
  refine zdecT hk (fun _ => ?_)
  exact hX
set_option maxRecDepth 100000 in
set_option maxHeartbeats 4000000 in
theorem bgC1_27 {l : Launch} {Γ : zG} {d : Nat} {Kp : Option Value → zH → Prop} {I : zHI} {Lg : zHL} {P : zHP} (hP : P 2 0 = some 3) (hk : ¬ I 27 3 < I 27 0) (h0 : I 3 8 = 0) (hX : zX l Γ false (d + 2) zh41 (zMQ' Γ false zh41 Kp) 0 0 19 [(0, .ref 2), (1, .ref 27)] [.ref 3] (zshC, flI I (Int32.ofInt 2), Lg, P)) : zX l Γ false (d + 2) zh41 (zMQ' Γ false zh41 Kp) 0 0 0 [(0, .ref 2), (1, .ref 27)] [] (zshC, I, Lg, P) := by
  have eP := zPn hP
  rw [eP] at hX ⊢
  refine zpcF (M := (zh41, zc41)) 41 19 rfl zckm41 (fun _ _ _ _ h => h) ?_
  refine zdecF hk (fun _ => ?_)
  refine zdecT h0 (fun _ => ?_)
  exact hX
set_option maxRecDepth 100000 in
set_option maxHeartbeats 4000000 in
theorem bgC2_27 {l : Launch} {Γ : zG} {d : Nat} {Kp : Option Value → zH → Prop} {I : zHI} {Lg : zHL} {P : zHP} (hP : P 2 0 = some 3) (hk : I 27 3 < I 27 0) (hX : zX l Γ false (d + 2) zh41 (zMQ' Γ false zh41 Kp) 0 0 19 [(0, .ref 2), (1, .ref 27)] [.ref 3] (zshC, I, Lg, P)) : zX l Γ false (d + 2) zh41 (zMQ' Γ false zh41 Kp) 0 0 0 [(0, .ref 2), (1, .ref 27)] [] (zshC, I, Lg, P) := by
  have eP := zPn hP
  rw [eP] at hX ⊢
  refine zpcF (M := (zh41, zc41)) 41 19 rfl zckm41 (fun _ _ _ _ h => h) ?_
  refine zdecT hk (fun _ => ?_)
  exact hX
set_option maxRecDepth 100000 in
set_option maxHeartbeats 4000000 in
theorem bgC1_29 {l : Launch} {Γ : zG} {d : Nat} {Kp : Option Value → zH → Prop} {I : zHI} {Lg : zHL} {P : zHP} (hP : P 2 0 = some 3) (hk : ¬ I 29 3 < I 29 0) (h0 : I 3 8 = 0) (hX : zX l Γ false (d + 2) zh41 (zMQ' Γ false zh41 Kp) 0 0 19 [(0, .ref 2), (1, .ref 29)] [.ref 3] (zshC, flI I (Int32.ofInt 2), Lg, P)) : zX l Γ false (d + 2) zh41 (zMQ' Γ false zh41 Kp) 0 0 0 [(0, .ref 2), (1, .ref 29)] [] (zshC, I, Lg, P) := by
  have eP := zPn hP
  rw [eP] at hX ⊢
  refine zpcF (M := (zh41, zc41)) 41 19 rfl zckm41 (fun _ _ _ _ h => h) ?_
  refine zdecF hk (fun _ => ?_)
  refine zdecT h0 (fun _ => ?_)
  exact hX
set_option maxRecDepth 100000 in
set_option maxHeartbeats 4000000 in
theorem bgC2_29 {l : Launch} {Γ : zG} {d : Nat} {Kp : Option Value → zH → Prop} {I : zHI} {Lg : zHL} {P : zHP} (hP : P 2 0 = some 3) (hk : I 29 3 < I 29 0) (hX : zX l Γ false (d + 2) zh41 (zMQ' Γ false zh41 Kp) 0 0 19 [(0, .ref 2), (1, .ref 29)] [.ref 3] (zshC, I, Lg, P)) : zX l Γ false (d + 2) zh41 (zMQ' Γ false zh41 Kp) 0 0 0 [(0, .ref 2), (1, .ref 29)] [] (zshC, I, Lg, P) := by
  have eP := zPn hP
  rw [eP] at hX ⊢
  refine zpcF (M := (zh41, zc41)) 41 19 rfl zckm41 (fun _ _ _ _ h => h) ?_
  refine zdecT hk (fun _ => ?_)
  exact hX
set_option maxRecDepth 100000 in
set_option maxHeartbeats 4000000 in
theorem bgC1_31 {l : Launch} {Γ : zG} {d : Nat} {Kp : Option Value → zH → Prop} {I : zHI} {Lg : zHL} {P : zHP} (hP : P 2 0 = some 3) (hk : ¬ I 31 3 < I 31 0) (h0 : I 3 8 = 0) (hX : zX l Γ false (d + 2) zh41 (zMQ' Γ false zh41 Kp) 0 0 19 [(0, .ref 2), (1, .ref 31)] [.ref 3] (zshC, flI I (Int32.ofInt 2), Lg, P)) : zX l Γ false (d + 2) zh41 (zMQ' Γ false zh41 Kp) 0 0 0 [(0, .ref 2), (1, .ref 31)] [] (zshC, I, Lg, P) := by
  have eP := zPn hP
  rw [eP] at hX ⊢
  refine zpcF (M := (zh41, zc41)) 41 19 rfl zckm41 (fun _ _ _ _ h => h) ?_
  refine zdecF hk (fun _ => ?_)
  refine zdecT h0 (fun _ => ?_)
  exact hX
set_option maxRecDepth 100000 in
set_option maxHeartbeats 4000000 in
theorem bgC2_31 {l : Launch} {Γ : zG} {d : Nat} {Kp : Option Value → zH → Prop} {I : zHI} {Lg : zHL} {P : zHP} (hP : P 2 0 = some 3) (hk : I 31 3 < I 31 0) (hX : zX l Γ false (d + 2) zh41 (zMQ' Γ false zh41 Kp) 0 0 19 [(0, .ref 2), (1, .ref 31)] [.ref 3] (zshC, I, Lg, P)) : zX l Γ false (d + 2) zh41 (zMQ' Γ false zh41 Kp) 0 0 0 [(0, .ref 2), (1, .ref 31)] [] (zshC, I, Lg, P) := by
  have eP := zPn hP
  rw [eP] at hX ⊢
  refine zpcF (M := (zh41, zc41)) 41 19 rfl zckm41 (fun _ _ _ _ h => h) ?_
  refine zdecT hk (fun _ => ?_)
  exact hX
set_option maxRecDepth 100000 in
set_option maxHeartbeats 4000000 in
theorem bgC1_33 {l : Launch} {Γ : zG} {d : Nat} {Kp : Option Value → zH → Prop} {I : zHI} {Lg : zHL} {P : zHP} (hP : P 2 0 = some 3) (hk : ¬ I 33 3 < I 33 0) (h0 : I 3 8 = 0) (hX : zX l Γ false (d + 2) zh41 (zMQ' Γ false zh41 Kp) 0 0 19 [(0, .ref 2), (1, .ref 33)] [.ref 3] (zshC, flI I (Int32.ofInt 2), Lg, P)) : zX l Γ false (d + 2) zh41 (zMQ' Γ false zh41 Kp) 0 0 0 [(0, .ref 2), (1, .ref 33)] [] (zshC, I, Lg, P) := by
  have eP := zPn hP
  rw [eP] at hX ⊢
  refine zpcF (M := (zh41, zc41)) 41 19 rfl zckm41 (fun _ _ _ _ h => h) ?_
  refine zdecF hk (fun _ => ?_)
  refine zdecT h0 (fun _ => ?_)
  exact hX
set_option maxRecDepth 100000 in
set_option maxHeartbeats 4000000 in
theorem bgC2_33 {l : Launch} {Γ : zG} {d : Nat} {Kp : Option Value → zH → Prop} {I : zHI} {Lg : zHL} {P : zHP} (hP : P 2 0 = some 3) (hk : I 33 3 < I 33 0) (hX : zX l Γ false (d + 2) zh41 (zMQ' Γ false zh41 Kp) 0 0 19 [(0, .ref 2), (1, .ref 33)] [.ref 3] (zshC, I, Lg, P)) : zX l Γ false (d + 2) zh41 (zMQ' Γ false zh41 Kp) 0 0 0 [(0, .ref 2), (1, .ref 33)] [] (zshC, I, Lg, P) := by
  have eP := zPn hP
  rw [eP] at hX ⊢
  refine zpcF (M := (zh41, zc41)) 41 19 rfl zckm41 (fun _ _ _ _ h => h) ?_
  refine zdecT hk (fun _ => ?_)
  exact hX
set_option maxRecDepth 100000 in
set_option maxHeartbeats 4000000 in
theorem bgC1_35 {l : Launch} {Γ : zG} {d : Nat} {Kp : Option Value → zH → Prop} {I : zHI} {Lg : zHL} {P : zHP} (hP : P 2 0 = some 3) (hk : ¬ I 35 3 < I 35 0) (h0 : I 3 8 = 0) (hX : zX l Γ false (d + 2) zh41 (zMQ' Γ false zh41 Kp) 0 0 19 [(0, .ref 2), (1, .ref 35)] [.ref 3] (zshC, flI I (Int32.ofInt 2), Lg, P)) : zX l Γ false (d + 2) zh41 (zMQ' Γ false zh41 Kp) 0 0 0 [(0, .ref 2), (1, .ref 35)] [] (zshC, I, Lg, P) := by
  have eP := zPn hP
  rw [eP] at hX ⊢
  refine zpcF (M := (zh41, zc41)) 41 19 rfl zckm41 (fun _ _ _ _ h => h) ?_
  refine zdecF hk (fun _ => ?_)
  refine zdecT h0 (fun _ => ?_)
  exact hX
set_option maxRecDepth 100000 in
set_option maxHeartbeats 4000000 in
theorem bgC2_35 {l : Launch} {Γ : zG} {d : Nat} {Kp : Option Value → zH → Prop} {I : zHI} {Lg : zHL} {P : zHP} (hP : P 2 0 = some 3) (hk : I 35 3 < I 35 0) (hX : zX l Γ false (d + 2) zh41 (zMQ' Γ false zh41 Kp) 0 0 19 [(0, .ref 2), (1, .ref 35)] [.ref 3] (zshC, I, Lg, P)) : zX l Γ false (d + 2) zh41 (zMQ' Γ false zh41 Kp) 0 0 0 [(0, .ref 2), (1, .ref 35)] [] (zshC, I, Lg, P) := by
  have eP := zPn hP
  rw [eP] at hX ⊢
  refine zpcF (M := (zh41, zc41)) 41 19 rfl zckm41 (fun _ _ _ _ h => h) ?_
  refine zdecT hk (fun _ => ?_)
  exact hX
