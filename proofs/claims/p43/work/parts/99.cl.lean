/-! the class: readText -/
def crM (d0 : Nat) : sM := [(d0, 6, 10), (d0 + 1, 3, 4), (d0 + 3, 3, 4), (d0 + 5, 3, 4), (d0 + 7, 3, 4), (d0 + 9, 3, 4), (d0 + 11, 1, 3), (d0 + 13, 0, 3)]
def crA (d0 : Nat) : sAs := a1 [(d0 + 1, 3, (0, 0)), (d0 + 3, 3, (0, 0)), (d0 + 5, 3, (0, 0)), (d0 + 7, 3, (0, 0)), (d0 + 9, 3, (0, 0)), (d0, 6, (0, 0)), (d0, 7, (0, 0)), (d0, 8, (0, 0)), (d0, 9, (0, 0)), (d0 + 11, 2, (0, 0)), (d0 + 11, 1, (0, 0)), (d0 + 13, 0, (-1, -1)), (d0 + 13, 1, (-1, -1)), (d0 + 13, 2, (-1, -1))]
theorem cr1 : dLs.all (fun d0 => spmB swC sT0 (crM d0) 2000 5 30 [] [.inr (.inl d0)] sA0 [] [] [(none, crA d0, [])]) = true := by decide +kernel
def rtM (d0 : Nat) : sM := (3, 1, 10) :: cMdL d0
def S0 : zS := fun _ => 0
theorem zClr {l : Launch} {Γ : zG} {d d0 : Nat} (hd0 : d0 ∈ dLs) {h : zH} (hi : sInv swC h) : zSem l Γ false (d + 6) (zhd 30) [.ref d0] h (fun r h' => r = none ∧ sInv swC h' ∧ sMd (crM d0) h h' ∧ ∀ N, N 14 0 = 0 → N 14 1 = 0 → RC d0 N S0 h') := by
  refine spm_ok (fun _ => 0) (List.all_eq_true.mp cr1 d0 hd0) (fun mi c h => nomatch h) (by omega) ⟨_, _, rfl, rfl, rfl⟩ (sA0_ok _) trivial hi (fun e he => nomatch he) ?_
  intro e he r' h' hp hi' hm
  have e := List.mem_singleton.mp he
  subst e
  obtain ⟨p1, p2, p3⟩ := hp
  have key : ∀ t ∈ [(d0 + 1, 3, ((0 : Int), (0 : Int))), (d0 + 3, 3, (0, 0)), (d0 + 5, 3, (0, 0)), (d0 + 7, 3, (0, 0)), (d0 + 9, 3, (0, 0)), (d0, 6, (0, 0)), (d0, 7, (0, 0)), (d0, 8, (0, 0)), (d0, 9, (0, 0)), (d0 + 11, 2, (0, 0)), (d0 + 11, 1, (0, 0)), (d0 + 13, 0, (-1, -1)), (d0 + 13, 1, (-1, -1)), (d0 + 13, 2, (-1, -1))], t.2.2.1 ≤ pI h' t.1 t.2.1 ∧ pI h' t.1 t.2.1 ≤ t.2.2.2 := p2.1
  simp only [List.forall_mem_cons] at key
  obtain ⟨k1, k2, k3, k4, k5, k5a, k5b, k6, k7, k8, k8b, k9, k10, k11, -⟩ := key
  refine ⟨p1, hi', hm, fun N n0 n1 => ⟨fun j hj => ?_, by show pI h' (d0 + 11) 2 = 0; omega, fun j hj => ?_, fun k c i _ _ hlt => absurd hlt (Nat.not_lt_zero _), fun j hj => ?_, by show pI h' (d0 + 11) 1 = 0; omega, fun j hj h0 => absurd rfl h0⟩⟩
  · have hj' : j = 0 ∨ j = 1 ∨ j = 2 ∨ j = 3 ∨ j = 4 ∨ j = 5 ∨ j = 6 := by omega
    rcases hj' with rfl | rfl | rfl | rfl | rfl | rfl | rfl
    · show pI h' (d0 + 1) 3 = 0
      omega
    · show pI h' (d0 + 3) 3 = 0
      omega
    · show pI h' (d0 + 5) 3 = 0
      omega
    · show pI h' (d0 + 7) 3 = 0
      omega
    · show pI h' (d0 + 9) 3 = 0
      omega
    · show pI h' d0 8 = 0
      omega
    · show pI h' d0 9 = 0
      omega
  · have hj' : j = 0 ∨ j = 1 ∨ j = 2 := by omega
    refine ⟨fun _ => ?_, fun _ => rfl⟩
    rcases hj' with rfl | rfl | rfl <;> omega
  · have hj' : j = 0 ∨ j = 1 := by omega
    rcases hj' with rfl | rfl
    · rw [n0]
      show pI h' d0 6 = 0
      omega
    · rw [n1]
      show pI h' d0 7 = 0
      omega
theorem stt1 : (List.range 701).all (fun n => spmB swC sT0 [(3, 1, 4), (3, 8, 10)] 300 2 32 [] [.inr (.inl 3), .inr (.inl 1), sI1 n n] sA0 [] [(31, [.inr (.inl 3)], [(0, .inr (.inl 3))], ([(3, 2, ((n : Int), (n : Int))), (3, 3, (0, 0)), (3, 8, (0, 0)), (3, 9, (-1, -1))], [(3, 1, 1)], [], []), [], [])] []) = true := by decide +kernel
theorem stt2 : spqB swC sT0 [] 100 1 32 [(0, .inr (.inl 3))] sA0 [] [] 34 [] [(none, sA0, [])] = true := by decide +kernel
theorem zv_st : zcvB 32 31 2 0 34 = true := by decide +kernel
theorem zStt {l : Launch} {Γ : zG} {d : Nat} {D : zD} {h : zH} (hi : sInv swC h) (hB : ∀ j, j < 700 → pI h 1 j = sb (D.1 j)) (hR : ∀ j, j < 700 → 0 ≤ D.1 j ∧ D.1 j ≤ 255) (hn : D.2 ≤ 700) {x : Int32} (hx : x.toInt = (D.2 : Int)) : zSem l Γ false (d + 4) (zhd 32) [.ref 3, .ref 1, .int x] h (fun r h' => r = none ∧ sInv swC h' ∧ sMd [(3, 1, 10)] h h' ∧ cTk D (pF D 0) h' ∧ pI h' 3 8 = 0 ∧ pI h' 3 9 = -1) := by
  refine spm_c (fun _ => 0) (List.all_eq_true.mp stt1 D.2 (List.mem_range.mpr (by omega))) (by omega) ⟨_, _, rfl, rfl, _, _, rfl, rfl, _, _, rfl, ⟨x, rfl, by show (D.2 : Int) ≤ _; omega, by show _ ≤ (D.2 : Int); omega⟩, rfl⟩ (sA0_ok _) trivial hi ?_
  intro lo1 st1 h1 hp hi1 hm1
  obtain ⟨p1, L1, p3, p4, p5⟩ := hp
  obtain ⟨u0, _, rfl, u0r, hn'⟩ := p1
  have u0r : u0 = .ref 3 := u0r
  subst u0r
  have hn' : _ = [] := hn'
  subst hn'
  have key : ∀ t ∈ [(3, 2, ((D.2 : Int), (D.2 : Int))), (3, 3, (0, 0)), (3, 8, (0, 0)), (3, 9, (-1, -1))], t.2.2.1 ≤ pI h1 t.1 t.2.1 ∧ pI h1 t.1 t.2.1 ≤ t.2.2.2 := p3.1
  simp only [List.forall_mem_cons] at key
  obtain ⟨k1, k2, k3, k4, -⟩ := key
  have r31 : h1.2.2.2 3 1 = some 1 := p3.2.1 (3, 1, 1) List.mem_cons_self
  have A1 : cA D 0 h1 := ⟨fun j hj => (pI_md hm1 rfl).trans (hB j hj), hR, r31, by omega, by show pI h1 3 3 = 0; omega, hn, Nat.zero_le _, fun _ => by omega⟩
  refine znx (mi := 32) (d := d) zv_st (by decide) hi1 A1 (fun h2 hi2 T2 hm2 => ?_)
  refine spq_ok (pc := 34) (fun _ => 0) stt2 (fun mi c h => nomatch h) (by omega) L1 (sA0_ok _) trivial hi2 rfl (fun e he => nomatch he) ?_
  intro e he r' h' hp' hi' hm'
  have e := List.mem_singleton.mp he
  subst e
  refine ⟨hp'.1, hi', ((hm1.sub rfl).seq (hm2.sub rfl)).seq (hm'.sub rfl), T2.mdo hm' rfl (fun j _ => rfl), ?_, ?_⟩
  · rw [pI_md hm' rfl, pI_md hm2 rfl]
    omega
  · rw [pI_md hm' rfl, pI_md hm2 rfl]
    omega
theorem sP_c3 : ∀ {P : zHP} {a b r a' b' r' a'' b'' r'' : Nat}, P a b = some r → P a' b' = some r' → P a'' b'' = some r'' → P = (fun x y => if x = a ∧ y = b then some r else if x = a' ∧ y = b' then some r' else if x = a'' ∧ y = b'' then some r'' else P x y : zHP) := fun {P a b r a' b' r' a'' b'' r''} h h' h'' => by
  funext x y
  split
  · rename_i e
    rw [e.1, e.2, h]
  · split
    · rename_i e
      rw [e.1, e.2, h']
    · split
      · rename_i e
        rw [e.1, e.2, h'']
      · rfl
set_option maxRecDepth 100000 in
set_option maxHeartbeats 4000000 in
theorem rt0 {l : Launch} {Γ : zG} {d d0 : Nat} {Kp : Option Value → zH → Prop} {h : zH} {K n : Int32} (hs : h.1 = zshC)  (hX : zX l Γ false (d + 2) zh29 (zMQ' Γ false zh29 Kp) 0 0 1 [(0, .ref 2), (1, .ref d0), (2, .ref 1), (3, .int n)] [.ref d0] h) : zX l Γ false (d + 2) zh29 (zMQ' Γ false zh29 Kp) 0 0 0 [(0, .ref 2), (1, .ref d0), (2, .ref 1), (3, .int n)] [] h := by
  obtain ⟨s, I, Lg, P⟩ := h
  have hs : s = zshC := hs
  subst hs
  have hX : zX l Γ false (d + 2) zh29 (zMQ' Γ false zh29 Kp) 0 0 1 [(0, .ref 2), (1, .ref d0), (2, .ref 1), (3, .int n)] [.ref d0] (zshC, I, Lg, P) := hX
  refine zpcF (M := (zh29, zc29)) 29 1 rfl zckm29 (fun _ _ _ _ h => h) ?_
  exact hX
set_option maxRecDepth 100000 in
set_option maxHeartbeats 4000000 in
theorem rt1 {l : Launch} {Γ : zG} {d d0 : Nat} {Kp : Option Value → zH → Prop} {h : zH} {K n : Int32} (hs : h.1 = zshC) (hr0 : h.2.2.2 2 0 = some 3) (hX : zX l Γ false (d + 2) zh29 (zMQ' Γ false zh29 Kp) 0 0 10 [(0, .ref 2), (1, .ref d0), (2, .ref 1), (3, .int n)] [.int n, .ref 1, .ref 3] h) : zX l Γ false (d + 2) zh29 (zMQ' Γ false zh29 Kp) 0 0 4 [(0, .ref 2), (1, .ref d0), (2, .ref 1), (3, .int n)] [] h := by
  obtain ⟨s, I, Lg, P⟩ := h
  have hs : s = zshC := hs
  subst hs
  have hX : zX l Γ false (d + 2) zh29 (zMQ' Γ false zh29 Kp) 0 0 10 [(0, .ref 2), (1, .ref d0), (2, .ref 1), (3, .int n)] [.int n, .ref 1, .ref 3] (zshC, I, Lg, P) := hX
  have eP := zPn (P := P) hr0
  rw [eP] at hX ⊢
  refine zpcF (M := (zh29, zc29)) 29 10 rfl zckm29 (fun _ _ _ _ h => h) ?_
  exact hX
set_option maxRecDepth 100000 in
set_option maxHeartbeats 4000000 in
theorem rtS {l : Launch} {Γ : zG} {d d0 : Nat} {Kp : Option Value → zH → Prop} {h : zH} {K n : Int32} (hs : h.1 = zshC)  (hX : zX l Γ false (d + 2) zh29 (zMQ' Γ false zh29 Kp) 0 0 19 [(5, .int (Int32.ofInt 0)), (4, .int (Int32.ofInt 0)), (0, .ref 2), (1, .ref d0), (2, .ref 1), (3, .int n)] [] h) : zX l Γ false (d + 2) zh29 (zMQ' Γ false zh29 Kp) 0 0 13 [(0, .ref 2), (1, .ref d0), (2, .ref 1), (3, .int n)] [] h := by
  obtain ⟨s, I, Lg, P⟩ := h
  have hs : s = zshC := hs
  subst hs
  have hX : zX l Γ false (d + 2) zh29 (zMQ' Γ false zh29 Kp) 0 0 19 [(5, .int (Int32.ofInt 0)), (4, .int (Int32.ofInt 0)), (0, .ref 2), (1, .ref d0), (2, .ref 1), (3, .int n)] [] (zshC, I, Lg, P) := hX
  refine zpcF (M := (zh29, zc29)) 29 19 rfl zckm29 (fun _ _ _ _ h => h) ?_
  exact hX
set_option maxRecDepth 100000 in
set_option maxHeartbeats 4000000 in
theorem rtK0 {l : Launch} {Γ : zG} {d d0 : Nat} {Kp : Option Value → zH → Prop} {h : zH} {K n : Int32} (cK : ¬ (Int16.ofInt 700).toInt32 ≤ K) (ck : ¬ h.2.1 3 4 = 0) (c0 : h.2.1 3 8 = 0) (e : h.2.1 3 4 = Int32.ofNat 10) (hs : h.1 = zshC) (hr0 : h.2.2.2 2 0 = some 3) (hX : zX l Γ false (d + 2) zh29 (zMQ' Γ false zh29 Kp) 0 0 102 [(5, .int K), (4, .int K), (0, .ref 2), (1, .ref d0), (2, .ref 1), (3, .int n)] [.ref d0, .ref 2] h) : zX l Γ false (d + 2) zh29 (zMQ' Γ false zh29 Kp) 0 0 19 [(5, .int K), (4, .int K), (0, .ref 2), (1, .ref d0), (2, .ref 1), (3, .int n)] [] h := by
  obtain ⟨s, I, Lg, P⟩ := h
  have hs : s = zshC := hs
  subst hs
  have ck : ¬ I 3 4 = 0 := ck
  have c0 : I 3 8 = 0 := c0
  have e : I 3 4 = Int32.ofNat 10 := e
  have hX : zX l Γ false (d + 2) zh29 (zMQ' Γ false zh29 Kp) 0 0 102 [(5, .int K), (4, .int K), (0, .ref 2), (1, .ref d0), (2, .ref 1), (3, .int n)] [.ref d0, .ref 2] (zshC, I, Lg, P) := hX
  have eP := zPn (P := P) hr0
  rw [eP] at hX ⊢
  refine zpcF (M := (zh29, zc29)) 29 102 rfl zckm29 (fun _ _ _ _ h => h) ?_
  refine zdecF cK (fun _ => ?_)
  refine zdecF ck (fun _ => ?_)
  refine zdecT c0 (fun _ => ?_)
  refine zdecT e (fun _ => ?_)
  exact hX
set_option maxRecDepth 100000 in
set_option maxHeartbeats 4000000 in
theorem rtI0 {l : Launch} {Γ : zG} {d d0 : Nat} {Kp : Option Value → zH → Prop} {h : zH} {K n : Int32} (hs : h.1 = zshC)  (hX : zX l Γ false (d + 2) zh29 (zMQ' Γ false zh29 Kp) 0 0 19 [(5, .int (K + Int32.ofInt 1)), (4, .int (K + Int32.ofInt 1)), (0, .ref 2), (1, .ref d0), (2, .ref 1), (3, .int n)] [] h) : zX l Γ false (d + 2) zh29 (zMQ' Γ false zh29 Kp) 0 0 105 [(5, .int K), (4, .int K), (0, .ref 2), (1, .ref d0), (2, .ref 1), (3, .int n)] [] h := by
  obtain ⟨s, I, Lg, P⟩ := h
  have hs : s = zshC := hs
  subst hs
  have hX : zX l Γ false (d + 2) zh29 (zMQ' Γ false zh29 Kp) 0 0 19 [(5, .int (K + Int32.ofInt 1)), (4, .int (K + Int32.ofInt 1)), (0, .ref 2), (1, .ref d0), (2, .ref 1), (3, .int n)] [] (zshC, I, Lg, P) := hX
  refine zpcF (M := (zh29, zc29)) 29 19 rfl zckm29 (fun _ _ _ _ h => h) ?_
  exact hX
set_option maxRecDepth 100000 in
set_option maxHeartbeats 4000000 in
theorem rtK1 {l : Launch} {Γ : zG} {d d0 : Nat} {Kp : Option Value → zH → Prop} {h : zH} {K n : Int32} (cK : ¬ (Int16.ofInt 700).toInt32 ≤ K) (ck : ¬ h.2.1 3 4 = 0) (c0 : h.2.1 3 8 = 0) (n0 : ¬ h.2.1 3 4 = Int32.ofNat 10) (e : h.2.1 3 4 = Int32.ofNat 11) (hs : h.1 = zshC) (hr0 : h.2.2.2 2 0 = some 3) (hX : zX l Γ false (d + 2) zh29 (zMQ' Γ false zh29 Kp) 0 0 110 [(5, .int K), (4, .int K), (0, .ref 2), (1, .ref d0), (2, .ref 1), (3, .int n)] [.ref d0, .ref 2] h) : zX l Γ false (d + 2) zh29 (zMQ' Γ false zh29 Kp) 0 0 19 [(5, .int K), (4, .int K), (0, .ref 2), (1, .ref d0), (2, .ref 1), (3, .int n)] [] h := by
  obtain ⟨s, I, Lg, P⟩ := h
  have hs : s = zshC := hs
  subst hs
  have ck : ¬ I 3 4 = 0 := ck
  have c0 : I 3 8 = 0 := c0
  have n0 : ¬ I 3 4 = Int32.ofNat 10 := n0
  have e : I 3 4 = Int32.ofNat 11 := e
  have hX : zX l Γ false (d + 2) zh29 (zMQ' Γ false zh29 Kp) 0 0 110 [(5, .int K), (4, .int K), (0, .ref 2), (1, .ref d0), (2, .ref 1), (3, .int n)] [.ref d0, .ref 2] (zshC, I, Lg, P) := hX
  have eP := zPn (P := P) hr0
  rw [eP] at hX ⊢
  refine zpcF (M := (zh29, zc29)) 29 110 rfl zckm29 (fun _ _ _ _ h => h) ?_
  refine zdecF cK (fun _ => ?_)
  refine zdecF ck (fun _ => ?_)
  refine zdecT c0 (fun _ => ?_)
  refine zdecF n0 (fun _ => ?_)
  refine zdecT e (fun _ => ?_)
  exact hX
set_option maxRecDepth 100000 in
set_option maxHeartbeats 4000000 in
theorem rtI1 {l : Launch} {Γ : zG} {d d0 : Nat} {Kp : Option Value → zH → Prop} {h : zH} {K n : Int32} (hs : h.1 = zshC)  (hX : zX l Γ false (d + 2) zh29 (zMQ' Γ false zh29 Kp) 0 0 19 [(5, .int (K + Int32.ofInt 1)), (4, .int (K + Int32.ofInt 1)), (0, .ref 2), (1, .ref d0), (2, .ref 1), (3, .int n)] [] h) : zX l Γ false (d + 2) zh29 (zMQ' Γ false zh29 Kp) 0 0 113 [(5, .int K), (4, .int K), (0, .ref 2), (1, .ref d0), (2, .ref 1), (3, .int n)] [] h := by
  obtain ⟨s, I, Lg, P⟩ := h
  have hs : s = zshC := hs
  subst hs
  have hX : zX l Γ false (d + 2) zh29 (zMQ' Γ false zh29 Kp) 0 0 19 [(5, .int (K + Int32.ofInt 1)), (4, .int (K + Int32.ofInt 1)), (0, .ref 2), (1, .ref d0), (2, .ref 1), (3, .int n)] [] (zshC, I, Lg, P) := hX
  refine zpcF (M := (zh29, zc29)) 29 19 rfl zckm29 (fun _ _ _ _ h => h) ?_
  exact hX
set_option maxRecDepth 100000 in
set_option maxHeartbeats 4000000 in
theorem rtK2 {l : Launch} {Γ : zG} {d d0 : Nat} {Kp : Option Value → zH → Prop} {h : zH} {K n : Int32} (cK : ¬ (Int16.ofInt 700).toInt32 ≤ K) (ck : ¬ h.2.1 3 4 = 0) (c0 : h.2.1 3 8 = 0) (n0 : ¬ h.2.1 3 4 = Int32.ofNat 10) (n1 : ¬ h.2.1 3 4 = Int32.ofNat 11) (e : h.2.1 3 4 = Int32.ofNat 12) (hs : h.1 = zshC) (hr0 : h.2.2.2 2 0 = some 3) (hX : zX l Γ false (d + 2) zh29 (zMQ' Γ false zh29 Kp) 0 0 118 [(5, .int K), (4, .int K), (0, .ref 2), (1, .ref d0), (2, .ref 1), (3, .int n)] [.ref d0, .ref 2] h) : zX l Γ false (d + 2) zh29 (zMQ' Γ false zh29 Kp) 0 0 19 [(5, .int K), (4, .int K), (0, .ref 2), (1, .ref d0), (2, .ref 1), (3, .int n)] [] h := by
  obtain ⟨s, I, Lg, P⟩ := h
  have hs : s = zshC := hs
  subst hs
  have ck : ¬ I 3 4 = 0 := ck
  have c0 : I 3 8 = 0 := c0
  have n0 : ¬ I 3 4 = Int32.ofNat 10 := n0
  have n1 : ¬ I 3 4 = Int32.ofNat 11 := n1
  have e : I 3 4 = Int32.ofNat 12 := e
  have hX : zX l Γ false (d + 2) zh29 (zMQ' Γ false zh29 Kp) 0 0 118 [(5, .int K), (4, .int K), (0, .ref 2), (1, .ref d0), (2, .ref 1), (3, .int n)] [.ref d0, .ref 2] (zshC, I, Lg, P) := hX
  have eP := zPn (P := P) hr0
  rw [eP] at hX ⊢
  refine zpcF (M := (zh29, zc29)) 29 118 rfl zckm29 (fun _ _ _ _ h => h) ?_
  refine zdecF cK (fun _ => ?_)
  refine zdecF ck (fun _ => ?_)
  refine zdecT c0 (fun _ => ?_)
  refine zdecF n0 (fun _ => ?_)
  refine zdecF n1 (fun _ => ?_)
  refine zdecT e (fun _ => ?_)
  exact hX
set_option maxRecDepth 100000 in
set_option maxHeartbeats 4000000 in
theorem rtI2 {l : Launch} {Γ : zG} {d d0 : Nat} {Kp : Option Value → zH → Prop} {h : zH} {K n : Int32} (hs : h.1 = zshC)  (hX : zX l Γ false (d + 2) zh29 (zMQ' Γ false zh29 Kp) 0 0 19 [(5, .int (K + Int32.ofInt 1)), (4, .int (K + Int32.ofInt 1)), (0, .ref 2), (1, .ref d0), (2, .ref 1), (3, .int n)] [] h) : zX l Γ false (d + 2) zh29 (zMQ' Γ false zh29 Kp) 0 0 121 [(5, .int K), (4, .int K), (0, .ref 2), (1, .ref d0), (2, .ref 1), (3, .int n)] [] h := by
  obtain ⟨s, I, Lg, P⟩ := h
  have hs : s = zshC := hs
  subst hs
  have hX : zX l Γ false (d + 2) zh29 (zMQ' Γ false zh29 Kp) 0 0 19 [(5, .int (K + Int32.ofInt 1)), (4, .int (K + Int32.ofInt 1)), (0, .ref 2), (1, .ref d0), (2, .ref 1), (3, .int n)] [] (zshC, I, Lg, P) := hX
  refine zpcF (M := (zh29, zc29)) 29 19 rfl zckm29 (fun _ _ _ _ h => h) ?_
  exact hX
set_option maxRecDepth 100000 in
set_option maxHeartbeats 4000000 in
theorem rtK3 {l : Launch} {Γ : zG} {d d0 : Nat} {Kp : Option Value → zH → Prop} {h : zH} {K n : Int32} (cK : ¬ (Int16.ofInt 700).toInt32 ≤ K) (ck : ¬ h.2.1 3 4 = 0) (c0 : h.2.1 3 8 = 0) (n0 : ¬ h.2.1 3 4 = Int32.ofNat 10) (n1 : ¬ h.2.1 3 4 = Int32.ofNat 11) (n2 : ¬ h.2.1 3 4 = Int32.ofNat 12) (e : h.2.1 3 4 = Int32.ofNat 13) (hs : h.1 = zshC) (hr0 : h.2.2.2 2 0 = some 3) (hX : zX l Γ false (d + 2) zh29 (zMQ' Γ false zh29 Kp) 0 0 126 [(5, .int K), (4, .int K), (0, .ref 2), (1, .ref d0), (2, .ref 1), (3, .int n)] [.ref d0, .ref 2] h) : zX l Γ false (d + 2) zh29 (zMQ' Γ false zh29 Kp) 0 0 19 [(5, .int K), (4, .int K), (0, .ref 2), (1, .ref d0), (2, .ref 1), (3, .int n)] [] h := by
  obtain ⟨s, I, Lg, P⟩ := h
  have hs : s = zshC := hs
  subst hs
  have ck : ¬ I 3 4 = 0 := ck
  have c0 : I 3 8 = 0 := c0
  have n0 : ¬ I 3 4 = Int32.ofNat 10 := n0
  have n1 : ¬ I 3 4 = Int32.ofNat 11 := n1
  have n2 : ¬ I 3 4 = Int32.ofNat 12 := n2
  have e : I 3 4 = Int32.ofNat 13 := e
  have hX : zX l Γ false (d + 2) zh29 (zMQ' Γ false zh29 Kp) 0 0 126 [(5, .int K), (4, .int K), (0, .ref 2), (1, .ref d0), (2, .ref 1), (3, .int n)] [.ref d0, .ref 2] (zshC, I, Lg, P) := hX
  have eP := zPn (P := P) hr0
  rw [eP] at hX ⊢
  refine zpcF (M := (zh29, zc29)) 29 126 rfl zckm29 (fun _ _ _ _ h => h) ?_
  refine zdecF cK (fun _ => ?_)
  refine zdecF ck (fun _ => ?_)
  refine zdecT c0 (fun _ => ?_)
  refine zdecF n0 (fun _ => ?_)
  refine zdecF n1 (fun _ => ?_)
  refine zdecF n2 (fun _ => ?_)
  refine zdecT e (fun _ => ?_)
  exact hX
set_option maxRecDepth 100000 in
set_option maxHeartbeats 4000000 in
theorem rtI3 {l : Launch} {Γ : zG} {d d0 : Nat} {Kp : Option Value → zH → Prop} {h : zH} {K n : Int32} (hs : h.1 = zshC)  (hX : zX l Γ false (d + 2) zh29 (zMQ' Γ false zh29 Kp) 0 0 19 [(5, .int (K + Int32.ofInt 1)), (4, .int (K + Int32.ofInt 1)), (0, .ref 2), (1, .ref d0), (2, .ref 1), (3, .int n)] [] h) : zX l Γ false (d + 2) zh29 (zMQ' Γ false zh29 Kp) 0 0 129 [(5, .int K), (4, .int K), (0, .ref 2), (1, .ref d0), (2, .ref 1), (3, .int n)] [] h := by
  obtain ⟨s, I, Lg, P⟩ := h
  have hs : s = zshC := hs
  subst hs
  have hX : zX l Γ false (d + 2) zh29 (zMQ' Γ false zh29 Kp) 0 0 19 [(5, .int (K + Int32.ofInt 1)), (4, .int (K + Int32.ofInt 1)), (0, .ref 2), (1, .ref d0), (2, .ref 1), (3, .int n)] [] (zshC, I, Lg, P) := hX
  refine zpcF (M := (zh29, zc29)) 29 19 rfl zckm29 (fun _ _ _ _ h => h) ?_
  exact hX
set_option maxRecDepth 100000 in
set_option maxHeartbeats 4000000 in
theorem rtK4 {l : Launch} {Γ : zG} {d d0 : Nat} {Kp : Option Value → zH → Prop} {h : zH} {K n : Int32} (cK : ¬ (Int16.ofInt 700).toInt32 ≤ K) (ck : ¬ h.2.1 3 4 = 0) (c0 : h.2.1 3 8 = 0) (n0 : ¬ h.2.1 3 4 = Int32.ofNat 10) (n1 : ¬ h.2.1 3 4 = Int32.ofNat 11) (n2 : ¬ h.2.1 3 4 = Int32.ofNat 12) (n3 : ¬ h.2.1 3 4 = Int32.ofNat 13) (e : h.2.1 3 4 = Int32.ofNat 14) (hs : h.1 = zshC) (hr0 : h.2.2.2 2 0 = some 3) (hX : zX l Γ false (d + 2) zh29 (zMQ' Γ false zh29 Kp) 0 0 134 [(5, .int K), (4, .int K), (0, .ref 2), (1, .ref d0), (2, .ref 1), (3, .int n)] [.ref d0, .ref 2] h) : zX l Γ false (d + 2) zh29 (zMQ' Γ false zh29 Kp) 0 0 19 [(5, .int K), (4, .int K), (0, .ref 2), (1, .ref d0), (2, .ref 1), (3, .int n)] [] h := by
  obtain ⟨s, I, Lg, P⟩ := h
  have hs : s = zshC := hs
  subst hs
  have ck : ¬ I 3 4 = 0 := ck
  have c0 : I 3 8 = 0 := c0
  have n0 : ¬ I 3 4 = Int32.ofNat 10 := n0
  have n1 : ¬ I 3 4 = Int32.ofNat 11 := n1
  have n2 : ¬ I 3 4 = Int32.ofNat 12 := n2
  have n3 : ¬ I 3 4 = Int32.ofNat 13 := n3
  have e : I 3 4 = Int32.ofNat 14 := e
  have hX : zX l Γ false (d + 2) zh29 (zMQ' Γ false zh29 Kp) 0 0 134 [(5, .int K), (4, .int K), (0, .ref 2), (1, .ref d0), (2, .ref 1), (3, .int n)] [.ref d0, .ref 2] (zshC, I, Lg, P) := hX
  have eP := zPn (P := P) hr0
  rw [eP] at hX ⊢
  refine zpcF (M := (zh29, zc29)) 29 134 rfl zckm29 (fun _ _ _ _ h => h) ?_
  refine zdecF cK (fun _ => ?_)
  refine zdecF ck (fun _ => ?_)
  refine zdecT c0 (fun _ => ?_)
  refine zdecF n0 (fun _ => ?_)
  refine zdecF n1 (fun _ => ?_)
  refine zdecF n2 (fun _ => ?_)
  refine zdecF n3 (fun _ => ?_)
  refine zdecT e (fun _ => ?_)
  exact hX
set_option maxRecDepth 100000 in
set_option maxHeartbeats 4000000 in
theorem rtI4 {l : Launch} {Γ : zG} {d d0 : Nat} {Kp : Option Value → zH → Prop} {h : zH} {K n : Int32} (hs : h.1 = zshC)  (hX : zX l Γ false (d + 2) zh29 (zMQ' Γ false zh29 Kp) 0 0 19 [(5, .int (K + Int32.ofInt 1)), (4, .int (K + Int32.ofInt 1)), (0, .ref 2), (1, .ref d0), (2, .ref 1), (3, .int n)] [] h) : zX l Γ false (d + 2) zh29 (zMQ' Γ false zh29 Kp) 0 0 137 [(5, .int K), (4, .int K), (0, .ref 2), (1, .ref d0), (2, .ref 1), (3, .int n)] [] h := by
  obtain ⟨s, I, Lg, P⟩ := h
  have hs : s = zshC := hs
  subst hs
  have hX : zX l Γ false (d + 2) zh29 (zMQ' Γ false zh29 Kp) 0 0 19 [(5, .int (K + Int32.ofInt 1)), (4, .int (K + Int32.ofInt 1)), (0, .ref 2), (1, .ref d0), (2, .ref 1), (3, .int n)] [] (zshC, I, Lg, P) := hX
  refine zpcF (M := (zh29, zc29)) 29 19 rfl zckm29 (fun _ _ _ _ h => h) ?_
  exact hX
set_option maxRecDepth 100000 in
set_option maxHeartbeats 4000000 in
theorem rtK5 {l : Launch} {Γ : zG} {d d0 : Nat} {Kp : Option Value → zH → Prop} {h : zH} {K n : Int32} (cK : ¬ (Int16.ofInt 700).toInt32 ≤ K) (ck : ¬ h.2.1 3 4 = 0) (c0 : h.2.1 3 8 = 0) (n0 : ¬ h.2.1 3 4 = Int32.ofNat 10) (n1 : ¬ h.2.1 3 4 = Int32.ofNat 11) (n2 : ¬ h.2.1 3 4 = Int32.ofNat 12) (n3 : ¬ h.2.1 3 4 = Int32.ofNat 13) (n4 : ¬ h.2.1 3 4 = Int32.ofNat 14) (e : h.2.1 3 4 = Int32.ofNat 15) (hs : h.1 = zshC) (hr0 : h.2.2.2 2 0 = some 3) (hX : zX l Γ false (d + 2) zh29 (zMQ' Γ false zh29 Kp) 0 0 142 [(5, .int K), (4, .int K), (0, .ref 2), (1, .ref d0), (2, .ref 1), (3, .int n)] [.ref d0, .ref 2] h) : zX l Γ false (d + 2) zh29 (zMQ' Γ false zh29 Kp) 0 0 19 [(5, .int K), (4, .int K), (0, .ref 2), (1, .ref d0), (2, .ref 1), (3, .int n)] [] h := by
  obtain ⟨s, I, Lg, P⟩ := h
  have hs : s = zshC := hs
  subst hs
  have ck : ¬ I 3 4 = 0 := ck
  have c0 : I 3 8 = 0 := c0
  have n0 : ¬ I 3 4 = Int32.ofNat 10 := n0
  have n1 : ¬ I 3 4 = Int32.ofNat 11 := n1
  have n2 : ¬ I 3 4 = Int32.ofNat 12 := n2
  have n3 : ¬ I 3 4 = Int32.ofNat 13 := n3
  have n4 : ¬ I 3 4 = Int32.ofNat 14 := n4
  have e : I 3 4 = Int32.ofNat 15 := e
  have hX : zX l Γ false (d + 2) zh29 (zMQ' Γ false zh29 Kp) 0 0 142 [(5, .int K), (4, .int K), (0, .ref 2), (1, .ref d0), (2, .ref 1), (3, .int n)] [.ref d0, .ref 2] (zshC, I, Lg, P) := hX
  have eP := zPn (P := P) hr0
  rw [eP] at hX ⊢
  refine zpcF (M := (zh29, zc29)) 29 142 rfl zckm29 (fun _ _ _ _ h => h) ?_
  refine zdecF cK (fun _ => ?_)
  refine zdecF ck (fun _ => ?_)
  refine zdecT c0 (fun _ => ?_)
  refine zdecF n0 (fun _ => ?_)
  refine zdecF n1 (fun _ => ?_)
  refine zdecF n2 (fun _ => ?_)
  refine zdecF n3 (fun _ => ?_)
  refine zdecF n4 (fun _ => ?_)
  refine zdecT e (fun _ => ?_)
  exact hX
set_option maxRecDepth 100000 in
set_option maxHeartbeats 4000000 in
theorem rtI5 {l : Launch} {Γ : zG} {d d0 : Nat} {Kp : Option Value → zH → Prop} {h : zH} {K n : Int32} (hs : h.1 = zshC)  (hX : zX l Γ false (d + 2) zh29 (zMQ' Γ false zh29 Kp) 0 0 19 [(5, .int (K + Int32.ofInt 1)), (4, .int (K + Int32.ofInt 1)), (0, .ref 2), (1, .ref d0), (2, .ref 1), (3, .int n)] [] h) : zX l Γ false (d + 2) zh29 (zMQ' Γ false zh29 Kp) 0 0 145 [(5, .int K), (4, .int K), (0, .ref 2), (1, .ref d0), (2, .ref 1), (3, .int n)] [] h := by
  obtain ⟨s, I, Lg, P⟩ := h
  have hs : s = zshC := hs
  subst hs
  have hX : zX l Γ false (d + 2) zh29 (zMQ' Γ false zh29 Kp) 0 0 19 [(5, .int (K + Int32.ofInt 1)), (4, .int (K + Int32.ofInt 1)), (0, .ref 2), (1, .ref d0), (2, .ref 1), (3, .int n)] [] (zshC, I, Lg, P) := hX
  refine zpcF (M := (zh29, zc29)) 29 19 rfl zckm29 (fun _ _ _ _ h => h) ?_
  exact hX
set_option maxRecDepth 100000 in
set_option maxHeartbeats 4000000 in
theorem rtK6 {l : Launch} {Γ : zG} {d d0 : Nat} {Kp : Option Value → zH → Prop} {h : zH} {K n : Int32} (cK : ¬ (Int16.ofInt 700).toInt32 ≤ K) (ck : ¬ h.2.1 3 4 = 0) (c0 : h.2.1 3 8 = 0) (n0 : ¬ h.2.1 3 4 = Int32.ofNat 10) (n1 : ¬ h.2.1 3 4 = Int32.ofNat 11) (n2 : ¬ h.2.1 3 4 = Int32.ofNat 12) (n3 : ¬ h.2.1 3 4 = Int32.ofNat 13) (n4 : ¬ h.2.1 3 4 = Int32.ofNat 14) (n5 : ¬ h.2.1 3 4 = Int32.ofNat 15) (e : h.2.1 3 4 = Int32.ofNat 16) (hs : h.1 = zshC) (hr0 : h.2.2.2 2 0 = some 3) (hX : zX l Γ false (d + 2) zh29 (zMQ' Γ false zh29 Kp) 0 0 150 [(5, .int K), (4, .int K), (0, .ref 2), (1, .ref d0), (2, .ref 1), (3, .int n)] [.ref d0, .ref 2] h) : zX l Γ false (d + 2) zh29 (zMQ' Γ false zh29 Kp) 0 0 19 [(5, .int K), (4, .int K), (0, .ref 2), (1, .ref d0), (2, .ref 1), (3, .int n)] [] h := by
  obtain ⟨s, I, Lg, P⟩ := h
  have hs : s = zshC := hs
  subst hs
  have ck : ¬ I 3 4 = 0 := ck
  have c0 : I 3 8 = 0 := c0
  have n0 : ¬ I 3 4 = Int32.ofNat 10 := n0
  have n1 : ¬ I 3 4 = Int32.ofNat 11 := n1
  have n2 : ¬ I 3 4 = Int32.ofNat 12 := n2
  have n3 : ¬ I 3 4 = Int32.ofNat 13 := n3
  have n4 : ¬ I 3 4 = Int32.ofNat 14 := n4
  have n5 : ¬ I 3 4 = Int32.ofNat 15 := n5
  have e : I 3 4 = Int32.ofNat 16 := e
  have hX : zX l Γ false (d + 2) zh29 (zMQ' Γ false zh29 Kp) 0 0 150 [(5, .int K), (4, .int K), (0, .ref 2), (1, .ref d0), (2, .ref 1), (3, .int n)] [.ref d0, .ref 2] (zshC, I, Lg, P) := hX
  have eP := zPn (P := P) hr0
  rw [eP] at hX ⊢
  refine zpcF (M := (zh29, zc29)) 29 150 rfl zckm29 (fun _ _ _ _ h => h) ?_
  refine zdecF cK (fun _ => ?_)
  refine zdecF ck (fun _ => ?_)
  refine zdecT c0 (fun _ => ?_)
  refine zdecF n0 (fun _ => ?_)
  refine zdecF n1 (fun _ => ?_)
  refine zdecF n2 (fun _ => ?_)
  refine zdecF n3 (fun _ => ?_)
  refine zdecF n4 (fun _ => ?_)
  refine zdecF n5 (fun _ => ?_)
  refine zdecT e (fun _ => ?_)
  exact hX
set_option maxRecDepth 100000 in
set_option maxHeartbeats 4000000 in
theorem rtI6 {l : Launch} {Γ : zG} {d d0 : Nat} {Kp : Option Value → zH → Prop} {h : zH} {K n : Int32} (hs : h.1 = zshC)  (hX : zX l Γ false (d + 2) zh29 (zMQ' Γ false zh29 Kp) 0 0 19 [(5, .int (K + Int32.ofInt 1)), (4, .int (K + Int32.ofInt 1)), (0, .ref 2), (1, .ref d0), (2, .ref 1), (3, .int n)] [] h) : zX l Γ false (d + 2) zh29 (zMQ' Γ false zh29 Kp) 0 0 153 [(5, .int K), (4, .int K), (0, .ref 2), (1, .ref d0), (2, .ref 1), (3, .int n)] [] h := by
  obtain ⟨s, I, Lg, P⟩ := h
  have hs : s = zshC := hs
  subst hs
  have hX : zX l Γ false (d + 2) zh29 (zMQ' Γ false zh29 Kp) 0 0 19 [(5, .int (K + Int32.ofInt 1)), (4, .int (K + Int32.ofInt 1)), (0, .ref 2), (1, .ref d0), (2, .ref 1), (3, .int n)] [] (zshC, I, Lg, P) := hX
  refine zpcF (M := (zh29, zc29)) 29 19 rfl zckm29 (fun _ _ _ _ h => h) ?_
  exact hX
set_option maxRecDepth 100000 in
set_option maxHeartbeats 4000000 in
theorem rtK7 {l : Launch} {Γ : zG} {d d0 : Nat} {Kp : Option Value → zH → Prop} {h : zH} {K n : Int32} (cK : ¬ (Int16.ofInt 700).toInt32 ≤ K) (ck : ¬ h.2.1 3 4 = 0) (c0 : h.2.1 3 8 = 0) (n0 : ¬ h.2.1 3 4 = Int32.ofNat 10) (n1 : ¬ h.2.1 3 4 = Int32.ofNat 11) (n2 : ¬ h.2.1 3 4 = Int32.ofNat 12) (n3 : ¬ h.2.1 3 4 = Int32.ofNat 13) (n4 : ¬ h.2.1 3 4 = Int32.ofNat 14) (n5 : ¬ h.2.1 3 4 = Int32.ofNat 15) (n6 : ¬ h.2.1 3 4 = Int32.ofNat 16) (e : h.2.1 3 4 = Int32.ofNat 17) (hs : h.1 = zshC) (hr0 : h.2.2.2 2 0 = some 3) (hX : zX l Γ false (d + 2) zh29 (zMQ' Γ false zh29 Kp) 0 0 158 [(5, .int K), (4, .int K), (0, .ref 2), (1, .ref d0), (2, .ref 1), (3, .int n)] [.ref d0, .ref 2] h) : zX l Γ false (d + 2) zh29 (zMQ' Γ false zh29 Kp) 0 0 19 [(5, .int K), (4, .int K), (0, .ref 2), (1, .ref d0), (2, .ref 1), (3, .int n)] [] h := by
  obtain ⟨s, I, Lg, P⟩ := h
  have hs : s = zshC := hs
  subst hs
  have ck : ¬ I 3 4 = 0 := ck
  have c0 : I 3 8 = 0 := c0
  have n0 : ¬ I 3 4 = Int32.ofNat 10 := n0
  have n1 : ¬ I 3 4 = Int32.ofNat 11 := n1
  have n2 : ¬ I 3 4 = Int32.ofNat 12 := n2
  have n3 : ¬ I 3 4 = Int32.ofNat 13 := n3
  have n4 : ¬ I 3 4 = Int32.ofNat 14 := n4
  have n5 : ¬ I 3 4 = Int32.ofNat 15 := n5
  have n6 : ¬ I 3 4 = Int32.ofNat 16 := n6
  have e : I 3 4 = Int32.ofNat 17 := e
  have hX : zX l Γ false (d + 2) zh29 (zMQ' Γ false zh29 Kp) 0 0 158 [(5, .int K), (4, .int K), (0, .ref 2), (1, .ref d0), (2, .ref 1), (3, .int n)] [.ref d0, .ref 2] (zshC, I, Lg, P) := hX
  have eP := zPn (P := P) hr0
  rw [eP] at hX ⊢
  refine zpcF (M := (zh29, zc29)) 29 158 rfl zckm29 (fun _ _ _ _ h => h) ?_
  refine zdecF cK (fun _ => ?_)
  refine zdecF ck (fun _ => ?_)
  refine zdecT c0 (fun _ => ?_)
  refine zdecF n0 (fun _ => ?_)
  refine zdecF n1 (fun _ => ?_)
  refine zdecF n2 (fun _ => ?_)
  refine zdecF n3 (fun _ => ?_)
  refine zdecF n4 (fun _ => ?_)
  refine zdecF n5 (fun _ => ?_)
  refine zdecF n6 (fun _ => ?_)
  refine zdecT e (fun _ => ?_)
  exact hX
set_option maxRecDepth 100000 in
set_option maxHeartbeats 4000000 in
theorem rtI7 {l : Launch} {Γ : zG} {d d0 : Nat} {Kp : Option Value → zH → Prop} {h : zH} {K n : Int32} (hs : h.1 = zshC)  (hX : zX l Γ false (d + 2) zh29 (zMQ' Γ false zh29 Kp) 0 0 19 [(5, .int (K + Int32.ofInt 1)), (4, .int (K + Int32.ofInt 1)), (0, .ref 2), (1, .ref d0), (2, .ref 1), (3, .int n)] [] h) : zX l Γ false (d + 2) zh29 (zMQ' Γ false zh29 Kp) 0 0 161 [(5, .int K), (4, .int K), (0, .ref 2), (1, .ref d0), (2, .ref 1), (3, .int n)] [] h := by
  obtain ⟨s, I, Lg, P⟩ := h
  have hs : s = zshC := hs
  subst hs
  have hX : zX l Γ false (d + 2) zh29 (zMQ' Γ false zh29 Kp) 0 0 19 [(5, .int (K + Int32.ofInt 1)), (4, .int (K + Int32.ofInt 1)), (0, .ref 2), (1, .ref d0), (2, .ref 1), (3, .int n)] [] (zshC, I, Lg, P) := hX
  refine zpcF (M := (zh29, zc29)) 29 19 rfl zckm29 (fun _ _ _ _ h => h) ?_
  exact hX
set_option maxRecDepth 100000 in
set_option maxHeartbeats 4000000 in
theorem rtD {l : Launch} {Γ : zG} {d d0 : Nat} {Kp : Option Value → zH → Prop} {h : zH} {K n : Int32} (cK : ¬ (Int16.ofInt 700).toInt32 ≤ K) (ck : ¬ h.2.1 3 4 = 0) (c0 : h.2.1 3 8 = 0) (n0 : ¬ h.2.1 3 4 = Int32.ofNat 10) (n1 : ¬ h.2.1 3 4 = Int32.ofNat 11) (n2 : ¬ h.2.1 3 4 = Int32.ofNat 12) (n3 : ¬ h.2.1 3 4 = Int32.ofNat 13) (n4 : ¬ h.2.1 3 4 = Int32.ofNat 14) (n5 : ¬ h.2.1 3 4 = Int32.ofNat 15) (n6 : ¬ h.2.1 3 4 = Int32.ofNat 16) (n7 : ¬ h.2.1 3 4 = Int32.ofNat 17) (hs : h.1 = zshC) (hr0 : h.2.2.2 2 0 = some 3) (hX : zX l Γ false (d + 2) zh29 (zMQ' Γ false zh29 Kp) 0 0 172 [(5, .int K), (4, .int K), (0, .ref 2), (1, .ref d0), (2, .ref 1), (3, .int n)] [] (h.1, flI (h.2.1) (Int32.ofInt 1), h.2.2)) : zX l Γ false (d + 2) zh29 (zMQ' Γ false zh29 Kp) 0 0 19 [(5, .int K), (4, .int K), (0, .ref 2), (1, .ref d0), (2, .ref 1), (3, .int n)] [] h := by
  obtain ⟨s, I, Lg, P⟩ := h
  have hs : s = zshC := hs
  subst hs
  have ck : ¬ I 3 4 = 0 := ck
  have c0 : I 3 8 = 0 := c0
  have n0 : ¬ I 3 4 = Int32.ofNat 10 := n0
  have n1 : ¬ I 3 4 = Int32.ofNat 11 := n1
  have n2 : ¬ I 3 4 = Int32.ofNat 12 := n2
  have n3 : ¬ I 3 4 = Int32.ofNat 13 := n3
  have n4 : ¬ I 3 4 = Int32.ofNat 14 := n4
  have n5 : ¬ I 3 4 = Int32.ofNat 15 := n5
  have n6 : ¬ I 3 4 = Int32.ofNat 16 := n6
  have n7 : ¬ I 3 4 = Int32.ofNat 17 := n7
  have hX : zX l Γ false (d + 2) zh29 (zMQ' Γ false zh29 Kp) 0 0 172 [(5, .int K), (4, .int K), (0, .ref 2), (1, .ref d0), (2, .ref 1), (3, .int n)] [] (zshC, flI (I) (Int32.ofInt 1), Lg, P) := hX
  have eP := zPn (P := P) hr0
  rw [eP] at hX ⊢
  refine zpcF (M := (zh29, zc29)) 29 172 rfl zckm29 (fun _ _ _ _ h => h) ?_
  refine zdecF cK (fun _ => ?_)
  refine zdecF ck (fun _ => ?_)
  refine zdecT c0 (fun _ => ?_)
  refine zdecF n0 (fun _ => ?_)
  refine zdecF n1 (fun _ => ?_)
  refine zdecF n2 (fun _ => ?_)
  refine zdecF n3 (fun _ => ?_)
  refine zdecF n4 (fun _ => ?_)
  refine zdecF n5 (fun _ => ?_)
  refine zdecF n6 (fun _ => ?_)
  refine zdecF n7 (fun _ => ?_)
  refine zdecT c0 (fun _ => ?_)
  exact hX
set_option maxRecDepth 100000 in
set_option maxHeartbeats 4000000 in
theorem rtX {l : Launch} {Γ : zG} {d d0 : Nat} {Kp : Option Value → zH → Prop} {h : zH} {K n : Int32} (cK : ¬ (Int16.ofInt 700).toInt32 ≤ K) (ck : h.2.1 3 4 = 0) (c0 : h.2.1 3 8 = 0) (hs : h.1 = zshC) (hr0 : h.2.2.2 2 0 = some 3) (hX : Kp (some (.int K)) h) : zX l Γ false (d + 2) zh29 (zMQ' Γ false zh29 Kp) 0 0 19 [(5, .int K), (4, .int K), (0, .ref 2), (1, .ref d0), (2, .ref 1), (3, .int n)] [] h := by
  obtain ⟨s, I, Lg, P⟩ := h
  have hs : s = zshC := hs
  subst hs
  have ck : I 3 4 = 0 := ck
  have c0 : I 3 8 = 0 := c0
  have hX : Kp (some (.int K)) (zshC, I, Lg, P) := hX
  have eP := zPn (P := P) hr0
  rw [eP] at hX ⊢
  refine zpcF (M := (zh29, zc29)) 29 1000 rfl zckm29 (fun _ _ _ _ h => h) ?_
  refine zdecF cK (fun _ => ?_)
  refine zdecT ck (fun _ => ?_)
  refine zdecT c0 (fun _ => ?_)
  exact hX
set_option maxRecDepth 100000 in
set_option maxHeartbeats 4000000 in
theorem rtY {l : Launch} {Γ : zG} {d d0 : Nat} {Kp : Option Value → zH → Prop} {h : zH} {K n : Int32} (cK : (Int16.ofInt 700).toInt32 ≤ K) (c0 : h.2.1 3 8 = 0) (hs : h.1 = zshC) (hr0 : h.2.2.2 2 0 = some 3) (hX : Kp (some (.int K)) h) : zX l Γ false (d + 2) zh29 (zMQ' Γ false zh29 Kp) 0 0 19 [(5, .int K), (4, .int K), (0, .ref 2), (1, .ref d0), (2, .ref 1), (3, .int n)] [] h := by
  obtain ⟨s, I, Lg, P⟩ := h
  have hs : s = zshC := hs
  subst hs
  have c0 : I 3 8 = 0 := c0
  have hX : Kp (some (.int K)) (zshC, I, Lg, P) := hX
  have eP := zPn (P := P) hr0
  rw [eP] at hX ⊢
  refine zpcF (M := (zh29, zc29)) 29 1000 rfl zckm29 (fun _ _ _ _ h => h) ?_
  refine zdecT cK (fun _ => ?_)
  refine zdecT c0 (fun _ => ?_)
  exact hX
theorem zv_rt102 : zcvB 29 102 1 1 40 = true := by decide +kernel
theorem zv_rt110 : zcvB 29 110 1 1 50 = true := by decide +kernel
theorem zv_rt118 : zcvB 29 118 1 1 53 = true := by decide +kernel
theorem zv_rt126 : zcvB 29 126 1 1 54 = true := by decide +kernel
theorem zv_rt134 : zcvB 29 134 1 1 55 = true := by decide +kernel
theorem zv_rt142 : zcvB 29 142 1 1 56 = true := by decide +kernel
theorem zv_rt150 : zcvB 29 150 1 1 57 = true := by decide +kernel
theorem zv_rt158 : zcvB 29 158 1 1 58 = true := by decide +kernel
theorem zv_rtc : zcvB 29 1 4 0 30 = true := by decide +kernel
theorem zv_rts : zcvB 29 10 2 2 32 = true := by decide +kernel
def rtP : List Nat := [105, 113, 121, 129, 137, 145, 153, 161, 172]
theorem rtF : rtP.all (fun p => spqB swC sT0 [] 300 2 29 [(0, .inr (.inl 2)), (4, sI1 0 700), (5, sI1 0 700)] (a1 [(3, 8, (1, 5))]) [] [] p [] [rI (-1) sA0 []]) = true := by decide +kernel
def zRP (d0 : Nat) (KF : zKF) (KO : Nat → zN → zS → Prop) (h0 : zH) (r : Option Value) (h' : zH) : Prop := sInv swC h' ∧ sMd (rtM d0) h0 h' ∧ ∃ y : Int32, r = some (.int y) ∧ ((∃ c p, KF c p ∧ y.toInt = -1 ∧ fC c p h') ∨ (∃ m N S, KO m N S ∧ y.toInt = ((m : Nat) : Int) ∧ m ≤ 700 ∧ pI h' 3 8 = 0 ∧ pI h' 3 9 = -1 ∧ RC d0 N S h'))
theorem rt_s {d0 : Nat} (hd : d0 ∈ dLs) : ssubB (cMdL d0) (rtM d0) = true ∧ ssubB [(3, 8, 10)] (rtM d0) = true ∧ ssubB (crM d0) (rtM d0) = true ∧ ssubB [(3, 1, 10)] (rtM d0) = true := by
  simp only [dLs, List.mem_cons, List.not_mem_nil, or_false] at hd
  rcases hd with rfl | rfl <;> decide +kernel
theorem zRTL {l : Launch} {Γ : zG} {d d0 : Nat} (hd0 : d0 ∈ dLs) {D : zD} {KF : zKF} {KO : Nat → zN → zS → Prop} {h0 : zH} {n : Int32} : ∀ (f : Nat) (N : zN) (S : zS) (q m : Nat) (h : zH) (K : Int32), K.toInt = (m : Int) → m ≤ q → sInv swC h → sMd (rtM d0) h0 h → cTk D q h → pI h 3 8 = 0 → RC d0 N S h → wTxt D f N S q m KF KO → D.2 - q < f → zX l Γ false (d + 7) zh29 (zMQ' Γ false zh29 (zRP d0 KF KO h0)) 0 0 19 [(5, .int K), (4, .int K), (0, .ref 2), (1, .ref d0), (2, .ref 1), (3, .int n)] [] h
  | 0, N, S, q, m, h, K, hK, hmq, hi, hm, hT, h8, hR, W, hlt => absurd hlt (Nat.not_lt_zero _)
  | f + 1, N, S, q, m, h, K, hK, hmq, hi, hm, hT, h8, hR, W, hlt => by
    have hq := hT.2.1
    have hn := hT.1.2.2.2.2.2.1
    have k0 := kF_0 hq
    have kb := kF_bd hq
    have tk : (h.2.1 3 4).toInt = kF D q := hT.2.2.1
    have z8 : h.2.1 3 8 = 0 := deq (by rw [show (0 : Int32).toInt = 0 from by decide]; exact h8)
    have P20 : h.2.2.2 2 0 = some 3 := hi.r1 (q := 2) (k := 0) (r := 3) (by decide +kernel)
    obtain ⟨s1, s2, s3, s4⟩ := rt_s hd0
    simp only [wTxt] at W
    by_cases e : kF D q = 0
    · rw [if_pos e] at W
      by_cases h7 : m ≤ 699
      · refine rtX (d := d + 5) (dlen (by rw [hK, show ((Int16.ofInt 700).toInt32).toInt = 700 from by decide]; omega)) (deq (by rw [tk, e]; decide)) z8 hi.1 P20 ?_
        exact ⟨hi, hm, K, rfl, Or.inr ⟨m, N, S, W, hK, by omega, h8, hT.1.2.2.2.2.2.2.2 h8, hR⟩⟩
      · refine rtY (d := d + 5) (dle (by rw [hK, show ((Int16.ofInt 700).toInt32).toInt = 700 from by decide]; omega)) z8 hi.1 P20 ?_
        exact ⟨hi, hm, K, rfl, Or.inr ⟨m, N, S, W, hK, by omega, h8, hT.1.2.2.2.2.2.2.2 h8, hR⟩⟩
    · rw [if_neg e] at W
      have W := wLin_p hq e W
      have cK : ¬ (Int16.ofInt 700).toInt32 ≤ K := dlen (by rw [hK, show ((Int16.ofInt 700).toInt32).toInt = 700 from by decide]; omega)
      have ck : ¬ h.2.1 3 4 = 0 := den (by rw [tk, show (0 : Int32).toInt = 0 from by decide]; exact e)
      have flt : ∀ (p : Nat) (h2 : zH) (c : Int) (p0 : Nat), p ∈ rtP → sInv swC h2 → sMd (rtM d0) h0 h2 → KF c p0 → 1 ≤ c → c ≤ 5 → fC c p0 h2 → zX l Γ false (d + 7) zh29 (zMQ' Γ false zh29 (zRP d0 KF KO h0)) 0 0 p [(5, .int K), (4, .int K), (0, .ref 2), (1, .ref d0), (2, .ref 1), (3, .int n)] [] h2 := by
        intro p h2 c p0 hp hi2 hm2 hF c1 c2 hf
        have f8 := hf.1
        refine spq_r (mi := 29) (pc := p) (fun _ => 0) (List.all_eq_true.mp rtF p hp) (by omega) (sfm ⟨.ref 2, rfl, rfl⟩ (sfm ⟨.int K, rfl, K, rfl, by show 0 ≤ K.toInt; omega, by show K.toInt ≤ 700; omega⟩ (sfm ⟨.int K, rfl, K, rfl, by show 0 ≤ K.toInt; omega, by show K.toInt ≤ 700; omega⟩ (fun _ h => nomatch h)))) (sAok.of (iB (by omega) (by omega) iE)) trivial hi2 rfl ?_
        intro x h' hx hi' hm' _ _
        exact ⟨hi', hm2.seq (hm'.sub rfl), x, rfl, Or.inl ⟨c, p0, hF, hx, hf.md hm' rfl rfl⟩⟩
      have after : ∀ (p : Nat) (r : Option Value) (h2 : zH), p ∈ rtP → (∀ {Kp : Option Value → zH → Prop} {h : zH}, h.1 = zshC → zX l Γ false (d + 7) zh29 (zMQ' Γ false zh29 Kp) 0 0 19 [(5, .int (K + Int32.ofInt 1)), (4, .int (K + Int32.ofInt 1)), (0, .ref 2), (1, .ref d0), (2, .ref 1), (3, .int n)] [] h → zX l Γ false (d + 7) zh29 (zMQ' Γ false zh29 Kp) 0 0 p [(5, .int K), (4, .int K), (0, .ref 2), (1, .ref d0), (2, .ref 1), (3, .int n)] [] h) → zCP D d0 KF (fun N S q' => q < q' ∧ wTxt D f N S q' (m + 1) KF KO) h r h2 → zX l Γ false (d + 7) zh29 (zMQ' Γ false zh29 (zRP d0 KF KO h0)) 0 0 p [(5, .int K), (4, .int K), (0, .ref 2), (1, .ref d0), (2, .ref 1), (3, .int n)] (r.toList ++ []) h2 := by
        intro p r h2 hp hrun hz
        obtain ⟨rfl, hi2, hm2, ⟨c, p0, hF, c1, c2, hf⟩ | ⟨N', S', q', ⟨hqq, W'⟩, z', T', R'⟩⟩ := hz
        · exact flt p h2 c p0 hp hi2 (hm.seq (hm2.sub s1)) hF c1 c2 hf
        · have eK : K + Int32.ofInt 1 = Int32.ofNat (m + 1) := by
            rw [iN (n := m) (by omega) hK]
            exact ofN_add m 1
          have hq' := T'.2.1
          refine hrun hi2.1 ?_
          rw [eK]
          exact zRTL hd0 f N' S' q' (m + 1) h2 _ (oN (by omega)) (by omega) hi2 (hm.seq (hm2.sub s1)) T' z' R' W' (by omega)
      have ne : ∀ j : Nat, j < 100000 → kF D q ≠ (j : Int) → ¬ h.2.1 3 4 = Int32.ofNat j := fun j hj hne => den (by rw [tk, oN hj]; exact hne)
      unfold wLin at W
      by_cases k0 : kF D q = 10
      · rw [if_pos k0] at W
        refine rtK0 (d := d + 5) cK ck z8 (deq (by rw [tk, k0]; decide)) hi.1 P20 ?_
        refine zcallR (mi := 29) (as := [.ref d0]) (rest := []) (q0 := 2) zv_rt102 rfl (by decide) (by rw [hi.1]; rfl) ?_
        have ln : zSem l Γ false (d + 6) (zhd 40) [.ref 2, .ref d0] h (zCP D d0 KF (fun N S q' => q < q' ∧ wTxt D f N S q' (m + 1) KF KO) h) := by
          simp only [dLs, List.mem_cons, List.not_mem_nil, or_false] at hd0
          rcases hd0 with rfl | rfl
          · exact zManC9 (d := d) hi hT h8 hR W
          · exact zManC26 (d := d) hi hT h8 hR W
        refine ln.mono ?_
        intro r h2 hz
        exact after 105 r h2 (by decide) (fun hs hX => rtI0 (d := d + 5) hs hX) hz
      rw [if_neg k0] at W
      by_cases k1 : kF D q = 11
      · rw [if_pos k1] at W
        refine rtK1 (d := d + 5) cK ck z8 (ne 10 (by decide) (by omega)) (deq (by rw [tk, k1]; decide)) hi.1 P20 ?_
        refine zcallR (mi := 29) (as := [.ref d0]) (rest := []) (q0 := 2) zv_rt110 rfl (by decide) (by rw [hi.1]; rfl) ?_
        have ln : zSem l Γ false (d + 6) (zhd 50) [.ref 2, .ref d0] h (zCP D d0 KF (fun N S q' => q < q' ∧ wTxt D f N S q' (m + 1) KF KO) h) := by
          simp only [dLs, List.mem_cons, List.not_mem_nil, or_false] at hd0
          rcases hd0 with rfl | rfl
          · exact zGlsC9 (d := d) hi hT h8 hR W
          · exact zGlsC26 (d := d) hi hT h8 hR W
        refine ln.mono ?_
        intro r h2 hz
        exact after 113 r h2 (by decide) (fun hs hX => rtI1 (d := d + 5) hs hX) hz
      rw [if_neg k1] at W
      by_cases k2 : kF D q = 12
      · rw [if_pos k2] at W
        refine rtK2 (d := d + 5) cK ck z8 (ne 10 (by decide) (by omega)) (ne 11 (by decide) (by omega)) (deq (by rw [tk, k2]; decide)) hi.1 P20 ?_
        refine zcallR (mi := 29) (as := [.ref d0]) (rest := []) (q0 := 2) zv_rt118 rfl (by decide) (by rw [hi.1]; rfl) ?_
        have ln : zSem l Γ false (d + 6) (zhd 53) [.ref 2, .ref d0] h (zCP D d0 KF (fun N S q' => q < q' ∧ wTxt D f N S q' (m + 1) KF KO) h) := by
          simp only [dLs, List.mem_cons, List.not_mem_nil, or_false] at hd0
          rcases hd0 with rfl | rfl
          · exact zTrnC9 (d := d) hi hT h8 hR W
          · exact zTrnC26 (d := d) hi hT h8 hR W
        refine ln.mono ?_
        intro r h2 hz
        exact after 121 r h2 (by decide) (fun hs hX => rtI2 (d := d + 5) hs hX) hz
      rw [if_neg k2] at W
      by_cases k3 : kF D q = 13
      · rw [if_pos k3] at W
        refine rtK3 (d := d + 5) cK ck z8 (ne 10 (by decide) (by omega)) (ne 11 (by decide) (by omega)) (ne 12 (by decide) (by omega)) (deq (by rw [tk, k3]; decide)) hi.1 P20 ?_
        refine zcallR (mi := 29) (as := [.ref d0]) (rest := []) (q0 := 2) zv_rt126 rfl (by decide) (by rw [hi.1]; rfl) ?_
        have ln : zSem l Γ false (d + 6) (zhd 54) [.ref 2, .ref d0] h (zCP D d0 KF (fun N S q' => q < q' ∧ wTxt D f N S q' (m + 1) KF KO) h) := by
          simp only [dLs, List.mem_cons, List.not_mem_nil, or_false] at hd0
          rcases hd0 with rfl | rfl
          · exact zPayC9 (d := d) hi hT h8 hR W
          · exact zPayC26 (d := d) hi hT h8 hR W
        refine ln.mono ?_
        intro r h2 hz
        exact after 129 r h2 (by decide) (fun hs hX => rtI3 (d := d + 5) hs hX) hz
      rw [if_neg k3] at W
      by_cases k4 : kF D q = 14
      · rw [if_pos k4] at W
        refine rtK4 (d := d + 5) cK ck z8 (ne 10 (by decide) (by omega)) (ne 11 (by decide) (by omega)) (ne 12 (by decide) (by omega)) (ne 13 (by decide) (by omega)) (deq (by rw [tk, k4]; decide)) hi.1 P20 ?_
        refine zcallR (mi := 29) (as := [.ref d0]) (rest := []) (q0 := 2) zv_rt134 rfl (by decide) (by rw [hi.1]; rfl) ?_
        have ln : zSem l Γ false (d + 6) (zhd 55) [.ref 2, .ref d0] h (zCP D d0 KF (fun N S q' => q < q' ∧ wTxt D f N S q' (m + 1) KF KO) h) := by
          simp only [dLs, List.mem_cons, List.not_mem_nil, or_false] at hd0
          rcases hd0 with rfl | rfl
          · exact zSivC9 (d := d) hi hT h8 hR W
          · exact zSivC26 (d := d) hi hT h8 hR W
        refine ln.mono ?_
        intro r h2 hz
        exact after 137 r h2 (by decide) (fun hs hX => rtI4 (d := d + 5) hs hX) hz
      rw [if_neg k4] at W
      by_cases k5 : kF D q = 15
      · rw [if_pos k5] at W
        refine rtK5 (d := d + 5) cK ck z8 (ne 10 (by decide) (by omega)) (ne 11 (by decide) (by omega)) (ne 12 (by decide) (by omega)) (ne 13 (by decide) (by omega)) (ne 14 (by decide) (by omega)) (deq (by rw [tk, k5]; decide)) hi.1 P20 ?_
        refine zcallR (mi := 29) (as := [.ref d0]) (rest := []) (q0 := 2) zv_rt142 rfl (by decide) (by rw [hi.1]; rfl) ?_
        have ln : zSem l Γ false (d + 6) (zhd 56) [.ref 2, .ref d0] h (zCP D d0 KF (fun N S q' => q < q' ∧ wTxt D f N S q' (m + 1) KF KO) h) := by
          simp only [dLs, List.mem_cons, List.not_mem_nil, or_false] at hd0
          rcases hd0 with rfl | rfl
          · exact zDmpC9 (d := d) hi hT h8 hR W
          · exact zDmpC26 (d := d) hi hT h8 hR W
        refine ln.mono ?_
        intro r h2 hz
        exact after 145 r h2 (by decide) (fun hs hX => rtI5 (d := d + 5) hs hX) hz
      rw [if_neg k5] at W
      by_cases k6 : kF D q = 16
      · rw [if_pos k6] at W
        refine rtK6 (d := d + 5) cK ck z8 (ne 10 (by decide) (by omega)) (ne 11 (by decide) (by omega)) (ne 12 (by decide) (by omega)) (ne 13 (by decide) (by omega)) (ne 14 (by decide) (by omega)) (ne 15 (by decide) (by omega)) (deq (by rw [tk, k6]; decide)) hi.1 P20 ?_
        refine zcallR (mi := 29) (as := [.ref d0]) (rest := []) (q0 := 2) zv_rt150 rfl (by decide) (by rw [hi.1]; rfl) ?_
        have ln : zSem l Γ false (d + 6) (zhd 57) [.ref 2, .ref d0] h (zCP D d0 KF (fun N S q' => q < q' ∧ wTxt D f N S q' (m + 1) KF KO) h) := by
          simp only [dLs, List.mem_cons, List.not_mem_nil, or_false] at hd0
          rcases hd0 with rfl | rfl
          · exact zSedC9 (d := d) hi hT h8 hR W
          · exact zSedC26 (d := d) hi hT h8 hR W
        refine ln.mono ?_
        intro r h2 hz
        exact after 153 r h2 (by decide) (fun hs hX => rtI6 (d := d + 5) hs hX) hz
      rw [if_neg k6] at W
      by_cases k7 : kF D q = 17
      · rw [if_pos k7] at W
        refine rtK7 (d := d + 5) cK ck z8 (ne 10 (by decide) (by omega)) (ne 11 (by decide) (by omega)) (ne 12 (by decide) (by omega)) (ne 13 (by decide) (by omega)) (ne 14 (by decide) (by omega)) (ne 15 (by decide) (by omega)) (ne 16 (by decide) (by omega)) (deq (by rw [tk, k7]; decide)) hi.1 P20 ?_
        refine zcallR (mi := 29) (as := [.ref d0]) (rest := []) (q0 := 2) zv_rt158 rfl (by decide) (by rw [hi.1]; rfl) ?_
        have ln : zSem l Γ false (d + 6) (zhd 58) [.ref 2, .ref d0] h (zCP D d0 KF (fun N S q' => q < q' ∧ wTxt D f N S q' (m + 1) KF KO) h) := by
          exact zLawC (d := d) hd0 hi hT h8 hR e W
        refine ln.mono ?_
        intro r h2 hz
        exact after 161 r h2 (by decide) (fun hs hX => rtI7 (d := d + 5) hs hX) hz
      rw [if_neg k7] at W
      refine rtD (d := d + 5) cK ck z8 (ne 10 (by decide) (by omega)) (ne 11 (by decide) (by omega)) (ne 12 (by decide) (by omega)) (ne 13 (by decide) (by omega)) (ne 14 (by decide) (by omega)) (ne 15 (by decide) (by omega)) (ne 16 (by decide) (by omega)) (ne 17 (by decide) (by omega)) hi.1 P20 ?_
      obtain ⟨s5, I5, Lg5, P5⟩ := h
      have es5 : s5 = zshC := hi.1
      subst es5
      obtain ⟨f1, f2, f3, f4⟩ := cfl (c := Int32.ofInt 1) hi hT.1 (by decide)
      have t5 : (I5 3 5).toInt = (q : Int) := hT.2.2.2.1
      exact flt 172 _ 1 q (by decide) f1 (hm.seq (f3.sub s2)) W (by decide) (by decide) (by rw [← t5]; exact f4)
theorem zRTx {l : Launch} {Γ : zG} {d d0 : Nat} (hd0 : d0 ∈ dLs) {D : zD} {KF : zKF} {KO : Nat → zN → zS → Prop} {h : zH} {N : zN} (n0 : N 14 0 = 0) (n1 : N 14 1 = 0) (hi : sInv swC h) (hB : ∀ j, j < 700 → pI h 1 j = sb (D.1 j)) (hR : ∀ j, j < 700 → 0 ≤ D.1 j ∧ D.1 j ≤ 255) (hn : D.2 ≤ 700) {x : Int32} (hx : x.toInt = (D.2 : Int)) (W : wTxt D 701 N S0 (pF D 0) 0 KF KO) : zSem l Γ false (d + 7) (zhd 29) [.ref 2, .ref d0, .ref 1, .int x] h (zRP d0 KF KO h) := by
  obtain ⟨s1, s2, s3, s4⟩ := rt_s hd0
  show zSem l Γ false (d + 6 + 1) zh29 _ _ _
  have hs : sTL [.inr (.inl 2), .inr (.inl d0), .inr (.inl 1), .inl sf32] [.ref 2, .ref d0, .ref 1, .int x] := ⟨_, _, rfl, rfl, _, _, rfl, rfl, _, _, rfl, rfl, _, _, rfl, ⟨_, rfl, i32bd _⟩, rfl⟩
  refine zbody (by decide +kernel) (by rw [sslen_ok _ _ hs]; show 4 ≤ zh29.2.2.1; decide +kernel) ?_
  refine rt0 (d := d + 5) (K := 0) hi.1 ?_
  refine zcallR (mi := 29) (as := []) (rest := []) (q0 := d0) zv_rtc rfl (by decide) (by rw [hi.1]; simp only [dLs, List.mem_cons, List.not_mem_nil, or_false] at hd0; rcases hd0 with rfl | rfl <;> rfl) ?_
  refine (zClr (d := d) hd0 hi).mono ?_
  rintro r h1 ⟨rfl, hi1, hm1, R1⟩
  have c1 : ∀ a i, a < 9 → smem (crM d0) a i = false := fun a i ha => by
    cases hb : smem (crM d0) a i with
    | false => rfl
    | true =>
      obtain ⟨t, ht, hc⟩ := List.any_eq_true.mp hb
      simp only [Bool.and_eq_true, beq_iff_eq] at hc
      simp only [dLs, List.mem_cons, List.not_mem_nil, or_false] at hd0
      simp only [crM, List.mem_cons, List.not_mem_nil, or_false] at ht
      rcases hd0 with rfl | rfl <;> rcases ht with rfl | rfl | rfl | rfl | rfl | rfl | rfl | rfl <;> simp only at hc <;> omega
  have P20 : h1.2.2.2 2 0 = some 3 := hi1.r1 (q := 2) (k := 0) (r := 3) (by decide +kernel)
  refine rt1 (d := d + 5) (K := 0) hi1.1 P20 ?_
  refine zcallR (mi := 29) (as := [.int x, .ref 1]) (rest := []) (q0 := 3) zv_rts rfl (by decide) (by rw [hi1.1]; rfl) ?_
  refine (zStt (d := d + 2) (D := D) hi1 (fun j hj => (pI_md hm1 (c1 1 j (by decide))).trans (hB j hj)) hR hn hx).mono ?_
  rintro r h2 ⟨rfl, hi2, hm2, T2, z2, z9⟩
  refine rtS (d := d + 5) (K := 0) hi2.1 ?_
  have h9 : 9 ≤ d0 := by
    simp only [dLs, List.mem_cons, List.not_mem_nil, or_false] at hd0
    omega
  exact zRTL hd0 701 N S0 (pF D 0) 0 h2 _ (by decide) (Nat.zero_le _) hi2 ((sMd.sub hm1 s3).seq (hm2.sub s4)) T2 z2 ((R1 N n0 n1).md hm2 rfl h9) W (by omega)
