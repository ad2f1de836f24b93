/-! the class: begin, add, finish -/
theorem zBgn10 {l : Launch} {Γ : zG} {d : Nat} {D : zD} {q : Nat} {h : zH} (hi : sInv swC h) (hT : cTk D q h) (h0 : pI h 3 8 = 0) {r : Nat} (hr : pI h 10 3 = (r : Int)) : zSem l Γ false (d + 4) (zhd 41) [.ref 2, .ref 10] h (fun rr h' => rr = none ∧ sInv swC h' ∧ sMd [(3, 3, 10)] h h' ∧ ((r = 5 ∧ fC 2 q h') ∨ (r < 5 ∧ pI h' 3 8 = 0 ∧ cTk D (qF D q) h'))) := by
  obtain ⟨s, I, Lg, P⟩ := h
  have es : s = zshC := hi.1
  subst es
  have hP : P 2 0 = some 3 := hi.r1 (q := 2) (k := 0) (r := 3) (by decide +kernel)
  obtain ⟨tA1, tq, tk, t5, t6, t7⟩ := id hT
  have t5 : (I 3 5).toInt = (q : Int) := t5
  have z0 : I 3 8 = 0 := deq (by rw [show (0 : Int32).toInt = 0 from by decide]; exact h0)
  have hr : (I 10 3).toInt = (r : Int) := hr
  have hm : (I 10 0).toInt = 5 := by
    have g := hi.2.2.1 10 0
    rw [show sIv swC 10 0 = (5, 5) from by decide +kernel] at g
    have g : 5 ≤ (I 10 0).toInt ∧ (I 10 0).toInt ≤ 5 := g
    omega
  have hr2 : (I 10 3).toInt ≤ 5 := by
    have g := hi.2.2.1 10 3
    rw [show sIv swC 10 3 = (0, 5) from by decide +kernel] at g
    exact g.2
  show zSem l Γ false (d + 3 + 1) zh41 _ _ _
  refine zbody (by decide +kernel) (by decide) ?_
  by_cases hf : r = 5
  · refine bgC1_10 hP (dltn (by omega)) z0 ?_
    obtain ⟨f1, f2, f3, f4⟩ := cfl (c := Int32.ofInt 2) hi tA1 (by decide)
    refine znx (mi := 41) (d := d) zv_bg (by decide) f1 f2 (fun h' hi' hT' hm' => bgC3 ⟨rfl, hi', (f3.sub rfl).seq (hm'.sub rfl), Or.inl ⟨hf, ?_⟩⟩)
    rw [← t5]
    exact f4.md hm' rfl rfl
  · refine bgC2_10 hP (dlt (by omega)) ?_
    refine znx (mi := 41) (d := d) zv_bg (by decide) hi tA1 (fun h' hi' hT' hm' => bgC3 ⟨rfl, hi', hm'.sub rfl, Or.inr ⟨by omega, ?_, hT'⟩⟩)
    rw [pI_md hm' rfl]
    exact h0
set_option maxRecDepth 100000 in
set_option maxHeartbeats 4000000 in
theorem adC10 {l : Launch} {Γ : zG} {d : Nat} {Kp : Option Value → zH → Prop} {I : zHI} {Lg : zHL} {P : zHP} {X : Int32} (hP : P 10 2 = some 11) (hX : I 10 3 * I 10 1 = X) (c1 : I 10 3 < I 10 0) (c2 : I 10 1 ≤ Int32.ofInt 6) (c3 : zwd [] ≤ 8 ∧ false = false ∧ ¬ Int32.ofInt 0 < 0 ∧ ¬ X < 0 ∧ ¬ I 10 1 < 0 ∧ (Int32.ofInt 0).toNatClampNeg + (I 10 1).toNatClampNeg ≤ 6 ∧ X.toNatClampNeg + (I 10 1).toNatClampNeg ≤ 5) (hK : zX l Γ false (d + 2) zh49 (zMQ' Γ false zh49 Kp) 0 0 39 [(0, .ref 10), (1, .ref 8)] [] (zcp (zshC, I, Lg, P) 8 11 (Int32.ofInt 0).toNatClampNeg X.toNatClampNeg (I 10 1).toNatClampNeg)) : zX l Γ false (d + 2) zh49 (zMQ' Γ false zh49 Kp) 0 0 0 [(0, .ref 10), (1, .ref 8)] [] (zshC, I, Lg, P) := by
  subst hX
  have eP := zPn hP
  rw [eP] at hK ⊢
  refine zpcF (M := (zh49, zc49)) 49 39 rfl zckm49 (fun _ _ _ _ h => h) ?_
  refine zdecT c1 (fun _ => ?_)
  refine zdecT c2 (fun _ => ?_)
  refine zdecT c3 (fun _ => ?_)
  exact hK
theorem zBgn27 {l : Launch} {Γ : zG} {d : Nat} {D : zD} {q : Nat} {h : zH} (hi : sInv swC h) (hT : cTk D q h) (h0 : pI h 3 8 = 0) {r : Nat} (hr : pI h 27 3 = (r : Int)) : zSem l Γ false (d + 4) (zhd 41) [.ref 2, .ref 27] h (fun rr h' => rr = none ∧ sInv swC h' ∧ sMd [(3, 3, 10)] h h' ∧ ((r = 5 ∧ fC 2 q h') ∨ (r < 5 ∧ pI h' 3 8 = 0 ∧ cTk D (qF D q) h'))) := by
  obtain ⟨s, I, Lg, P⟩ := h
  have es : s = zshC := hi.1
  subst es
  have hP : P 2 0 = some 3 := hi.r1 (q := 2) (k := 0) (r := 3) (by decide +kernel)
  obtain ⟨tA1, tq, tk, t5, t6, t7⟩ := id hT
  have t5 : (I 3 5).toInt = (q : Int) := t5
  have z0 : I 3 8 = 0 := deq (by rw [show (0 : Int32).toInt = 0 from by decide]; exact h0)
  have hr : (I 27 3).toInt = (r : Int) := hr
  have hm : (I 27 0).toInt = 5 := by
    have g := hi.2.2.1 27 0
    rw [show sIv swC 27 0 = (5, 5) from by decide +kernel] at g
    have g : 5 ≤ (I 27 0).toInt ∧ (I 27 0).toInt ≤ 5 := g
    omega
  have hr2 : (I 27 3).toInt ≤ 5 := by
    have g := hi.2.2.1 27 3
    rw [show sIv swC 27 3 = (0, 5) from by decide +kernel] at g
    exact g.2
  show zSem l Γ false (d + 3 + 1) zh41 _ _ _
  refine zbody (by decide +kernel) (by decide) ?_
  by_cases hf : r = 5
  · refine bgC1_27 hP (dltn (by omega)) z0 ?_
    obtain ⟨f1, f2, f3, f4⟩ := cfl (c := Int32.ofInt 2) hi tA1 (by decide)
    refine znx (mi := 41) (d := d) zv_bg (by decide) f1 f2 (fun h' hi' hT' hm' => bgC3 ⟨rfl, hi', (f3.sub rfl).seq (hm'.sub rfl), Or.inl ⟨hf, ?_⟩⟩)
    rw [← t5]
    exact f4.md hm' rfl rfl
  · refine bgC2_27 hP (dlt (by omega)) ?_
    refine znx (mi := 41) (d := d) zv_bg (by decide) hi tA1 (fun h' hi' hT' hm' => bgC3 ⟨rfl, hi', hm'.sub rfl, Or.inr ⟨by omega, ?_, hT'⟩⟩)
    rw [pI_md hm' rfl]
    exact h0
set_option maxRecDepth 100000 in
set_option maxHeartbeats 4000000 in
theorem adC27 {l : Launch} {Γ : zG} {d : Nat} {Kp : Option Value → zH → Prop} {I : zHI} {Lg : zHL} {P : zHP} {X : Int32} (hP : P 27 2 = some 28) (hX : I 27 3 * I 27 1 = X) (c1 : I 27 3 < I 27 0) (c2 : I 27 1 ≤ Int32.ofInt 6) (c3 : zwd [] ≤ 8 ∧ false = false ∧ ¬ Int32.ofInt 0 < 0 ∧ ¬ X < 0 ∧ ¬ I 27 1 < 0 ∧ (Int32.ofInt 0).toNatClampNeg + (I 27 1).toNatClampNeg ≤ 6 ∧ X.toNatClampNeg + (I 27 1).toNatClampNeg ≤ 5) (hK : zX l Γ false (d + 2) zh49 (zMQ' Γ false zh49 Kp) 0 0 39 [(0, .ref 27), (1, .ref 8)] [] (zcp (zshC, I, Lg, P) 8 28 (Int32.ofInt 0).toNatClampNeg X.toNatClampNeg (I 27 1).toNatClampNeg)) : zX l Γ false (d + 2) zh49 (zMQ' Γ false zh49 Kp) 0 0 0 [(0, .ref 27), (1, .ref 8)] [] (zshC, I, Lg, P) := by
  subst hX
  have eP := zPn hP
  rw [eP] at hK ⊢
  refine zpcF (M := (zh49, zc49)) 49 39 rfl zckm49 (fun _ _ _ _ h => h) ?_
  refine zdecT c1 (fun _ => ?_)
  refine zdecT c2 (fun _ => ?_)
  refine zdecT c3 (fun _ => ?_)
  exact hK
theorem zBgn12 {l : Launch} {Γ : zG} {d : Nat} {D : zD} {q : Nat} {h : zH} (hi : sInv swC h) (hT : cTk D q h) (h0 : pI h 3 8 = 0) {r : Nat} (hr : pI h 12 3 = (r : Int)) : zSem l Γ false (d + 4) (zhd 41) [.ref 2, .ref 12] h (fun rr h' => rr = none ∧ sInv swC h' ∧ sMd [(3, 3, 10)] h h' ∧ ((r = 8 ∧ fC 2 q h') ∨ (r < 8 ∧ pI h' 3 8 = 0 ∧ cTk D (qF D q) h'))) := by
  obtain ⟨s, I, Lg, P⟩ := h
  have es : s = zshC := hi.1
  subst es
  have hP : P 2 0 = some 3 := hi.r1 (q := 2) (k := 0) (r := 3) (by decide +kernel)
  obtain ⟨tA1, tq, tk, t5, t6, t7⟩ := id hT
  have t5 : (I 3 5).toInt = (q : Int) := t5
  have z0 : I 3 8 = 0 := deq (by rw [show (0 : Int32).toInt = 0 from by decide]; exact h0)
  have hr : (I 12 3).toInt = (r : Int) := hr
  have hm : (I 12 0).toInt = 8 := by
    have g := hi.2.2.1 12 0
    rw [show sIv swC 12 0 = (8, 8) from by decide +kernel] at g
    have g : 8 ≤ (I 12 0).toInt ∧ (I 12 0).toInt ≤ 8 := g
    omega
  have hr2 : (I 12 3).toInt ≤ 8 := by
    have g := hi.2.2.1 12 3
    rw [show sIv swC 12 3 = (0, 8) from by decide +kernel] at g
    exact g.2
  show zSem l Γ false (d + 3 + 1) zh41 _ _ _
  refine zbody (by decide +kernel) (by decide) ?_
  by_cases hf : r = 8
  · refine bgC1_12 hP (dltn (by omega)) z0 ?_
    obtain ⟨f1, f2, f3, f4⟩ := cfl (c := Int32.ofInt 2) hi tA1 (by decide)
    refine znx (mi := 41) (d := d) zv_bg (by decide) f1 f2 (fun h' hi' hT' hm' => bgC3 ⟨rfl, hi', (f3.sub rfl).seq (hm'.sub rfl), Or.inl ⟨hf, ?_⟩⟩)
    rw [← t5]
    exact f4.md hm' rfl rfl
  · refine bgC2_12 hP (dlt (by omega)) ?_
    refine znx (mi := 41) (d := d) zv_bg (by decide) hi tA1 (fun h' hi' hT' hm' => bgC3 ⟨rfl, hi', hm'.sub rfl, Or.inr ⟨by omega, ?_, hT'⟩⟩)
    rw [pI_md hm' rfl]
    exact h0
set_option maxRecDepth 100000 in
set_option maxHeartbeats 4000000 in
theorem adC12 {l : Launch} {Γ : zG} {d : Nat} {Kp : Option Value → zH → Prop} {I : zHI} {Lg : zHL} {P : zHP} {X : Int32} (hP : P 12 2 = some 13) (hX : I 12 3 * I 12 1 = X) (c1 : I 12 3 < I 12 0) (c2 : I 12 1 ≤ Int32.ofInt 6) (c3 : zwd [] ≤ 8 ∧ false = false ∧ ¬ Int32.ofInt 0 < 0 ∧ ¬ X < 0 ∧ ¬ I 12 1 < 0 ∧ (Int32.ofInt 0).toNatClampNeg + (I 12 1).toNatClampNeg ≤ 6 ∧ X.toNatClampNeg + (I 12 1).toNatClampNeg ≤ 48) (hK : zX l Γ false (d + 2) zh49 (zMQ' Γ false zh49 Kp) 0 0 39 [(0, .ref 12), (1, .ref 8)] [] (zcp (zshC, I, Lg, P) 8 13 (Int32.ofInt 0).toNatClampNeg X.toNatClampNeg (I 12 1).toNatClampNeg)) : zX l Γ false (d + 2) zh49 (zMQ' Γ false zh49 Kp) 0 0 0 [(0, .ref 12), (1, .ref 8)] [] (zshC, I, Lg, P) := by
  subst hX
  have eP := zPn hP
  rw [eP] at hK ⊢
  refine zpcF (M := (zh49, zc49)) 49 39 rfl zckm49 (fun _ _ _ _ h => h) ?_
  refine zdecT c1 (fun _ => ?_)
  refine zdecT c2 (fun _ => ?_)
  refine zdecT c3 (fun _ => ?_)
  exact hK
theorem zBgn29 {l : Launch} {Γ : zG} {d : Nat} {D : zD} {q : Nat} {h : zH} (hi : sInv swC h) (hT : cTk D q h) (h0 : pI h 3 8 = 0) {r : Nat} (hr : pI h 29 3 = (r : Int)) : zSem l Γ false (d + 4) (zhd 41) [.ref 2, .ref 29] h (fun rr h' => rr = none ∧ sInv swC h' ∧ sMd [(3, 3, 10)] h h' ∧ ((r = 8 ∧ fC 2 q h') ∨ (r < 8 ∧ pI h' 3 8 = 0 ∧ cTk D (qF D q) h'))) := by
  obtain ⟨s, I, Lg, P⟩ := h
  have es : s = zshC := hi.1
  subst es
  have hP : P 2 0 = some 3 := hi.r1 (q := 2) (k := 0) (r := 3) (by decide +kernel)
  obtain ⟨tA1, tq, tk, t5, t6, t7⟩ := id hT
  have t5 : (I 3 5).toInt = (q : Int) := t5
  have z0 : I 3 8 = 0 := deq (by rw [show (0 : Int32).toInt = 0 from by decide]; exact h0)
  have hr : (I 29 3).toInt = (r : Int) := hr
  have hm : (I 29 0).toInt = 8 := by
    have g := hi.2.2.1 29 0
    rw [show sIv swC 29 0 = (8, 8) from by decide +kernel] at g
    have g : 8 ≤ (I 29 0).toInt ∧ (I 29 0).toInt ≤ 8 := g
    omega
  have hr2 : (I 29 3).toInt ≤ 8 := by
    have g := hi.2.2.1 29 3
    rw [show sIv swC 29 3 = (0, 8) from by decide +kernel] at g
    exact g.2
  show zSem l Γ false (d + 3 + 1) zh41 _ _ _
  refine zbody (by decide +kernel) (by decide) ?_
  by_cases hf : r = 8
  · refine bgC1_29 hP (dltn (by omega)) z0 ?_
    obtain ⟨f1, f2, f3, f4⟩ := cfl (c := Int32.ofInt 2) hi tA1 (by decide)
    refine znx (mi := 41) (d := d) zv_bg (by decide) f1 f2 (fun h' hi' hT' hm' => bgC3 ⟨rfl, hi', (f3.sub rfl).seq (hm'.sub rfl), Or.inl ⟨hf, ?_⟩⟩)
    rw [← t5]
    exact f4.md hm' rfl rfl
  · refine bgC2_29 hP (dlt (by omega)) ?_
    refine znx (mi := 41) (d := d) zv_bg (by decide) hi tA1 (fun h' hi' hT' hm' => bgC3 ⟨rfl, hi', hm'.sub rfl, Or.inr ⟨by omega, ?_, hT'⟩⟩)
    rw [pI_md hm' rfl]
    exact h0
set_option maxRecDepth 100000 in
set_option maxHeartbeats 4000000 in
theorem adC29 {l : Launch} {Γ : zG} {d : Nat} {Kp : Option Value → zH → Prop} {I : zHI} {Lg : zHL} {P : zHP} {X : Int32} (hP : P 29 2 = some 30) (hX : I 29 3 * I 29 1 = X) (c1 : I 29 3 < I 29 0) (c2 : I 29 1 ≤ Int32.ofInt 6) (c3 : zwd [] ≤ 8 ∧ false = false ∧ ¬ Int32.ofInt 0 < 0 ∧ ¬ X < 0 ∧ ¬ I 29 1 < 0 ∧ (Int32.ofInt 0).toNatClampNeg + (I 29 1).toNatClampNeg ≤ 6 ∧ X.toNatClampNeg + (I 29 1).toNatClampNeg ≤ 48) (hK : zX l Γ false (d + 2) zh49 (zMQ' Γ false zh49 Kp) 0 0 39 [(0, .ref 29), (1, .ref 8)] [] (zcp (zshC, I, Lg, P) 8 30 (Int32.ofInt 0).toNatClampNeg X.toNatClampNeg (I 29 1).toNatClampNeg)) : zX l Γ false (d + 2) zh49 (zMQ' Γ false zh49 Kp) 0 0 0 [(0, .ref 29), (1, .ref 8)] [] (zshC, I, Lg, P) := by
  subst hX
  have eP := zPn hP
  rw [eP] at hK ⊢
  refine zpcF (M := (zh49, zc49)) 49 39 rfl zckm49 (fun _ _ _ _ h => h) ?_
  refine zdecT c1 (fun _ => ?_)
  refine zdecT c2 (fun _ => ?_)
  refine zdecT c3 (fun _ => ?_)
  exact hK
theorem zBgn14 {l : Launch} {Γ : zG} {d : Nat} {D : zD} {q : Nat} {h : zH} (hi : sInv swC h) (hT : cTk D q h) (h0 : pI h 3 8 = 0) {r : Nat} (hr : pI h 14 3 = (r : Int)) : zSem l Γ false (d + 4) (zhd 41) [.ref 2, .ref 14] h (fun rr h' => rr = none ∧ sInv swC h' ∧ sMd [(3, 3, 10)] h h' ∧ ((r = 10 ∧ fC 2 q h') ∨ (r < 10 ∧ pI h' 3 8 = 0 ∧ cTk D (qF D q) h'))) := by
  obtain ⟨s, I, Lg, P⟩ := h
  have es : s = zshC := hi.1
  subst es
  have hP : P 2 0 = some 3 := hi.r1 (q := 2) (k := 0) (r := 3) (by decide +kernel)
  obtain ⟨tA1, tq, tk, t5, t6, t7⟩ := id hT
  have t5 : (I 3 5).toInt = (q : Int) := t5
  have z0 : I 3 8 = 0 := deq (by rw [show (0 : Int32).toInt = 0 from by decide]; exact h0)
  have hr : (I 14 3).toInt = (r : Int) := hr
  have hm : (I 14 0).toInt = 10 := by
    have g := hi.2.2.1 14 0
    rw [show sIv swC 14 0 = (10, 10) from by decide +kernel] at g
    have g : 10 ≤ (I 14 0).toInt ∧ (I 14 0).toInt ≤ 10 := g
    omega
  have hr2 : (I 14 3).toInt ≤ 10 := by
    have g := hi.2.2.1 14 3
    rw [show sIv swC 14 3 = (0, 10) from by decide +kernel] at g
    exact g.2
  show zSem l Γ false (d + 3 + 1) zh41 _ _ _
  refine zbody (by decide +kernel) (by decide) ?_
  by_cases hf : r = 10
  · refine bgC1_14 hP (dltn (by omega)) z0 ?_
    obtain ⟨f1, f2, f3, f4⟩ := cfl (c := Int32.ofInt 2) hi tA1 (by decide)
    refine znx (mi := 41) (d := d) zv_bg (by decide) f1 f2 (fun h' hi' hT' hm' => bgC3 ⟨rfl, hi', (f3.sub rfl).seq (hm'.sub rfl), Or.inl ⟨hf, ?_⟩⟩)
    rw [← t5]
    exact f4.md hm' rfl rfl
  · refine bgC2_14 hP (dlt (by omega)) ?_
    refine znx (mi := 41) (d := d) zv_bg (by decide) hi tA1 (fun h' hi' hT' hm' => bgC3 ⟨rfl, hi', hm'.sub rfl, Or.inr ⟨by omega, ?_, hT'⟩⟩)
    rw [pI_md hm' rfl]
    exact h0
set_option maxRecDepth 100000 in
set_option maxHeartbeats 4000000 in
theorem adC14 {l : Launch} {Γ : zG} {d : Nat} {Kp : Option Value → zH → Prop} {I : zHI} {Lg : zHL} {P : zHP} {X : Int32} (hP : P 14 2 = some 15) (hX : I 14 3 * I 14 1 = X) (c1 : I 14 3 < I 14 0) (c2 : I 14 1 ≤ Int32.ofInt 6) (c3 : zwd [] ≤ 8 ∧ false = false ∧ ¬ Int32.ofInt 0 < 0 ∧ ¬ X < 0 ∧ ¬ I 14 1 < 0 ∧ (Int32.ofInt 0).toNatClampNeg + (I 14 1).toNatClampNeg ≤ 6 ∧ X.toNatClampNeg + (I 14 1).toNatClampNeg ≤ 20) (hK : zX l Γ false (d + 2) zh49 (zMQ' Γ false zh49 Kp) 0 0 39 [(0, .ref 14), (1, .ref 8)] [] (zcp (zshC, I, Lg, P) 8 15 (Int32.ofInt 0).toNatClampNeg X.toNatClampNeg (I 14 1).toNatClampNeg)) : zX l Γ false (d + 2) zh49 (zMQ' Γ false zh49 Kp) 0 0 0 [(0, .ref 14), (1, .ref 8)] [] (zshC, I, Lg, P) := by
  subst hX
  have eP := zPn hP
  rw [eP] at hK ⊢
  refine zpcF (M := (zh49, zc49)) 49 39 rfl zckm49 (fun _ _ _ _ h => h) ?_
  refine zdecT c1 (fun _ => ?_)
  refine zdecT c2 (fun _ => ?_)
  refine zdecT c3 (fun _ => ?_)
  exact hK
theorem zBgn31 {l : Launch} {Γ : zG} {d : Nat} {D : zD} {q : Nat} {h : zH} (hi : sInv swC h) (hT : cTk D q h) (h0 : pI h 3 8 = 0) {r : Nat} (hr : pI h 31 3 = (r : Int)) : zSem l Γ false (d + 4) (zhd 41) [.ref 2, .ref 31] h (fun rr h' => rr = none ∧ sInv swC h' ∧ sMd [(3, 3, 10)] h h' ∧ ((r = 10 ∧ fC 2 q h') ∨ (r < 10 ∧ pI h' 3 8 = 0 ∧ cTk D (qF D q) h'))) := by
  obtain ⟨s, I, Lg, P⟩ := h
  have es : s = zshC := hi.1
  subst es
  have hP : P 2 0 = some 3 := hi.r1 (q := 2) (k := 0) (r := 3) (by decide +kernel)
  obtain ⟨tA1, tq, tk, t5, t6, t7⟩ := id hT
  have t5 : (I 3 5).toInt = (q : Int) := t5
  have z0 : I 3 8 = 0 := deq (by rw [show (0 : Int32).toInt = 0 from by decide]; exact h0)
  have hr : (I 31 3).toInt = (r : Int) := hr
  have hm : (I 31 0).toInt = 10 := by
    have g := hi.2.2.1 31 0
    rw [show sIv swC 31 0 = (10, 10) from by decide +kernel] at g
    have g : 10 ≤ (I 31 0).toInt ∧ (I 31 0).toInt ≤ 10 := g
    omega
  have hr2 : (I 31 3).toInt ≤ 10 := by
    have g := hi.2.2.1 31 3
    rw [show sIv swC 31 3 = (0, 10) from by decide +kernel] at g
    exact g.2
  show zSem l Γ false (d + 3 + 1) zh41 _ _ _
  refine zbody (by decide +kernel) (by decide) ?_
  by_cases hf : r = 10
  · refine bgC1_31 hP (dltn (by omega)) z0 ?_
    obtain ⟨f1, f2, f3, f4⟩ := cfl (c := Int32.ofInt 2) hi tA1 (by decide)
    refine znx (mi := 41) (d := d) zv_bg (by decide) f1 f2 (fun h' hi' hT' hm' => bgC3 ⟨rfl, hi', (f3.sub rfl).seq (hm'.sub rfl), Or.inl ⟨hf, ?_⟩⟩)
    rw [← t5]
    exact f4.md hm' rfl rfl
  · refine bgC2_31 hP (dlt (by omega)) ?_
    refine znx (mi := 41) (d := d) zv_bg (by decide) hi tA1 (fun h' hi' hT' hm' => bgC3 ⟨rfl, hi', hm'.sub rfl, Or.inr ⟨by omega, ?_, hT'⟩⟩)
    rw [pI_md hm' rfl]
    exact h0
set_option maxRecDepth 100000 in
set_option maxHeartbeats 4000000 in
theorem adC31 {l : Launch} {Γ : zG} {d : Nat} {Kp : Option Value → zH → Prop} {I : zHI} {Lg : zHL} {P : zHP} {X : Int32} (hP : P 31 2 = some 32) (hX : I 31 3 * I 31 1 = X) (c1 : I 31 3 < I 31 0) (c2 : I 31 1 ≤ Int32.ofInt 6) (c3 : zwd [] ≤ 8 ∧ false = false ∧ ¬ Int32.ofInt 0 < 0 ∧ ¬ X < 0 ∧ ¬ I 31 1 < 0 ∧ (Int32.ofInt 0).toNatClampNeg + (I 31 1).toNatClampNeg ≤ 6 ∧ X.toNatClampNeg + (I 31 1).toNatClampNeg ≤ 20) (hK : zX l Γ false (d + 2) zh49 (zMQ' Γ false zh49 Kp) 0 0 39 [(0, .ref 31), (1, .ref 8)] [] (zcp (zshC, I, Lg, P) 8 32 (Int32.ofInt 0).toNatClampNeg X.toNatClampNeg (I 31 1).toNatClampNeg)) : zX l Γ false (d + 2) zh49 (zMQ' Γ false zh49 Kp) 0 0 0 [(0, .ref 31), (1, .ref 8)] [] (zshC, I, Lg, P) := by
  subst hX
  have eP := zPn hP
  rw [eP] at hK ⊢
  refine zpcF (M := (zh49, zc49)) 49 39 rfl zckm49 (fun _ _ _ _ h => h) ?_
  refine zdecT c1 (fun _ => ?_)
  refine zdecT c2 (fun _ => ?_)
  refine zdecT c3 (fun _ => ?_)
  exact hK
theorem zBgn16 {l : Launch} {Γ : zG} {d : Nat} {D : zD} {q : Nat} {h : zH} (hi : sInv swC h) (hT : cTk D q h) (h0 : pI h 3 8 = 0) {r : Nat} (hr : pI h 16 3 = (r : Int)) : zSem l Γ false (d + 4) (zhd 41) [.ref 2, .ref 16] h (fun rr h' => rr = none ∧ sInv swC h' ∧ sMd [(3, 3, 10)] h h' ∧ ((r = 10 ∧ fC 2 q h') ∨ (r < 10 ∧ pI h' 3 8 = 0 ∧ cTk D (qF D q) h'))) := by
  obtain ⟨s, I, Lg, P⟩ := h
  have es : s = zshC := hi.1
  subst es
  have hP : P 2 0 = some 3 := hi.r1 (q := 2) (k := 0) (r := 3) (by decide +kernel)
  obtain ⟨tA1, tq, tk, t5, t6, t7⟩ := id hT
  have t5 : (I 3 5).toInt = (q : Int) := t5
  have z0 : I 3 8 = 0 := deq (by rw [show (0 : Int32).toInt = 0 from by decide]; exact h0)
  have hr : (I 16 3).toInt = (r : Int) := hr
  have hm : (I 16 0).toInt = 10 := by
    have g := hi.2.2.1 16 0
    rw [show sIv swC 16 0 = (10, 10) from by decide +kernel] at g
    have g : 10 ≤ (I 16 0).toInt ∧ (I 16 0).toInt ≤ 10 := g
    omega
  have hr2 : (I 16 3).toInt ≤ 10 := by
    have g := hi.2.2.1 16 3
    rw [show sIv swC 16 3 = (0, 10) from by decide +kernel] at g
    exact g.2
  show zSem l Γ false (d + 3 + 1) zh41 _ _ _
  refine zbody (by decide +kernel) (by decide) ?_
  by_cases hf : r = 10
  · refine bgC1_16 hP (dltn (by omega)) z0 ?_
    obtain ⟨f1, f2, f3, f4⟩ := cfl (c := Int32.ofInt 2) hi tA1 (by decide)
    refine znx (mi := 41) (d := d) zv_bg (by decide) f1 f2 (fun h' hi' hT' hm' => bgC3 ⟨rfl, hi', (f3.sub rfl).seq (hm'.sub rfl), Or.inl ⟨hf, ?_⟩⟩)
    rw [← t5]
    exact f4.md hm' rfl rfl
  · refine bgC2_16 hP (dlt (by omega)) ?_
    refine znx (mi := 41) (d := d) zv_bg (by decide) hi tA1 (fun h' hi' hT' hm' => bgC3 ⟨rfl, hi', hm'.sub rfl, Or.inr ⟨by omega, ?_, hT'⟩⟩)
    rw [pI_md hm' rfl]
    exact h0
set_option maxRecDepth 100000 in
set_option maxHeartbeats 4000000 in
theorem adC16 {l : Launch} {Γ : zG} {d : Nat} {Kp : Option Value → zH → Prop} {I : zHI} {Lg : zHL} {P : zHP} {X : Int32} (hP : P 16 2 = some 17) (hX : I 16 3 * I 16 1 = X) (c1 : I 16 3 < I 16 0) (c2 : I 16 1 ≤ Int32.ofInt 6) (c3 : zwd [] ≤ 8 ∧ false = false ∧ ¬ Int32.ofInt 0 < 0 ∧ ¬ X < 0 ∧ ¬ I 16 1 < 0 ∧ (Int32.ofInt 0).toNatClampNeg + (I 16 1).toNatClampNeg ≤ 6 ∧ X.toNatClampNeg + (I 16 1).toNatClampNeg ≤ 40) (hK : zX l Γ false (d + 2) zh49 (zMQ' Γ false zh49 Kp) 0 0 39 [(0, .ref 16), (1, .ref 8)] [] (zcp (zshC, I, Lg, P) 8 17 (Int32.ofInt 0).toNatClampNeg X.toNatClampNeg (I 16 1).toNatClampNeg)) : zX l Γ false (d + 2) zh49 (zMQ' Γ false zh49 Kp) 0 0 0 [(0, .ref 16), (1, .ref 8)] [] (zshC, I, Lg, P) := by
  subst hX
  have eP := zPn hP
  rw [eP] at hK ⊢
  refine zpcF (M := (zh49, zc49)) 49 39 rfl zckm49 (fun _ _ _ _ h => h) ?_
  refine zdecT c1 (fun _ => ?_)
  refine zdecT c2 (fun _ => ?_)
  refine zdecT c3 (fun _ => ?_)
  exact hK
theorem zBgn33 {l : Launch} {Γ : zG} {d : Nat} {D : zD} {q : Nat} {h : zH} (hi : sInv swC h) (hT : cTk D q h) (h0 : pI h 3 8 = 0) {r : Nat} (hr : pI h 33 3 = (r : Int)) : zSem l Γ false (d + 4) (zhd 41) [.ref 2, .ref 33] h (fun rr h' => rr = none ∧ sInv swC h' ∧ sMd [(3, 3, 10)] h h' ∧ ((r = 10 ∧ fC 2 q h') ∨ (r < 10 ∧ pI h' 3 8 = 0 ∧ cTk D (qF D q) h'))) := by
  obtain ⟨s, I, Lg, P⟩ := h
  have es : s = zshC := hi.1
  subst es
  have hP : P 2 0 = some 3 := hi.r1 (q := 2) (k := 0) (r := 3) (by decide +kernel)
  obtain ⟨tA1, tq, tk, t5, t6, t7⟩ := id hT
  have t5 : (I 3 5).toInt = (q : Int) := t5
  have z0 : I 3 8 = 0 := deq (by rw [show (0 : Int32).toInt = 0 from by decide]; exact h0)
  have hr : (I 33 3).toInt = (r : Int) := hr
  have hm : (I 33 0).toInt = 10 := by
    have g := hi.2.2.1 33 0
    rw [show sIv swC 33 0 = (10, 10) from by decide +kernel] at g
    have g : 10 ≤ (I 33 0).toInt ∧ (I 33 0).toInt ≤ 10 := g
    omega
  have hr2 : (I 33 3).toInt ≤ 10 := by
    have g := hi.2.2.1 33 3
    rw [show sIv swC 33 3 = (0, 10) from by decide +kernel] at g
    exact g.2
  show zSem l Γ false (d + 3 + 1) zh41 _ _ _
  refine zbody (by decide +kernel) (by decide) ?_
  by_cases hf : r = 10
  · refine bgC1_33 hP (dltn (by omega)) z0 ?_
    obtain ⟨f1, f2, f3, f4⟩ := cfl (c := Int32.ofInt 2) hi tA1 (by decide)
    refine znx (mi := 41) (d := d) zv_bg (by decide) f1 f2 (fun h' hi' hT' hm' => bgC3 ⟨rfl, hi', (f3.sub rfl).seq (hm'.sub rfl), Or.inl ⟨hf, ?_⟩⟩)
    rw [← t5]
    exact f4.md hm' rfl rfl
  · refine bgC2_33 hP (dlt (by omega)) ?_
    refine znx (mi := 41) (d := d) zv_bg (by decide) hi tA1 (fun h' hi' hT' hm' => bgC3 ⟨rfl, hi', hm'.sub rfl, Or.inr ⟨by omega, ?_, hT'⟩⟩)
    rw [pI_md hm' rfl]
    exact h0
set_option maxRecDepth 100000 in
set_option maxHeartbeats 4000000 in
theorem adC33 {l : Launch} {Γ : zG} {d : Nat} {Kp : Option Value → zH → Prop} {I : zHI} {Lg : zHL} {P : zHP} {X : Int32} (hP : P 33 2 = some 34) (hX : I 33 3 * I 33 1 = X) (c1 : I 33 3 < I 33 0) (c2 : I 33 1 ≤ Int32.ofInt 6) (c3 : zwd [] ≤ 8 ∧ false = false ∧ ¬ Int32.ofInt 0 < 0 ∧ ¬ X < 0 ∧ ¬ I 33 1 < 0 ∧ (Int32.ofInt 0).toNatClampNeg + (I 33 1).toNatClampNeg ≤ 6 ∧ X.toNatClampNeg + (I 33 1).toNatClampNeg ≤ 40) (hK : zX l Γ false (d + 2) zh49 (zMQ' Γ false zh49 Kp) 0 0 39 [(0, .ref 33), (1, .ref 8)] [] (zcp (zshC, I, Lg, P) 8 34 (Int32.ofInt 0).toNatClampNeg X.toNatClampNeg (I 33 1).toNatClampNeg)) : zX l Γ false (d + 2) zh49 (zMQ' Γ false zh49 Kp) 0 0 0 [(0, .ref 33), (1, .ref 8)] [] (zshC, I, Lg, P) := by
  subst hX
  have eP := zPn hP
  rw [eP] at hK ⊢
  refine zpcF (M := (zh49, zc49)) 49 39 rfl zckm49 (fun _ _ _ _ h => h) ?_
  refine zdecT c1 (fun _ => ?_)
  refine zdecT c2 (fun _ => ?_)
  refine zdecT c3 (fun _ => ?_)
  exact hK
theorem zBgn18 {l : Launch} {Γ : zG} {d : Nat} {D : zD} {q : Nat} {h : zH} (hi : sInv swC h) (hT : cTk D q h) (h0 : pI h 3 8 = 0) {r : Nat} (hr : pI h 18 3 = (r : Int)) : zSem l Γ false (d + 4) (zhd 41) [.ref 2, .ref 18] h (fun rr h' => rr = none ∧ sInv swC h' ∧ sMd [(3, 3, 10)] h h' ∧ ((r = 6 ∧ fC 2 q h') ∨ (r < 6 ∧ pI h' 3 8 = 0 ∧ cTk D (qF D q) h'))) := by
  obtain ⟨s, I, Lg, P⟩ := h
  have es : s = zshC := hi.1
  subst es
  have hP : P 2 0 = some 3 := hi.r1 (q := 2) (k := 0) (r := 3) (by decide +kernel)
  obtain ⟨tA1, tq, tk, t5, t6, t7⟩ := id hT
  have t5 : (I 3 5).toInt = (q : Int) := t5
  have z0 : I 3 8 = 0 := deq (by rw [show (0 : Int32).toInt = 0 from by decide]; exact h0)
  have hr : (I 18 3).toInt = (r : Int) := hr
  have hm : (I 18 0).toInt = 6 := by
    have g := hi.2.2.1 18 0
    rw [show sIv swC 18 0 = (6, 6) from by decide +kernel] at g
    have g : 6 ≤ (I 18 0).toInt ∧ (I 18 0).toInt ≤ 6 := g
    omega
  have hr2 : (I 18 3).toInt ≤ 6 := by
    have g := hi.2.2.1 18 3
    rw [show sIv swC 18 3 = (0, 6) from by decide +kernel] at g
    exact g.2
  show zSem l Γ false (d + 3 + 1) zh41 _ _ _
  refine zbody (by decide +kernel) (by decide) ?_
  by_cases hf : r = 6
  · refine bgC1_18 hP (dltn (by omega)) z0 ?_
    obtain ⟨f1, f2, f3, f4⟩ := cfl (c := Int32.ofInt 2) hi tA1 (by decide)
    refine znx (mi := 41) (d := d) zv_bg (by decide) f1 f2 (fun h' hi' hT' hm' => bgC3 ⟨rfl, hi', (f3.sub rfl).seq (hm'.sub rfl), Or.inl ⟨hf, ?_⟩⟩)
    rw [← t5]
    exact f4.md hm' rfl rfl
  · refine bgC2_18 hP (dlt (by omega)) ?_
    refine znx (mi := 41) (d := d) zv_bg (by decide) hi tA1 (fun h' hi' hT' hm' => bgC3 ⟨rfl, hi', hm'.sub rfl, Or.inr ⟨by omega, ?_, hT'⟩⟩)
    rw [pI_md hm' rfl]
    exact h0
set_option maxRecDepth 100000 in
set_option maxHeartbeats 4000000 in
theorem adC18 {l : Launch} {Γ : zG} {d : Nat} {Kp : Option Value → zH → Prop} {I : zHI} {Lg : zHL} {P : zHP} {X : Int32} (hP : P 18 2 = some 19) (hX : I 18 3 * I 18 1 = X) (c1 : I 18 3 < I 18 0) (c2 : I 18 1 ≤ Int32.ofInt 6) (c3 : zwd [] ≤ 8 ∧ false = false ∧ ¬ Int32.ofInt 0 < 0 ∧ ¬ X < 0 ∧ ¬ I 18 1 < 0 ∧ (Int32.ofInt 0).toNatClampNeg + (I 18 1).toNatClampNeg ≤ 6 ∧ X.toNatClampNeg + (I 18 1).toNatClampNeg ≤ 6) (hK : zX l Γ false (d + 2) zh49 (zMQ' Γ false zh49 Kp) 0 0 39 [(0, .ref 18), (1, .ref 8)] [] (zcp (zshC, I, Lg, P) 8 19 (Int32.ofInt 0).toNatClampNeg X.toNatClampNeg (I 18 1).toNatClampNeg)) : zX l Γ false (d + 2) zh49 (zMQ' Γ false zh49 Kp) 0 0 0 [(0, .ref 18), (1, .ref 8)] [] (zshC, I, Lg, P) := by
  subst hX
  have eP := zPn hP
  rw [eP] at hK ⊢
  refine zpcF (M := (zh49, zc49)) 49 39 rfl zckm49 (fun _ _ _ _ h => h) ?_
  refine zdecT c1 (fun _ => ?_)
  refine zdecT c2 (fun _ => ?_)
  refine zdecT c3 (fun _ => ?_)
  exact hK
theorem zBgn35 {l : Launch} {Γ : zG} {d : Nat} {D : zD} {q : Nat} {h : zH} (hi : sInv swC h) (hT : cTk D q h) (h0 : pI h 3 8 = 0) {r : Nat} (hr : pI h 35 3 = (r : Int)) : zSem l Γ false (d + 4) (zhd 41) [.ref 2, .ref 35] h (fun rr h' => rr = none ∧ sInv swC h' ∧ sMd [(3, 3, 10)] h h' ∧ ((r = 6 ∧ fC 2 q h') ∨ (r < 6 ∧ pI h' 3 8 = 0 ∧ cTk D (qF D q) h'))) := by
  obtain ⟨s, I, Lg, P⟩ := h
  have es : s = zshC := hi.1
  subst es
  have hP : P 2 0 = some 3 := hi.r1 (q := 2) (k := 0) (r := 3) (by decide +kernel)
  obtain ⟨tA1, tq, tk, t5, t6, t7⟩ := id hT
  have t5 : (I 3 5).toInt = (q : Int) := t5
  have z0 : I 3 8 = 0 := deq (by rw [show (0 : Int32).toInt = 0 from by decide]; exact h0)
  have hr : (I 35 3).toInt = (r : Int) := hr
  have hm : (I 35 0).toInt = 6 := by
    have g := hi.2.2.1 35 0
    rw [show sIv swC 35 0 = (6, 6) from by decide +kernel] at g
    have g : 6 ≤ (I 35 0).toInt ∧ (I 35 0).toInt ≤ 6 := g
    omega
  have hr2 : (I 35 3).toInt ≤ 6 := by
    have g := hi.2.2.1 35 3
    rw [show sIv swC 35 3 = (0, 6) from by decide +kernel] at g
    exact g.2
  show zSem l Γ false (d + 3 + 1) zh41 _ _ _
  refine zbody (by decide +kernel) (by decide) ?_
  by_cases hf : r = 6
  · refine bgC1_35 hP (dltn (by omega)) z0 ?_
    obtain ⟨f1, f2, f3, f4⟩ := cfl (c := Int32.ofInt 2) hi tA1 (by decide)
    refine znx (mi := 41) (d := d) zv_bg (by decide) f1 f2 (fun h' hi' hT' hm' => bgC3 ⟨rfl, hi', (f3.sub rfl).seq (hm'.sub rfl), Or.inl ⟨hf, ?_⟩⟩)
    rw [← t5]
    exact f4.md hm' rfl rfl
  · refine bgC2_35 hP (dlt (by omega)) ?_
    refine znx (mi := 41) (d := d) zv_bg (by decide) hi tA1 (fun h' hi' hT' hm' => bgC3 ⟨rfl, hi', hm'.sub rfl, Or.inr ⟨by omega, ?_, hT'⟩⟩)
    rw [pI_md hm' rfl]
    exact h0
set_option maxRecDepth 100000 in
set_option maxHeartbeats 4000000 in
theorem adC35 {l : Launch} {Γ : zG} {d : Nat} {Kp : Option Value → zH → Prop} {I : zHI} {Lg : zHL} {P : zHP} {X : Int32} (hP : P 35 2 = some 36) (hX : I 35 3 * I 35 1 = X) (c1 : I 35 3 < I 35 0) (c2 : I 35 1 ≤ Int32.ofInt 6) (c3 : zwd [] ≤ 8 ∧ false = false ∧ ¬ Int32.ofInt 0 < 0 ∧ ¬ X < 0 ∧ ¬ I 35 1 < 0 ∧ (Int32.ofInt 0).toNatClampNeg + (I 35 1).toNatClampNeg ≤ 6 ∧ X.toNatClampNeg + (I 35 1).toNatClampNeg ≤ 6) (hK : zX l Γ false (d + 2) zh49 (zMQ' Γ false zh49 Kp) 0 0 39 [(0, .ref 35), (1, .ref 8)] [] (zcp (zshC, I, Lg, P) 8 36 (Int32.ofInt 0).toNatClampNeg X.toNatClampNeg (I 35 1).toNatClampNeg)) : zX l Γ false (d + 2) zh49 (zMQ' Γ false zh49 Kp) 0 0 0 [(0, .ref 35), (1, .ref 8)] [] (zshC, I, Lg, P) := by
  subst hX
  have eP := zPn hP
  rw [eP] at hK ⊢
  refine zpcF (M := (zh49, zc49)) 49 39 rfl zckm49 (fun _ _ _ _ h => h) ?_
  refine zdecT c1 (fun _ => ?_)
  refine zdecT c2 (fun _ => ?_)
  refine zdecT c3 (fun _ => ?_)
  exact hK
