/-! the class: readE -/
set_option maxRecDepth 100000 in
set_option maxHeartbeats 4000000 in
theorem reA {l : Launch} {Γ : zG} {d L : Nat} {Kp : Option Value → zH → Prop} {h : zH} {K : Int32} (cK : ¬ (Int16.ofInt 700).toInt32 ≤ K) (c0 : h.2.1 3 8 = 0) (cd : ¬ h.2.1 6 3 = 0) (hs : h.1 = zshC) (hX : zX l Γ false (d + 2) zh61 (zMQ' Γ false zh61 Kp) 0 0 46 [(3, .int K), (0, .ref 6), (1, .ref 3), (2, .ref L)] [.ref L, .ref 3, .ref 6] h) : zX l Γ false (d + 2) zh61 (zMQ' Γ false zh61 Kp) 0 0 22 [(3, .int K), (0, .ref 6), (1, .ref 3), (2, .ref L)] [] h := by
  obtain ⟨s, I, Lg, P⟩ := h
  have hs : s = zshC := hs
  subst hs
  refine zpcF (M := (zh61, zc61)) 61 46 rfl zckm61 (fun _ _ _ _ h => h) ?_
  refine zdecF cK (fun _ => ?_)
  refine zdecT c0 (fun _ => ?_)
  refine zdecF cd (fun _ => ?_)
  exact hX
set_option maxRecDepth 100000 in
set_option maxHeartbeats 4000000 in
theorem reB {l : Launch} {Γ : zG} {d L : Nat} {Kp : Option Value → zH → Prop} {h : zH} {K : Int32} (cK : ¬ (Int16.ofInt 700).toInt32 ≤ K) (c0 : h.2.1 3 8 = 0) (cd : h.2.1 6 3 = 0) (k6 : h.2.1 3 4 = (Int8.ofInt 6).toInt32) (co : ¬ h.2.1 6 2 ≤ 0) (hs : h.1 = zshC) (hX : zX l Γ false (d + 2) zh61 (zMQ' Γ false zh61 Kp) 0 0 70 [(3, .int K), (0, .ref 6), (1, .ref 3), (2, .ref L)] [.ref L, .ref 6] h) : zX l Γ false (d + 2) zh61 (zMQ' Γ false zh61 Kp) 0 0 22 [(3, .int K), (0, .ref 6), (1, .ref 3), (2, .ref L)] [] h := by
  obtain ⟨s, I, Lg, P⟩ := h
  have hs : s = zshC := hs
  subst hs
  refine zpcF (M := (zh61, zc61)) 61 70 rfl zckm61 (fun _ _ _ _ h => h) ?_
  refine zdecF cK (fun _ => ?_)
  refine zdecT c0 (fun _ => ?_)
  refine zdecT cd (fun _ => ?_)
  refine zdecT k6 (fun _ => ?_)
  refine zdecF co (fun _ => ?_)
  exact hX
set_option maxRecDepth 100000 in
set_option maxHeartbeats 4000000 in
theorem reC {l : Launch} {Γ : zG} {d L : Nat} {Kp : Option Value → zH → Prop} {h : zH} {K : Int32} (cK : ¬ (Int16.ofInt 700).toInt32 ≤ K) (c0 : h.2.1 3 8 = 0) (cd : h.2.1 6 3 = 0) (k6 : ¬ h.2.1 3 4 = (Int8.ofInt 6).toInt32) (k29 : ¬ h.2.1 3 4 < (Int8.ofInt 29).toInt32) (k40 : ¬ (Int8.ofInt 40).toInt32 < h.2.1 3 4) (hs : h.1 = zshC) (hX : zX l Γ false (d + 2) zh61 (zMQ' Γ false zh61 Kp) 0 0 89 [(3, .int K), (0, .ref 6), (1, .ref 3), (2, .ref L)] [.ref L, .ref 3, .ref 6] h) : zX l Γ false (d + 2) zh61 (zMQ' Γ false zh61 Kp) 0 0 22 [(3, .int K), (0, .ref 6), (1, .ref 3), (2, .ref L)] [] h := by
  obtain ⟨s, I, Lg, P⟩ := h
  have hs : s = zshC := hs
  subst hs
  refine zpcF (M := (zh61, zc61)) 61 89 rfl zckm61 (fun _ _ _ _ h => h) ?_
  refine zdecF cK (fun _ => ?_)
  refine zdecT c0 (fun _ => ?_)
  refine zdecT cd (fun _ => ?_)
  refine zdecF k6 (fun _ => ?_)
  refine zdecF k29 (fun _ => ?_)
  refine zdecF k40 (fun _ => ?_)
  exact hX
set_option maxRecDepth 100000 in
set_option maxHeartbeats 4000000 in
theorem reD {l : Launch} {Γ : zG} {d L : Nat} {Kp : Option Value → zH → Prop} {h : zH} {K : Int32} (cK : ¬ (Int16.ofInt 700).toInt32 ≤ K) (c0 : h.2.1 3 8 = 0) (cd : h.2.1 6 3 = 0) (k6 : h.2.1 3 4 = (Int8.ofInt 6).toInt32) (co : h.2.1 6 2 ≤ 0) (k29 : h.2.1 3 4 < (Int8.ofInt 29).toInt32) (hs : h.1 = zshC) (hX : zX l Γ false (d + 2) zh61 (zMQ' Γ false zh61 Kp) 0 0 102 [(3, .int K), (0, .ref 6), (1, .ref 3), (2, .ref L)] [] h) : zX l Γ false (d + 2) zh61 (zMQ' Γ false zh61 Kp) 0 0 22 [(3, .int K), (0, .ref 6), (1, .ref 3), (2, .ref L)] [] h := by
  obtain ⟨s, I, Lg, P⟩ := h
  have hs : s = zshC := hs
  subst hs
  refine zpcF (M := (zh61, zc61)) 61 102 rfl zckm61 (fun _ _ _ _ h => h) ?_
  refine zdecF cK (fun _ => ?_)
  refine zdecT c0 (fun _ => ?_)
  refine zdecT cd (fun _ => ?_)
  refine zdecT k6 (fun _ => ?_)
  refine zdecT co (fun _ => ?_)
  refine zdecT k29 (fun _ => ?_)
  exact hX
set_option maxRecDepth 100000 in
set_option maxHeartbeats 4000000 in
theorem reE {l : Launch} {Γ : zG} {d L : Nat} {Kp : Option Value → zH → Prop} {h : zH} {K : Int32} (cK : ¬ (Int16.ofInt 700).toInt32 ≤ K) (c0 : h.2.1 3 8 = 0) (cd : h.2.1 6 3 = 0) (k6 : ¬ h.2.1 3 4 = (Int8.ofInt 6).toInt32) (k29 : h.2.1 3 4 < (Int8.ofInt 29).toInt32) (hs : h.1 = zshC) (hX : zX l Γ false (d + 2) zh61 (zMQ' Γ false zh61 Kp) 0 0 102 [(3, .int K), (0, .ref 6), (1, .ref 3), (2, .ref L)] [] h) : zX l Γ false (d + 2) zh61 (zMQ' Γ false zh61 Kp) 0 0 22 [(3, .int K), (0, .ref 6), (1, .ref 3), (2, .ref L)] [] h := by
  obtain ⟨s, I, Lg, P⟩ := h
  have hs : s = zshC := hs
  subst hs
  refine zpcF (M := (zh61, zc61)) 61 102 rfl zckm61 (fun _ _ _ _ h => h) ?_
  refine zdecF cK (fun _ => ?_)
  refine zdecT c0 (fun _ => ?_)
  refine zdecT cd (fun _ => ?_)
  refine zdecF k6 (fun _ => ?_)
  refine zdecT k29 (fun _ => ?_)
  exact hX
set_option maxRecDepth 100000 in
set_option maxHeartbeats 4000000 in
theorem reN49 {l : Launch} {Γ : zG} {d L : Nat} {Kp : Option Value → zH → Prop} {h : zH} {K : Int32} (hs : h.1 = zshC) (hX : zX l Γ false (d + 2) zh61 (zMQ' Γ false zh61 Kp) 0 0 93 [(3, .int K), (0, .ref 6), (1, .ref 3), (2, .ref L)] [.ref 3] h) : zX l Γ false (d + 2) zh61 (zMQ' Γ false zh61 Kp) 0 0 49 [(3, .int K), (0, .ref 6), (1, .ref 3), (2, .ref L)] [] h := by
  obtain ⟨s, I, Lg, P⟩ := h
  have hs : s = zshC := hs
  subst hs
  refine zpcF (M := (zh61, zc61)) 61 93 rfl zckm61 (fun _ _ _ _ h => h) ?_
  exact hX
set_option maxRecDepth 100000 in
set_option maxHeartbeats 4000000 in
theorem reN73 {l : Launch} {Γ : zG} {d L : Nat} {Kp : Option Value → zH → Prop} {h : zH} {K : Int32} (hs : h.1 = zshC) (hX : zX l Γ false (d + 2) zh61 (zMQ' Γ false zh61 Kp) 0 0 93 [(3, .int K), (0, .ref 6), (1, .ref 3), (2, .ref L)] [.ref 3] h) : zX l Γ false (d + 2) zh61 (zMQ' Γ false zh61 Kp) 0 0 73 [(3, .int K), (0, .ref 6), (1, .ref 3), (2, .ref L)] [] h := by
  obtain ⟨s, I, Lg, P⟩ := h
  have hs : s = zshC := hs
  subst hs
  refine zpcF (M := (zh61, zc61)) 61 93 rfl zckm61 (fun _ _ _ _ h => h) ?_
  exact hX
set_option maxRecDepth 100000 in
set_option maxHeartbeats 4000000 in
theorem reN92 {l : Launch} {Γ : zG} {d L : Nat} {Kp : Option Value → zH → Prop} {h : zH} {K : Int32} (hs : h.1 = zshC) (hX : zX l Γ false (d + 2) zh61 (zMQ' Γ false zh61 Kp) 0 0 93 [(3, .int K), (0, .ref 6), (1, .ref 3), (2, .ref L)] [.ref 3] h) : zX l Γ false (d + 2) zh61 (zMQ' Γ false zh61 Kp) 0 0 92 [(3, .int K), (0, .ref 6), (1, .ref 3), (2, .ref L)] [] h := by
  obtain ⟨s, I, Lg, P⟩ := h
  have hs : s = zshC := hs
  subst hs
  refine zpcF (M := (zh61, zc61)) 61 93 rfl zckm61 (fun _ _ _ _ h => h) ?_
  exact hX
set_option maxRecDepth 100000 in
set_option maxHeartbeats 4000000 in
theorem reI {l : Launch} {Γ : zG} {d L : Nat} {Kp : Option Value → zH → Prop} {h : zH} {K : Int32} (hs : h.1 = zshC) (hX : zX l Γ false (d + 2) zh61 (zMQ' Γ false zh61 Kp) 0 0 22 [(3, .int (K + Int32.ofInt 1)), (0, .ref 6), (1, .ref 3), (2, .ref L)] [] h) : zX l Γ false (d + 2) zh61 (zMQ' Γ false zh61 Kp) 0 0 96 [(3, .int K), (0, .ref 6), (1, .ref 3), (2, .ref L)] [] h := by
  obtain ⟨s, I, Lg, P⟩ := h
  have hs : s = zshC := hs
  subst hs
  refine zpcF (M := (zh61, zc61)) 61 22 rfl zckm61 (fun _ _ _ _ h => h) ?_
  exact hX
set_option maxRecDepth 100000 in
set_option maxHeartbeats 4000000 in
theorem reS {l : Launch} {Γ : zG} {d L : Nat} {Kp : Option Value → zH → Prop} {h : zH} {K : Int32} (hs : h.1 = zshC) (hX : zX l Γ false (d + 2) zh61 (zMQ' Γ false zh61 Kp) 0 0 22 [(3, .int (Int32.ofInt 0)), (0, .ref 6), (1, .ref 3), (2, .ref L)] [] h) : zX l Γ false (d + 2) zh61 (zMQ' Γ false zh61 Kp) 0 0 20 [(0, .ref 6), (1, .ref 3), (2, .ref L)] [] h := by
  obtain ⟨s, I, Lg, P⟩ := h
  have hs : s = zshC := hs
  subst hs
  refine zpcF (M := (zh61, zc61)) 61 22 rfl zckm61 (fun _ _ _ _ h => h) ?_
  exact hX
def cT3 (mi : Nat) : List sCt := if mi = 34 ∨ mi = 68 then sTC mi else []
theorem cT3d (l : Launch) (Γ : zG) (dep : Nat) : ∀ mi, ∀ c ∈ cT3 mi, c.2.2.2.2.2 ≤ dep → sCon l Γ swC mi c := fun mi c hc _ => by
  unfold cT3 at hc
  split at hc
  · exact sTC_ok l Γ mi c hc
  · cases hc
def reL (L : Nat) : List (Nat × sT) := [(0, .inr (.inl 6)), (1, .inr (.inl 3)), (2, .inr (.inl L)), (3, sI1 0 699)]
def reMf (L : Nat) : sM := [(3, 3, 8), (6, 1, 2), (L, 1, 2), (L + 1, 0, 64)]
theorem re1 : LLs.all (fun L => [49, 73, 92].all (fun p => spqB swC cT3 (reMf L) 1000 4 61 (reL L) fpr [] [] p [] [(none, sA0, [])])) = true := by decide +kernel
theorem re2 : LLs.all (fun L => spqB swC cT3 [(3, 8, 10), (6, 1, 2), (L, 1, 2), (L + 1, 0, 64)] 1000 4 61 (reL L) (a1 [(3, 8, (0, 0)), (6, 2, (1, 8))]) cfP [] 102 [] [cfR 1]) = true := by decide +kernel
theorem re3 : LLs.all (fun L => spmB swC sT0 [(6, 1, 5)] 100 1 61 [] (oA L) sA0 [] [(20, [], [(0, .inr (.inl 6)), (1, .inr (.inl 3)), (2, .inr (.inl L))], a1 [(6, 1, (0, 0)), (6, 2, (0, 0)), (6, 3, (1, 1)), (6, 4, (1, 1))], [], [])] []) = true := by decide +kernel
def reM (L : Nat) : sM := [(3, 3, 10), (6, 1, 5), (7, 0, 72), (L, 1, 3), (L + 1, 0, 64)]
theorem reM_s {L : Nat} (hL : rL L) : ssubB (lcM L) (reM L) = true ∧ ssubB (reMf L) (reM L) = true ∧ ssubB [(3, 8, 10), (6, 1, 2), (L, 1, 2), (L + 1, 0, 64)] (reM L) = true ∧ ssubB (rlM L) (reM L) = true ∧ ssubB [(3, 3, 8)] (reM L) = true ∧ ssubB [(6, 1, 5)] (reM L) = true ∧ smem (reM L) 3 1 = false ∧ smem (reMf L) 3 8 = false ∧ smem (reMf L) 3 9 = false := by
  rcases hL with rfl | rfl <;> exact ⟨rfl, rfl, rfl, rfl, rfl, rfl, rfl, rfl, rfl⟩
def RE (D : zD) (L b : Nat) (g : Nat → Int) (KF : zKF) (KO : Nat → List Int → Nat → Prop) (h0 : zH) (r : Option Value) (h' : zH) : Prop := r = none ∧ sInv swC h' ∧ sMd (reM L) h0 h' ∧ ((∃ c p, KF c p ∧ 1 ≤ c ∧ c ≤ 5 ∧ fC c p h') ∨ (∃ c e q', (KO c e q' ∨ (kF D q' ≠ 4 ∧ KF 1 q')) ∧ pI h' 3 8 = 0 ∧ cTk D q' h' ∧ pI h' L 2 = ((c : Nat) : Int) ∧ CX L b g e h' ∧ b + e.length = c))
theorem zv_re46 : zcvB 61 46 3 2 62 = true := by decide +kernel
theorem zv_re70 : zcvB 61 70 3 1 67 = true := by decide +kernel
theorem zv_re89 : zcvB 61 89 3 2 71 = true := by decide +kernel
theorem zv_re117 : zcvB 61 117 3 2 68 = true := by decide +kernel
theorem zv_re93 : zcvB 61 93 2 0 34 = true := by decide +kernel
theorem LC.md {L b : Nat} {g : Nat → Int} (hL : rL L) {s e : List Int} {o cN : Nat} {due nm : Bool} {h h' : zH} (hS : LC L b g s o due nm cN e h) (hm : sMd [(3, 3, 8)] h h') : LC L b g s o due nm cN e h' := by
  obtain ⟨e2, e3, e4, eL, e5, bc, bo, c, e1, es, hk, hle, hX⟩ := hS
  have k7 : ∀ i, pI h' 7 i = pI h 7 i := fun i => pI_md hm rfl
  have L3 : L ≠ 3 ∧ 19 < L := by rcases hL with rfl | rfl <;> decide
  refine ⟨(pI_md hm rfl).trans e2, (pI_md hm rfl).trans e3, (pI_md hm rfl).trans e4, (pI_md hm (smem1n (by omega))).trans eL, e5, bc, bo, c, (pI_md hm rfl).trans e1, ?_, fun i hlt => by rw [k7 i]; exact hk i hlt, hle, hX.md hm (smem1n (by omega)) (fun i => smem1n (by omega))⟩
  rw [es]
  exact (stK_eq c (fun i _ => k7 i)).symm
theorem zRdL {l : Launch} {Γ : zG} {d L : Nat} (hL : rL L) {D : zD} {b : Nat} {g : Nat → Int} {KF : zKF} {KO : Nat → List Int → Nat → Prop} {h0 : zH} (h31 : h0.2.2.2 3 1 = some 1) : ∀ (m : Nat) (h : zH) (K : Int32) (k : Nat) (s : List Int) (o : Nat) (due nm : Bool) (cN : Nat) (e : List Int) (q : Nat), K.toInt = (k : Int) → k + 1 ≤ q → sInv swC h → sMd (reM L) h0 h → cTk D q h → pI h 3 8 = 0 → LC L b g s o due nm cN e h → wSum D m s o due nm cN e q KF KO → D.2 - q < m → zX l Γ false (d + 5) zh61 (zMQ' Γ false zh61 (RE D L b g KF KO h0)) 0 0 22 [(3, .int K), (0, .ref 6), (1, .ref 3), (2, .ref L)] [] h
  | 0, h, K, k, s, o, due, nm, cN, e, q, hK, hkq, hi, hm, hT, h8, hS, W, hlt => absurd hlt (Nat.not_lt_zero _)
  | m + 1, h, K, k, s, o, due, nm, cN, e, q, hK, hkq, hi, hm, hT, h8, hS, W, hlt => by
    have hq := hT.2.1
    have hn := hT.1.2.2.2.2.2.1
    have kb := kF_bd hq
    have tk : (h.2.1 3 4).toInt = kF D q := hT.2.2.1
    have z8 : h.2.1 3 8 = 0 := deq (by rw [show (0 : Int32).toInt = 0 from by decide]; exact h8)
    have cK : ¬ (Int16.ofInt 700).toInt32 ≤ K := dlen (by rw [hK, show ((Int16.ofInt 700).toInt32).toInt = 700 from by decide]; omega)
    obtain ⟨s1, s2, s3, s4, s5, s6, s7, s8, s9⟩ := reM_s hL
    have hd3 : (h.2.1 6 3).toInt = bN due := hS.2.1
    have ho2 : (h.2.1 6 2).toInt = (o : Int) := hS.1
    have after : ∀ (p : Nat) (h2 : zH) (r : Option Value), p ∈ [49, 73, 92] → (∀ {Kp : Option Value → zH → Prop} {h : zH}, h.1 = zshC → zX l Γ false (d + 5) zh61 (zMQ' Γ false zh61 Kp) 0 0 93 [(3, .int K), (0, .ref 6), (1, .ref 3), (2, .ref L)] [.ref 3] h → zX l Γ false (d + 5) zh61 (zMQ' Γ false zh61 Kp) 0 0 p [(3, .int K), (0, .ref 6), (1, .ref 3), (2, .ref L)] [] h) → LCO D L b g h s o due nm cN e q r h2 → zX l Γ false (d + 5) zh61 (zMQ' Γ false zh61 (RE D L b g KF KO h0)) 0 0 p [(3, .int K), (0, .ref 6), (1, .ref 3), (2, .ref L)] r.toList h2 := by
      intro p h2 r hp hrun hO
      obtain ⟨rfl, hi2, hm2, hw⟩ := hO
      have M2 := hm.seq (hm2.sub s1)
      rcases hw m KF KO W with ⟨c, p0, hF, c1, c2, hf⟩ | ⟨s', o', due', nm', cN', e', W', k0, z', T', S'⟩
      · have f8 := hf.1
        refine spq_ok (mi := 61) (pc := p) (fun _ => 0) (List.all_eq_true.mp (List.all_eq_true.mp re1 L (rL_in hL)) p hp) (cT3d l Γ 4) (by omega) (sfm ⟨.ref 6, rfl, rfl⟩ (sfm ⟨.ref 3, rfl, rfl⟩ (sfm ⟨.ref L, rfl, rfl⟩ (sfm ⟨.int K, rfl, K, rfl, by show 0 ≤ K.toInt; omega, by show K.toInt ≤ 699; omega⟩ (fun _ h => nomatch h))))) ⟨iB (by omega) (by omega) iE, fun t ht => by
          have ht := List.mem_singleton.mp ht
          subst ht
          exact Eq.trans (M2 3 1 s7).2.1 h31, (fun _ h => nomatch h), Or.inl rfl⟩ trivial hi2 rfl (fun e he => nomatch he) ?_
        intro e0 he r' h' hp' hi' hm'
        have e0 := List.mem_singleton.mp he
        subst e0
        exact ⟨hp'.1, hi', M2.seq (hm'.sub s2), Or.inl ⟨c, p0, hF, c1, c2, hf.md hm' s8 s9⟩⟩
      · refine hrun hi2.1 ?_
        refine znx (mi := 61) (d := d + 1) zv_re93 (by decide) hi2 T'.1 (fun h3 hi3 T3 hm3 => ?_)
        have kz := kF_0 hq
        have qb := qF_bd hq
        have eK : K + Int32.ofInt 1 = Int32.ofNat (k + 1) := by
          rw [iN (n := k) (by omega) hK]
          exact ofN_add k 1
        refine reI (d := d + 3) hi3.1 ?_
        rw [eK]
        exact zRdL hL h31 m h3 _ (k + 1) s' o' due' nm' cN' e' (qF D q) (oN (by omega)) (by omega) hi3 (M2.seq (hm3.sub s5)) T3 ((pI_md hm3 rfl).trans z') (S'.md hL hm3) W' (by omega)
    cases due with
    | true =>
      have hd3 : (h.2.1 6 3).toInt = 1 := hd3
      refine reA (d := d + 3) cK z8 (den (by rw [hd3]; decide)) hi.1 ?_
      refine zcallR (mi := 61) (as := [.ref L, .ref 3]) (rest := []) (q0 := 6) zv_re46 rfl (by decide) (by rw [hi.1]; rfl) ?_
      refine (zopF (d := d) hL hi hT h8 hS).mono ?_
      intro r h2 hO
      have e : r = none := hO.1
      subst e
      exact after 49 h2 none (by decide) (fun hs hX => reN49 (d := d + 3) hs hX) hO
    | false =>
      have hd3 : (h.2.1 6 3).toInt = 0 := hd3
      have cd : h.2.1 6 3 = 0 := deq (by rw [hd3]; decide)
      by_cases h6 : kF D q = 6 ∧ 0 < o
      · refine reB (d := d + 3) cK z8 cd (deq (by rw [tk, h6.1]; decide)) (dlen (by rw [ho2, show (0 : Int32).toInt = 0 from by decide]; omega)) hi.1 ?_
        refine zcallR (mi := 61) (as := [.ref L]) (rest := []) (q0 := 6) zv_re70 rfl (by decide) (by rw [hi.1]; rfl) ?_
        refine (zclF (d := d) hL hi hT h8 hS h6).mono ?_
        intro r h2 hO
        have er : r = none := hO.1
        subst er
        exact after 73 h2 none (by decide) (fun hs hX => reN73 (d := d + 3) hs hX) hO
      by_cases hs : 29 ≤ kF D q ∧ kF D q ≤ 40
      · refine reC (d := d + 3) cK z8 cd (den (by rw [tk, show ((Int8.ofInt 6).toInt32).toInt = 6 from by decide]; omega)) (dltn (by rw [tk, show ((Int8.ofInt 29).toInt32).toInt = 29 from by decide]; omega)) (dltn (by rw [tk, show ((Int8.ofInt 40).toInt32).toInt = 40 from by decide]; omega)) hi.1 ?_
        refine zcallR (mi := 61) (as := [.ref L, .ref 3]) (rest := []) (q0 := 6) zv_re89 rfl (by decide) (by rw [hi.1]; rfl) ?_
        refine (zsgC (d := d) hL hi hT h8 hS hs).mono ?_
        intro r h2 hO
        have er : r = none := hO.1
        subst er
        exact after 92 h2 none (by decide) (fun hs hX => reN92 (d := d + 3) hs hX) hO
      · have B := List.all_eq_true.mp re2 L (rL_in hL)
        have bo := hS.2.2.2.2.2.2.1
        have Lo : ∀ t ∈ reL L, ∃ v, zget ([(3, .int K), (0, .ref 6), (1, .ref 3), (2, .ref L)] : zL) t.1 = some v ∧ sTok t.2 v := sfm ⟨.ref 6, rfl, rfl⟩ (sfm ⟨.ref 3, rfl, rfl⟩ (sfm ⟨.ref L, rfl, rfl⟩ (sfm ⟨.int K, rfl, K, rfl, by show 0 ≤ K.toInt; omega, by show K.toInt ≤ 699; omega⟩ (fun _ h => nomatch h))))
        have ex : zX l Γ false (d + 5) zh61 (zMQ' Γ false zh61 (RE D L b g KF KO h0)) 0 0 102 [(3, .int K), (0, .ref 6), (1, .ref 3), (2, .ref L)] [] h := by
          by_cases ho : o = 0
          · obtain ⟨e2, e3, e4, eL, e5, bc, bo', c, e1, es, hk, hle, hX⟩ := id hS
            have run : ∀ {Kp : Option Value → zH → Prop}, (∀ (lo' : zL) (h' : zH) (y0 : Int32), sInv swC h' → sMd [] h h' → y0.toInt = 0 → zX l Γ false (d + 5) zh61 (zMQ' Γ false zh61 Kp) 0 0 117 lo' [.int y0, .ref L, .ref 6] h') → zX l Γ false (d + 5) zh61 (zMQ' Γ false zh61 Kp) 0 0 102 [(3, .int K), (0, .ref 6), (1, .ref 3), (2, .ref L)] [] h := fun hK => by
              rcases hL with rfl | rfl
              · exact lwre (d := d + 4) (by omega) (t := 0) (by decide) hi rfl rfl (by omega) hK
              · exact lwre (d := d + 4) (by omega) (t := 1) (by decide) hi rfl rfl (by omega) hK
            refine run (fun lo1 h1 y0 hi1 hm1 hy => ?_)
            have w1 : ∀ a b, pI h1 a b = pI h a b := fun a b => pI_md hm1 rfl
            have es1 : stK (pI h1 7) c = s := (stK_eq c (fun i _ => w1 7 i)).trans es.symm
            refine zcallR (mi := 61) (as := [.int y0, .ref L]) (rest := []) (q0 := 6) zv_re117 rfl (by decide) (by rw [hi1.1]; rfl) ?_
            refine (zRel (d := d + 1) hL hi1 ((w1 6 1).trans e1) (fun i hlt => by rw [w1]; exact hk i hlt) (hX.md hm1 rfl (fun _ => rfl)) (by rw [es1, e5]; omega) (a := 0) (by decide) (x := y0) hy).mono ?_
            rintro rr h2 ⟨rfl, hi2, hm2, c2, f1, f2, f3, X2, n2⟩
            rw [es1] at f3 X2 n2
            have c20 : c2 = 0 := by
              have cp := c5_pop 0 s
              rw [e5, ho, ← f3] at cp
              match c2, f3, cp with
              | 0, _, _ => rfl
              | c2 + 1, f3, cp =>
                rcases wPop_hd 0 s with e | ⟨x, tl, e, hx⟩
                · rw [e] at f3
                  cases f3
                · rw [e] at f3
                  injection f3 with f4 f5
                  have := tgt_0 x
                  have hx5 : x = 5 := by
                    by_cases g : x = 5
                    · exact g
                    · exact absurd ⟨g, this.1⟩ hx
                  simp only [stK, c5] at cp
                  rw [if_pos (f4.trans hx5)] at cp
                  omega
            subst c20
            have ms := lcM_s hL
            have L67 : L ≠ 6 ∧ L ≠ 7 ∧ L ≠ 3 ∧ L ≠ 1 ∧ 19 < L := by rcases hL with rfl | rfl <;> decide
            refine lwrf (d := d + 4) (by omega) hi2 (fun h' hi' hm' => ?_)
            refine ⟨rfl, hi', ((hm.seq (hm1.sub rfl)).seq (hm2.sub s4)).seq (hm'.sub rfl), Or.inr ⟨cN, wRl 0 s e, q, ?_, ?_, ((hT.mdo hm1 rfl (fun j _ => rfl)).mdo hm2 ms.2.2.1 (fun j _ => smem_q ms.2.2.2.1 j)).mdo hm' rfl (fun j _ => rfl), ?_, X2.md hm' rfl (fun _ => rfl), by omega⟩⟩
            rotate_left
            · rw [pI_md hm' rfl, pI_md hm2 (smem_q ms.2.2.2.1 8), w1]
              exact h8
            · rw [pI_md hm' rfl, pI_md hm2 ms.2.2.2.2.2.2.2, w1]
              exact eL
            rw [wSum, if_neg (by decide), if_neg h6, if_neg hs] at W
            by_cases h4 : kF D q = 4
            · rw [if_pos ⟨h4, ho⟩] at W
              exact Or.inl W
            · rw [if_neg (fun g => h4 g.1)] at W
              exact Or.inr ⟨h4, W⟩
          · refine spq_ok (mi := 61) (pc := 102) (fun _ => pI h 3 5) B (cT3d l Γ 4) (by omega) Lo (sAok.of (iB (by omega) (by omega) (iB (by show 1 ≤ (h.2.1 6 2).toInt; omega) (by show (h.2.1 6 2).toInt ≤ 8; omega) iE))) (cfP_ok hi) hi rfl (fun e he => nomatch he) ?_
            intro e0 he r' h' hp' hi' hm'
            have e0 := List.mem_singleton.mp he
            subst e0
            obtain ⟨hr, hf⟩ := cfR_ok hp'
            refine ⟨hr, hi', hm.seq (hm'.sub s3), Or.inl ⟨1, q, ?_, by decide, by decide, by rw [show pI h 3 5 = (q : Int) from hT.2.2.2.1] at hf; exact hf⟩⟩
            rw [wSum, if_neg (by decide), if_neg h6, if_neg hs, if_neg (fun g => ho g.2)] at W
            exact W
        by_cases k6 : kF D q = 6
        · exact reD (d := d + 3) cK z8 cd (deq (by rw [tk, k6]; decide)) (dle (by rw [ho2, show (0 : Int32).toInt = 0 from by decide]; omega)) (dlt (by rw [tk, show ((Int8.ofInt 29).toInt32).toInt = 29 from by decide]; omega)) hi.1 ex
        · exact reE (d := d + 3) cK z8 cd (den (by rw [tk, show ((Int8.ofInt 6).toInt32).toInt = 6 from by decide]; exact k6)) (dlt (by rw [tk, show ((Int8.ofInt 29).toInt32).toInt = 29 from by decide]; omega)) hi.1 ex
theorem zRdE {l : Launch} {Γ : zG} {d L : Nat} (hL : rL L) {D : zD} {KF : zKF} {KO : Nat → List Int → Nat → Prop} {h : zH} {q cN : Nat} (hi : sInv swC h) (hT : cTk D q h) (h8 : pI h 3 8 = 0) (hc : pI h L 2 = (cN : Int)) (hc64 : cN ≤ 64) (hq : 1 ≤ q) (hX : CX L cN (pI h (L + 1)) [] h) (W : wSum D 701 [] 0 true true cN [] q KF KO) : zSem l Γ false (d + 5) (zhd 61) [.ref 6, .ref 3, .ref L] h (RE D L cN (pI h (L + 1)) KF KO h) := by
  obtain ⟨s1, s2, s3, s4, s5, s6, s7, s8, s9⟩ := reM_s hL
  refine spm_c (fun _ => 0) (List.all_eq_true.mp re3 L (rL_in hL)) (by omega) ⟨_, _, rfl, rfl, _, _, rfl, rfl, _, _, rfl, rfl, rfl⟩ (sA0_ok _) trivial hi ?_
  intro lo1 st1 h1 hp hi1 hm1
  obtain ⟨p1, L1, p3, p4, p5⟩ := hp
  have hs : st1 = [] := p1
  subst hs
  have a1' : 0 ≤ pI h1 6 1 ∧ pI h1 6 1 ≤ 0 := p3.1 (6, 1, (0, 0)) List.mem_cons_self
  have a2 : 0 ≤ pI h1 6 2 ∧ pI h1 6 2 ≤ 0 := p3.1 (6, 2, (0, 0)) (List.mem_cons_of_mem _ List.mem_cons_self)
  have a3 : 1 ≤ pI h1 6 3 ∧ pI h1 6 3 ≤ 1 := p3.1 (6, 3, (1, 1)) (List.mem_cons_of_mem _ (List.mem_cons_of_mem _ List.mem_cons_self))
  have a4 : 1 ≤ pI h1 6 4 ∧ pI h1 6 4 ≤ 1 := p3.1 (6, 4, (1, 1)) (List.mem_cons_of_mem _ (List.mem_cons_of_mem _ (List.mem_cons_of_mem _ List.mem_cons_self)))
  have g0 : zget lo1 0 = some (.ref 6) := by
    obtain ⟨v, e, hv⟩ := L1 (0, .inr (.inl 6)) List.mem_cons_self
    rw [e, show v = .ref 6 from hv]
  have g1 : zget lo1 1 = some (.ref 3) := by
    obtain ⟨v, e, hv⟩ := L1 (1, .inr (.inl 3)) (List.mem_cons_of_mem _ List.mem_cons_self)
    rw [e, show v = .ref 3 from hv]
  have g2 : zget lo1 2 = some (.ref L) := by
    obtain ⟨v, e, hv⟩ := L1 (2, .inr (.inl L)) (List.mem_cons_of_mem _ (List.mem_cons_of_mem _ List.mem_cons_self))
    rw [e, show v = .ref L from hv]
  refine zX_sub (lo2 := [(0, .ref 6), (1, .ref 3), (2, .ref L)]) (fun t ht => ?_) ?_
  · simp only [List.mem_cons, List.not_mem_nil, or_false] at ht
    rcases ht with rfl | rfl | rfl
    · exact zget_mem _ _ _ g0
    · exact zget_mem _ _ _ g1
    · exact zget_mem _ _ _ g2
  show zX l Γ false (d + 5) zh61 _ 0 0 20 _ [] h1
  have L6 : L ≠ 6 ∧ 19 < L := by rcases hL with rfl | rfl <;> decide
  have hn := hT.1.2.2.2.2.2.1
  refine reS (d := d + 3) (K := 0) hi1.1 ?_
  exact zRdL hL hT.1.2.2.1 701 h1 _ 0 [] 0 true true cN [] q (by decide) (by omega) hi1 (hm1.sub s6) (hT.mdo hm1 rfl (fun j _ => rfl)) ((pI_md hm1 rfl).trans h8) ⟨by show pI h1 6 2 = 0; omega, by show pI h1 6 3 = 1; omega, by show pI h1 6 4 = 1; omega, (pI_md hm1 (smem1n (by omega))).trans hc, rfl, hc64, by omega, 0, by show pI h1 6 1 = 0; omega, rfl, fun i hlt => absurd hlt (Nat.not_lt_zero _), by show cN + 0 + 0 = cN + 0; omega, hX.md hm1 (smem1n (by omega)) (fun i => smem1n (by omega))⟩ W (by omega)
