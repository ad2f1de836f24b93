/-! the reference's E: what waits, as a list -/
def rk (k : Int) : Int := if 13 ≤ k then 6 else if 11 ≤ k then 5 else if 5 ≤ k then 4 else if k = 2 then 3 else if k = 3 then 2 else if k = 4 then 1 else 0
def kL : List Int := [0, 2, 3, 4, 5, 6, 7, 8, 9, 10, 11, 12, 13, 14]
def aL : List Int := [1, 2, 3, 4, 5, 6]
theorem kL_in {k : Int} (h : 0 ≤ k ∧ k ≤ 14) (h1 : k ≠ 1) : k ∈ kL := by
  simp only [kL, List.mem_cons, List.not_mem_nil, or_false]
  omega
theorem cm_rk : kL.all (fun k => decide (tgt (cm k) = rk k) && (decide (cm k = 5 ↔ k = 0) && decide (0 ≤ rk k ∧ rk k ≤ 6 ∧ (k = 0 ∨ 1 ≤ rk k)))) = true := by decide +kernel
theorem cm_ok {k : Int} (h : k ∈ kL) : tgt (cm k) = rk k ∧ (cm k = 5 ↔ k = 0) ∧ 0 ≤ rk k ∧ rk k ≤ 6 ∧ (k = 0 ∨ 1 ≤ rk k) := by
  have := List.all_eq_true.mp cm_rk k h
  simp only [Bool.and_eq_true, decide_eq_true_eq] at this
  exact this
def stR (f : Nat → Int) : Nat → List Int
  | 0 => []
  | c + 1 => cm (f c) :: stR f c
theorem stR_eq {f g : Nat → Int} : ∀ c, (∀ i, i < c → f i = g i) → stR f c = stR g c
  | 0, _ => rfl
  | c + 1, h => by
    simp only [stR]
    rw [h c (by omega), stR_eq c (fun i hi => h i (by omega))]
theorem pop_st {f : Nat → Int} {a : Int} (ha : 1 ≤ a) : ∀ (c c' : Nat), c' ≤ c → (∀ i, i < c → f i ∈ kL) → (∀ i, c' ≤ i → i < c → a ≤ rk (f i)) → (c' = 0 ∨ rk (f (c' - 1)) < a) → wPop a (stR f c) = stR f c'
  | 0, c', h0, _, _, _ => by
    have : c' = 0 := by omega
    subst this
    rfl
  | c + 1, c', h0, hk, hp, ht => by
    obtain ⟨k1, k2, k3, k4, k5⟩ := cm_ok (hk c (by omega))
    simp only [stR, wPop]
    by_cases e : c' = c + 1
    · subst e
      have ht : rk (f c) < a := ht.elim (fun e => absurd e (Nat.succ_ne_zero _)) (fun e => e)
      rw [if_neg (by rw [k1]; omega)]
      rfl
    · have := hp c (by omega) (by omega)
      rw [if_pos (by rw [k1]; exact ⟨fun g => by have := k2.mp g; rw [this] at *; simp only [rk] at *; omega, this⟩)]
      exact pop_st ha c c' (by omega) (fun i hi => hk i (by omega)) (fun i h1 h2 => hp i h1 (by omega)) ht
theorem pop_0 {f : Nat → Int} : ∀ (c : Nat), (∀ i, i < c → f i ∈ kL) → wPop 0 (stR f c) = wPop 1 (stR f c)
  | 0, _ => rfl
  | c + 1, hk => by
    obtain ⟨k1, k2, k3, k4, k5⟩ := cm_ok (hk c (by omega))
    simp only [stR, wPop]
    by_cases e : f c = 0
    · rw [if_neg (fun g => g.1 (k2.mpr e)), if_neg (fun g => g.1 (k2.mpr e))]
    · rw [if_pos ⟨fun g => e (k2.mp g), by omega⟩, if_pos ⟨fun g => e (k2.mp g), by omega⟩]
      exact pop_0 c (fun i hi => hk i (by omega))
/-! the code so far, in the reference: a row for each knot, held: the knots whose values wait -/
theorem stK_len (f : Nat → Int) : ∀ n, (stK f n).length = n
  | 0 => rfl
  | n + 1 => by
    simp only [stK, List.length_cons]
    rw [stK_len f n]
def RX (b : Nat) (G : Nat → Nat → Int) (e : List Int) (h : zH) : Prop := pI h 0 23 = ((b + e.length : Nat) : Int) ∧ kR (fun i => pI h 22 (64 + i)) (fun i => pI h 23 (64 + i)) (fun i => pI h 24 (64 + i)) b e ∧ (∃ n : Nat, pI h 0 49 = (n : Int) ∧ stK (pI h 26) n = (ixs b e).map (fun i : Nat => (i : Int))) ∧ ∀ i, i < b → pI h 22 (64 + i) = G 22 i ∧ pI h 23 (64 + i) = G 23 i ∧ pI h 24 (64 + i) = G 24 i
theorem RX.same {b : Nat} {G : Nat → Nat → Int} {e : List Int} {h h' : zH} (hX : RX b G e h) (h1 : pI h' 0 23 = pI h 0 23) (h2 : pI h' 0 49 = pI h 0 49) (k : ∀ q i, 22 ≤ q → q ≤ 26 → q ≠ 25 → pI h' q i = pI h q i) : RX b G e h' := by
  obtain ⟨a1, a2, ⟨n, a3, a4⟩, a5⟩ := hX
  refine ⟨h1.trans a1, kR_eq (fun i _ _ => ⟨k _ _ (by omega) (by omega) (by omega), k _ _ (by omega) (by omega) (by omega), k _ _ (by omega) (by omega) (by omega)⟩) a2, ⟨n, h2.trans a3, ?_⟩, fun i hi => ?_⟩
  · rw [← a4]
    exact stK_eq n (fun i _ => k 26 i (by omega) (by omega) (by omega))
  · rw [k 22 _ (by omega) (by omega) (by omega), k 23 _ (by omega) (by omega) (by omega), k 24 _ (by omega) (by omega) (by omega)]
    exact a5 i hi
theorem RX.md {b : Nat} {G : Nat → Nat → Int} {e : List Int} {h h' : zH} {md : sM} (hX : RX b G e h) (hm : sMd md h h') (h1 : smem md 0 23 = false) (h2 : smem md 0 49 = false) (k : md.all (fun t => decide (t.1 < 22) || decide (26 < t.1) || decide (t.1 = 25)) = true) : RX b G e h' := hX.same (pI_md hm h1) (pI_md hm h2) (fun q i q1 q2 q3 => pI_md hm (by
  cases hc : smem md q i with
  | false => rfl
  | true =>
    obtain ⟨t, ht, g1⟩ := List.any_eq_true.mp hc
    have g2 := List.all_eq_true.mp k t ht
    simp only [Bool.and_eq_true, Bool.or_eq_true, beq_iff_eq, decide_eq_true_eq] at g1 g2
    omega))
/-- a knot more -/
def gMx (r n : Nat) : sM := [(0, 23, 24), (0, 49, 50), (22, 64 + r, 65 + r), (23, 64 + r, 65 + r), (24, 64 + r, 65 + r), (26, n, n + 1)]
theorem gMx_off {r n q i : Nat} (hne : ¬ ((q = 0 ∧ (i = 23 ∨ i = 49)) ∨ ((q = 22 ∨ q = 23 ∨ q = 24) ∧ i = 64 + r) ∨ (q = 26 ∧ i = n))) : smem (gMx r n) q i = false := by
  cases hc : smem (gMx r n) q i with
  | false => rfl
  | true =>
    simp only [smem, gMx, List.any_cons, List.any_nil, Bool.or_eq_true, Bool.and_eq_true, beq_iff_eq, decide_eq_true_eq, Bool.or_false] at hc
    omega
theorem gMx_in {r n q i : Nat} (hs : smem (gMx r n) q i = true) : (q = 0 ∧ (i = 23 ∨ i = 49)) ∨ ((q = 22 ∨ q = 23 ∨ q = 24) ∧ i = 64 + r) ∨ (q = 26 ∧ i = n) := by
  simp only [smem, gMx, List.any_cons, List.any_nil, Bool.or_eq_true, Bool.and_eq_true, beq_iff_eq, decide_eq_true_eq, Bool.or_false] at hs
  omega
theorem smem_of {md : sM} {q k : Nat} (t : Nat × Nat × Nat) (ht : t ∈ md) (h : t.1 = q ∧ t.2.1 ≤ k ∧ k < t.2.2) : smem md q k = true := List.any_eq_true.mpr ⟨t, ht, by
  simp only [Bool.and_eq_true, beq_iff_eq, decide_eq_true_eq]
  exact ⟨h.1, h.2.1, h.2.2⟩⟩
theorem gMx_b {r n : Nat} (hr : r < 64) (hn : n < 96) : ∀ q k, smem (gMx r n) q k = true → smem bMd q k = true := fun q k hs => by
  rcases gMx_in hs with ⟨rfl, rfl | rfl⟩ | ⟨rfl | rfl | rfl, rfl⟩ | ⟨rfl, rfl⟩
  · rfl
  · rfl
  · exact smem_of (22, 64, 128) (by decide) ⟨rfl, by simp only; omega, by simp only; omega⟩
  · exact smem_of (23, 64, 128) (by decide) ⟨rfl, by simp only; omega, by simp only; omega⟩
  · exact smem_of (24, 64, 128) (by decide) ⟨rfl, by simp only; omega, by simp only; omega⟩
  · exact smem_of (26, 0, 96) (by decide) ⟨rfl, by simp only; omega, by simp only; omega⟩
theorem gMx_u {r n : Nat} (hr : r < 64) (hn : n < 96) : ∀ q k, smem (gMx r n) q k = true → smem uMd q k = true := fun q k hs => by
  rcases gMx_in hs with ⟨rfl, rfl | rfl⟩ | ⟨rfl | rfl | rfl, rfl⟩ | ⟨rfl, rfl⟩
  · rfl
  · rfl
  · exact smem_of (22, 64, 128) (by decide) ⟨rfl, by simp only; omega, by simp only; omega⟩
  · exact smem_of (23, 64, 128) (by decide) ⟨rfl, by simp only; omega, by simp only; omega⟩
  · exact smem_of (24, 64, 128) (by decide) ⟨rfl, by simp only; omega, by simp only; omega⟩
  · exact smem_of (26, 0, 96) (by decide) ⟨rfl, by simp only; omega, by simp only; omega⟩
theorem zgrowX {l : Launch} {Γ : zG} {d : Nat} {h : zH} (hi : sInv swM h) {r n : Nat} (hr : r < 64) (e : pI h 0 23 = (r : Int)) (hn : n < 96) (e49 : pI h 0 49 = (n : Int)) {k a b : Int32} {c : (Int × Int) × (Int × Int) × (Int × Int)} (hc : c ∈ gCl) (hk : c.1.1 ≤ k.toInt ∧ k.toInt ≤ c.1.2) (ha : c.2.1.1 ≤ a.toInt ∧ a.toInt ≤ c.2.1.2) (hb : c.2.2.1 ≤ b.toInt ∧ b.toInt ≤ c.2.2.2) : zSem l Γ false (d + 1) (zhd 221) [.ref 0, .int k, .int a, .int b] h (fun rr h' => rr = none ∧ sInv swM h' ∧ sMd (gMx r n) h h' ∧ pI h' 0 23 = (r : Int) + 1 ∧ pI h' 0 49 = (n : Int) + 1 ∧ pI h' 22 (64 + r) = k.toInt ∧ pI h' 23 (64 + r) = a.toInt ∧ pI h' 24 (64 + r) = b.toInt ∧ pI h' 26 n = (r : Int)) := by
  obtain ⟨hit, hrow, hlaw⟩ := sto hi
  have ck : 0 ≤ k.toInt ∧ k.toInt ≤ 14 ∧ 0 ≤ a.toInt ∧ a.toInt ≤ 9999 ∧ -1 ≤ b.toInt ∧ b.toInt ≤ 63 := by
    simp only [gCl, List.mem_cons, List.not_mem_nil, or_false] at hc
    rcases hc with rfl | rfl | rfl | rfl <;> (simp only at hk ha hb; omega)
  refine lwgA (d := d) (by omega) hr hit ⟨ck.1, ck.2.1⟩ ⟨ck.2.2.1, ck.2.2.2.1⟩ ⟨ck.2.2.2.2.1, ck.2.2.2.2.2⟩ rfl rfl rfl e (fun lo1 h1 hi1 hm1 a1 a2 a3 l0 => ?_)
  have m1 : ∀ {q i}, q ≠ 22 ∧ q ≠ 23 ∧ q ≠ 24 → smem (lwgA_m r) q i = false := fun {q i} g => by
    cases hc : smem (lwgA_m r) q i with
    | false => rfl
    | true =>
      simp only [smem, lwgA_m, List.any_cons, List.any_nil, Bool.or_eq_true, Bool.and_eq_true, beq_iff_eq, decide_eq_true_eq, Bool.or_false] at hc
      omega
  refine lwgB (d := d) (by omega) hn hi1 (r0 := (r : Int)) ⟨by omega, by omega⟩ l0 ((pI_md hm1 (m1 (by omega))).trans e49) ((pI_md hm1 (m1 (by omega))).trans e) (fun h' hi' hm' b1 b2 b3 => ?_)
  have m2 : ∀ {q i}, q = 22 ∨ q = 23 ∨ q = 24 → smem (lwgB_m n) q i = false := fun {q i} g => by
    cases hc : smem (lwgB_m n) q i with
    | false => rfl
    | true =>
      simp only [smem, lwgB_m, List.any_cons, List.any_nil, Bool.or_eq_true, Bool.and_eq_true, beq_iff_eq, decide_eq_true_eq, Bool.or_false] at hc
      omega
  have w1 : pI h' 22 (64 + r) = k.toInt := by
    rw [pI_md hm' (m2 (by omega)), show 64 + r = r + 64 from by omega]
    exact a3
  have w2 : pI h' 23 (64 + r) = a.toInt := by
    rw [pI_md hm' (m2 (by omega)), show 64 + r = r + 64 from by omega]
    exact a2
  have w3 : pI h' 24 (64 + r) = b.toInt := by
    rw [pI_md hm' (m2 (by omega)), show 64 + r = r + 64 from by omega]
    exact a1
  have hm : sMd (gMx r n) h h' := by
    refine (sMd.rf.tr hm1 (fun q i hs => ?_)).tr hm' (fun q i hs => ?_)
    · simp only [smem, lwgA_m, List.any_cons, List.any_nil, Bool.or_eq_true, Bool.and_eq_true, beq_iff_eq, decide_eq_true_eq, Bool.or_false] at hs
      simp only [smem, gMx, List.any_cons, List.any_nil, Bool.or_eq_true, Bool.and_eq_true, beq_iff_eq, decide_eq_true_eq, Bool.or_false]
      omega
    · simp only [smem, lwgB_m, List.any_cons, List.any_nil, Bool.or_eq_true, Bool.and_eq_true, beq_iff_eq, decide_eq_true_eq, Bool.or_false] at hs
      simp only [smem, gMx, List.any_cons, List.any_nil, Bool.or_eq_true, Bool.and_eq_true, beq_iff_eq, decide_eq_true_eq, Bool.or_false]
      omega
  refine ⟨rfl, sof hi' (fun i hlt => ?_) (fun j hlt => ?_), hm, b1, b2, w1, w2, w3, b3⟩
  · by_cases hne : i = 64 + r
    · subst hne
      simp only [gCl, List.mem_cons, List.not_mem_nil, or_false] at hc
      unfold pRow
      rw [w1, w2, w3]
      rcases hc with rfl | rfl | rfl | rfl <;> (simp only at hk ha hb; refine ⟨fun _ => ?_, fun _ _ => ?_, fun _ _ => ?_⟩ <;> omega)
    · exact (hrow i hlt).congr (pI_md hm (gMx_off (by omega))) (pI_md hm (gMx_off (by omega))) (pI_md hm (gMx_off (by omega)))
  · exact (hlaw j hlt).congr (pI_md hm (gMx_off (by omega))) (pI_md hm (gMx_off (by omega)))
def ixn (b : Nat) (x : Int) (e : List Int) : List Nat := if x = -28 then (ixs b e).tail else if x < -28 then (ixs b e).tail.tail else ixs b e
theorem ixs_c (b : Nat) (x : Int) (e : List Int) : ixs b (x :: e) = (b + e.length) :: ixn b x e := rfl
/-- the code grows by a knot -/
theorem RX.grow {b : Nat} {G : Nat → Nat → Int} {e : List Int} {h h' : zH} {r n : Nat} {x : Int} (hX : RX b G e h) (er : r = b + e.length) (kept : ∀ q i, 22 ≤ q → q ≤ 26 → q ≠ 25 → ¬ ((q = 22 ∨ q = 23 ∨ q = 24) ∧ i = 64 + r) → ¬ (q = 26 ∧ i = n) → pI h' q i = pI h q i) (g23 : pI h' 0 23 = (r : Int) + 1) (g49 : pI h' 0 49 = (n : Int) + 1) (g26 : pI h' 26 n = (r : Int)) (hst : stK (pI h 26) n = (ixn b x e).map (fun i : Nat => (i : Int))) (hx : (0 ≤ x ∧ pI h' 22 (64 + r) = 0 ∧ pI h' 23 (64 + r) = x) ∨ (-27 ≤ x ∧ x ≤ -21 ∧ pI h' 22 (64 + r) = 1 ∧ pI h' 23 (64 + r) = -x - 21) ∨ (x = -28 ∧ pI h' 22 (64 + r) = 2 ∧ ∃ i r', ixs b e = i :: r' ∧ pI h' 23 (64 + r) = ((i : Nat) : Int)) ∨ (x < -28 ∧ 3 ≤ pI h' 22 (64 + r) ∧ pI h' 22 (64 + r) ≤ 14 ∧ cm (pI h' 22 (64 + r)) = -x ∧ ∃ i j r', ixs b e = j :: i :: r' ∧ pI h' 23 (64 + r) = ((i : Nat) : Int) ∧ pI h' 24 (64 + r) = ((j : Nat) : Int))) : RX b G (x :: e) h' := by
  obtain ⟨a1, a2, a3, a5⟩ := hX
  subst er
  refine ⟨?_, ⟨kR_eq (fun i h1 h2 => ⟨kept _ _ (by omega) (by omega) (by omega) (by omega) (by omega), kept _ _ (by omega) (by omega) (by omega) (by omega) (by omega), kept _ _ (by omega) (by omega) (by omega) (by omega) (by omega)⟩) a2, hx⟩, ⟨n + 1, ?_, ?_⟩, fun i hi => ?_⟩
  · clear hx
    simp only [List.length_cons]
    omega
  · clear hx
    omega
  · rw [ixs_c]
    simp only [stK, List.map_cons]
    rw [g26, stK_eq (g := pI h 26) n (fun i hi => kept _ _ (by omega) (by omega) (by omega) (by omega) (by omega)), hst]
  · rw [kept 22 _ (by omega) (by omega) (by omega) (by omega) (by omega), kept 23 _ (by omega) (by omega) (by omega) (by omega) (by omega), kept 24 _ (by omega) (by omega) (by omega) (by omega) (by omega)]
    exact a5 i hi
/-! bind -/
def bBk (a k lo : Int) (e : List sEd) (r : List sRt) : Bool := spqB swM sT0 bMd0 200 1 223 (bL a a) sA0 [(0, (none, 48), (1, 72)), (25, (some 0, -1), (k, k)), (0, (none, 49), (lo, 95))] [] 0 e r
def bKo (a k : Int) : Bool := if rk k < a then bBk a k 0 [] [bR] else spqB swM sT0 [] 200 1 223 (bL a a) sA0 [(0, (none, 48), (1, 72)), (25, (some 0, -1), (k, k))] [] 0 [(25, [], bL a a, sA0, [], [])] []
theorem bK_ok : aL.all (fun a => kL.all (fun k => bKo a k)) = true := by decide +kernel
theorem bK6 : aL.all (fun a => spqB swM sT0 [] 100 1 223 (bL a a) sA0 [] [] 73 [bE0 a a] []) = true := by decide +kernel
theorem cm_b {k : Int} (h : 3 ≤ k ∧ k ≤ 14) : 29 ≤ cm k ∧ cm k ≤ 40 := by
  unfold cm
  repeat' split
  all_goals omega
theorem zbstepF {l : Launch} {Γ : zG} {d : Nat} (hd : 1 ≤ d) {a k : Int} (hab : 1 ≤ a ∧ a ≤ 6) (hb : spqB swM sT0 [] 200 1 223 (bL a a) sA0 [(0, (none, 48), (1, 72)), (25, (some 0, -1), (k, k))] [] 0 [(25, [], bL a a, sA0, [], [])] [] = true) (h6 : spqB swM sT0 [] 100 1 223 (bL a a) sA0 [] [] 73 [bE0 a a] [] = true) (hx0 : 2 ≤ k ∧ k ≤ 14) {b : Nat} {G : Nat → Nat → Int} {K : Option Value → zH → Prop} {c : Nat} {h : zH} {lo1 : zL} {e : List Int} (hL : ∀ q ∈ bL a a, ∃ v, zget lo1 q.1 = some v ∧ sTok q.2 v) (hi : sInv swM h) (hJ : pJ h (c + 1)) (hw : pI h 0 52 = 0) (hk : pI h 25 c = k) (hX : RX b G e h)
    (ih : ∀ h' lo', (∀ q ∈ bL a a, ∃ v, zget lo' q.1 = some v ∧ sTok q.2 v) → sInv swM h' → pJ h' c → pI h' 0 52 = 0 → sMd bMd h h' → RX b G (-(cm k) :: e) h' → zX l Γ false (d + 1) (zhd 223) (zMQ' Γ false (zhd 223) K) 0 0 0 lo' [] h') : zX l Γ false (d + 1) (zhd 223) (zMQ' Γ false (zhd 223) K) 0 0 0 lo1 [] h := by
  obtain ⟨d1, rfl⟩ : ∃ d1, d = d1 + 1 := ⟨d - 1, by omega⟩
  have bd := hJ.bd hi
  obtain ⟨j1, j2, j3, j4, j5, j6⟩ := id hJ
  have zz : pZ (pI h 25) (c + 1) = pZ (pI h 25) c := by
    simp only [pZ]
    rw [if_neg (by omega)]
    omega
  have bb : (k = 2 ∧ pB (pI h 25) (c + 1) = pB (pI h 25) c) ∨ (k ≠ 2 ∧ pB (pI h 25) (c + 1) = pB (pI h 25) c + 1) := by
    simp only [pB]
    by_cases e : k = 2
    · rw [if_pos (by omega)]
      exact Or.inl ⟨e, by omega⟩
    · rw [if_neg (by omega)]
      exact Or.inr ⟨e, by omega⟩
  have zb := pZ_bd (pI h 25) c
  have nb := pB_bd (pI h 25) c
  obtain ⟨x1, x2, ⟨n, x3, x4⟩, x5⟩ := id hX
  have r64 : b + e.length < 64 := by omega
  have n95 : n ≤ 95 := by omega
  have ixb : ∀ i, i ∈ ixs b e → i < 64 := fun i hi => by have := ixs_lt hi; omega
  have e25 : (h.2.1 25 (pI h 0 48 + -1).toNat).toInt = pI h 25 c := by
    have e : pI h 0 48 + -1 = (c : Int) := by omega
    rw [e, Int.toNat_natCast]
    rfl
  refine spq_c (pc := 0) (fun i => match i with
    | 0 => pI h 0 48
    | _ => pI h 25 c) hb (by omega) hL (sA0_ok h) ⟨⟨rfl, by show 1 ≤ pI h 0 48; omega, by show pI h 0 48 ≤ 72; omega⟩, ⟨e25, by show k ≤ pI h 25 c; omega, by show pI h 25 c ≤ k; omega⟩, trivial⟩ hi rfl ?_
  intro lo2 st2 h1 hp hi1 hm1
  obtain ⟨p1, L1, p3, p4, p5⟩ := hp
  have hs : st2 = [] := p1
  subst hs
  have w1 : ∀ q j, pI h1 q j = pI h q j := fun q j => pI_md hm1 rfl
  have X1 : RX b G e h1 := hX.md hm1 rfl rfl rfl
  have g0 : zget lo2 0 = some (.ref 0) := locR (L1 (0, sr0) List.mem_cons_self)
  have g1 : zI lo2 1 a := by
    obtain ⟨v, e1, x, rfl, a1, a2⟩ := L1 (1, sI1 a a) (List.mem_cons_of_mem _ List.mem_cons_self)
    have a1 : a ≤ x.toInt := a1
    have a2 : x.toInt ≤ a := a2
    exact ⟨x, e1, by omega⟩
  have cont : ∀ (lo3 : zL) (h2 : zH) (yb ya yk : Int32) (m : Nat) (cl : (Int × Int) × (Int × Int) × (Int × Int)), sInv swM h2 → sMd [(0, 48, 49), (0, 49, 50)] h1 h2 → pI h2 0 49 = (m : Int) → pI h2 0 48 = (c : Int) → ((k = 2 ∧ (m : Int) + 1 = n) ∨ (k ≠ 2 ∧ (m : Int) + 2 = n)) → zget lo3 0 = some (.ref 0) → zI lo3 1 a → yk.toInt = k → cl ∈ gCl → cl.1.1 ≤ k ∧ k ≤ cl.1.2 → cl.2.1.1 ≤ ya.toInt ∧ ya.toInt ≤ cl.2.1.2 → cl.2.2.1 ≤ yb.toInt ∧ yb.toInt ≤ cl.2.2.2 → stK (pI h 26) m = (ixn b (-(cm k)) e).map (fun i : Nat => (i : Int)) → ((-(cm k) = -28 ∧ k = 2 ∧ ∃ i r', ixs b e = i :: r' ∧ ya.toInt = ((i : Nat) : Int)) ∨ (-(cm k) < -28 ∧ 3 ≤ k ∧ k ≤ 14 ∧ ∃ i j r', ixs b e = j :: i :: r' ∧ ya.toInt = ((i : Nat) : Int) ∧ yb.toInt = ((j : Nat) : Int))) → zX l Γ false (d1 + 1 + 1) (zhd 223) (zMQ' Γ false (zhd 223) K) 0 0 70 lo3 [.int yb, .int ya, .int yk, .ref 0] h2 := by
    intro lo3 h2 yb ya yk m cl hi2 hm2 m49 m48 mn l0 l1 hyk hcl ck ca cb hst hx
    have w2 : ∀ {q j}, ¬ (q = 0 ∧ (j = 48 ∨ j = 49)) → pI h2 q j = pI h q j := fun {q j} g => by
      rw [pI_md hm2 ?_, w1]
      cases hc : smem [(0, 48, 49), (0, 49, 50)] q j with
      | false => rfl
      | true =>
        simp only [smem, List.any_cons, List.any_nil, Bool.or_eq_true, Bool.and_eq_true, beq_iff_eq, decide_eq_true_eq, Bool.or_false] at hc
        omega
    refine zcallV (as := [.int yb, .int ya, .int yk]) zv_b rfl (by rw [hi2.1]; rfl) ?_
    show zSem l Γ false (d1 + 1) (zhd 221) [.ref 0, .int yk, .int ya, .int yb] h2 _
    refine (zgrowX hi2 (r := b + e.length) (n := m) r64 ((w2 (by omega)).trans x1) (by omega) m49 hcl (by rw [hyk]; exact ck) ca cb).mono ?_
    rintro rr h3 ⟨rfl, hi3, hm3, g23, g49, f22, f23, f24, f26⟩
    refine spq_ok (pc := 73) (fun _ => 0) h6 (fun mi c h => nomatch h) hd (sfm ⟨_, l0, rfl⟩ (sfm ?_ (fun _ h => nomatch h))) (sA0_ok _) trivial hi3 rfl ?_ (fun e he => nomatch he)
    · obtain ⟨x, e1, e2⟩ := l1
      exact ⟨_, e1, x, rfl, by show a ≤ x.toInt; omega, by show x.toInt ≤ a; omega⟩
    intro e0 he lo4 st4 h4 hp4 hi4 hm4
    have e0 := List.mem_singleton.mp he
    subst e0
    have hs4 : st4 = [] := hp4.1
    subst hs4
    have w4 : ∀ q j, pI h4 q j = pI h3 q j := fun q j => pI_md hm4 rfl
    have w3 : ∀ {q j}, ¬ (q = 0 ∧ (j = 23 ∨ j = 48 ∨ j = 49)) → ¬ ((q = 22 ∨ q = 23 ∨ q = 24) ∧ j = 64 + (b + e.length)) → ¬ (q = 26 ∧ j = m) → pI h4 q j = pI h q j := fun {q j} q1 q2 q3 => by
      rw [w4, pI_md hm3 (gMx_off (by omega)), w2 (by omega)]
    have k48 : pI h4 0 48 = (c : Int) := by
      rw [w4, pI_md hm3 (gMx_off (by omega))]
      exact m48
    have k49 : pI h4 0 49 = (m : Int) + 1 := (w4 0 49).trans g49
    have k23 : pI h4 0 23 = ((b + e.length : Nat) : Int) + 1 := (w4 0 23).trans g23
    have k50 : pI h4 0 50 = pI h 0 50 := w3 (by omega) (by omega) (by omega)
    have k51 : pI h4 0 51 = pI h 0 51 := w3 (by omega) (by omega) (by omega)
    have k52 : pI h4 0 52 = pI h 0 52 := w3 (by omega) (by omega) (by omega)
    have f25 : ∀ i, pI h4 25 i = pI h 25 i := fun i => w3 (by omega) (by omega) (by omega)
    have X4 : RX b G (-(cm k) :: e) h4 := by
      refine RX.md (RX.grow (n := m) (h := h) hX rfl (fun q i q1 q2 q3 q4 q5 => (w4 q i).symm.trans (w3 (by omega) q4 q5)) g23 g49 f26 hst ?_) hm4 rfl rfl rfl
      · rw [f22, f23, f24, hyk]
        rcases hx with ⟨q1, q2, q3⟩ | ⟨q1, q2, q3, q4⟩
        · exact Or.inr (Or.inr (Or.inl ⟨q1, q2, q3⟩))
        · exact Or.inr (Or.inr (Or.inr ⟨q1, q2, q3, by rw [Int.neg_neg], q4⟩))
    clear hx hst
    refine ih h4 lo4 hp4.2.1 hi4 ⟨by omega, ?_, ?_, by omega, by omega, fun i hlt => ?_⟩ (by omega) (((hm1.sub rfl).tr hm2 ?_ |>.tr hm3 (gMx_b r64 (by omega))).seq (hm4.sub rfl)) X4
    · rw [pZ_eq c (fun i _ => f25 i)]
      omega
    · rw [pB_eq c (fun i _ => f25 i)]
      omega
    · rw [f25 i]
      exact j6 i (by omega)
    · intro q i hs
      simp only [smem, List.any_cons, List.any_nil, Bool.or_eq_true, Bool.and_eq_true, beq_iff_eq, decide_eq_true_eq, Bool.or_false] at hs
      exact smem_of (0, 48, 50) (by decide) ⟨by simp only; omega, by simp only; omega, by simp only; omega⟩
  have t0 : ∀ (m : Nat), n = m + 1 → ∃ i r', ixs b e = i :: r' ∧ pI h 26 m = ((i : Nat) : Int) ∧ stK (pI h 26) m = r'.map (fun i : Nat => (i : Int)) ∧ i < 64 := fun m em => by
    subst em
    cases hq : ixs b e with
    | nil =>
      rw [hq] at x4
      cases x4
    | cons i r' =>
      rw [hq] at x4
      simp only [stK, List.map_cons] at x4
      injection x4 with y1 y2
      exact ⟨i, r', rfl, y1, y2, ixb i (by rw [hq]; exact List.mem_cons_self)⟩
  by_cases k2 : k = 2
  · subst k2
    obtain ⟨m, em⟩ : ∃ m, n = m + 1 := ⟨n - 1, by omega⟩
    obtain ⟨i, r', q1, q2, q3, q4⟩ := t0 m em
    have c2 : cm 2 = 28 := by decide
    refine lwbn (d := d1 + 1) (by omega) hi1 (ra := a) hab (wa := (c : Int) + 1) ⟨by omega, by omega⟩ (hl := (n : Int)) ⟨by omega, by omega⟩ (tp := (i : Int)) ⟨by omega, by omega⟩ g0 g1 (by rw [w1]; omega) ?_ (by rw [w1]; exact x3) ?_ (fun lo' h' y0 y1 y2 b1 b2 b3 b4 b5 b6 b7 b8 b9 => ?_)
    · rw [show ((c : Int) + 1 + (-1)).toNat = c from by omega, w1]
      exact hk
    · rw [show ((n : Int) + (-1)).toNat = m from by omega, w1]
      exact q2
    · refine cont lo' h' y0 y1 y2 m ((2, 2), (0, 63), (-1, -1)) b1 b2 (by omega) (by omega) (Or.inl ⟨rfl, by omega⟩) b5 b6 b9 (by decide) (by decide) ⟨by simp only; omega, by simp only; omega⟩ ⟨by simp only; omega, by simp only; omega⟩ ?_ (Or.inl ⟨by rw [c2], rfl, i, r', q1, b8⟩)
      unfold ixn
      rw [c2, if_pos rfl, q1]
      exact q3
  · obtain ⟨m, em⟩ : ∃ m, n = m + 2 := ⟨n - 2, by omega⟩
    obtain ⟨j, r1, q1, q2, q3, q4⟩ := t0 (m + 1) em
    have t1 : ∃ i r', r1 = i :: r' ∧ pI h 26 m = ((i : Nat) : Int) ∧ stK (pI h 26) m = r'.map (fun i : Nat => (i : Int)) ∧ i < 64 := by
      cases r1 with
      | nil => cases q3
      | cons i r' =>
        simp only [stK, List.map_cons] at q3
        injection q3 with y1 y2
        exact ⟨i, r', rfl, y1, y2, ixb i (by rw [q1]; exact List.mem_cons_of_mem _ List.mem_cons_self)⟩
    obtain ⟨i, r', rfl, p2, p3', p4'⟩ := t1
    have cb := cm_b (k := k) ⟨by omega, hx0.2⟩
    refine lwbb (d := d1 + 1) (by omega) hi1 (ra := a) hab (wa := (c : Int) + 1) ⟨by omega, by omega⟩ (ki := k) ⟨by omega, hx0.2⟩ (hl := (n : Int)) ⟨by omega, by omega⟩ (tp := (j : Int)) ⟨by omega, by omega⟩ (tu := (i : Int)) ⟨by omega, by omega⟩ g0 g1 (by rw [w1]; omega) ?_ (by rw [w1]; exact x3) ?_ ?_ (fun lo' h' y0 y1 y2 b1 b2 b3 b4 b5 b6 b7 b8 b9 => ?_)
    · rw [show ((c : Int) + 1 + (-1)).toNat = c from by omega, w1]
      exact hk
    · rw [show ((n : Int) + (-1)).toNat = m + 1 from by omega, w1]
      exact q2
    · rw [show ((n : Int) + (-2)).toNat = m from by omega, w1]
      exact p2
    · refine cont lo' h' y0 y1 y2 m ((3, 14), (0, 63), (0, 63)) b1 b2 (by omega) (by omega) (Or.inr ⟨k2, by omega⟩) b5 b6 b9 (by decide) ⟨by simp only; omega, by simp only; omega⟩ ⟨by simp only; omega, by simp only; omega⟩ ⟨by simp only; omega, by simp only; omega⟩ ?_ (Or.inr ⟨by omega, by omega, hx0.2, i, j, r', q1, b8, b7⟩)
      unfold ixn
      rw [if_neg (by omega), if_pos (by omega), q1]
      exact p3'
theorem wRl_cR {a : Int} (ha : 1 ≤ a) {f : Nat → Int} {c : Nat} {e : List Int} (hk : f c ∈ kL) (hp : a ≤ rk (f c)) : wRl a (stR f (c + 1)) e = wRl a (stR f c) (-(cm (f c)) :: e) := by
  obtain ⟨k1, k2, k3, k4, k5⟩ := cm_ok hk
  simp only [stR, wRl]
  rw [if_pos (by rw [k1]; exact ⟨fun g => by have := k2.mp g; rw [this] at *; simp only [rk] at *; omega, hp⟩)]
theorem wRl_nR {a : Int} {f : Nat → Int} {c : Nat} {e : List Int} (hk : f c ∈ kL) (hp : rk (f c) < a) : wRl a (stR f (c + 1)) e = e := by
  obtain ⟨k1, k2, k3, k4, k5⟩ := cm_ok hk
  simp only [stR, wRl]
  rw [if_neg (by rw [k1]; omega)]
theorem zbindF {l : Launch} {Γ : zG} {d : Nat} (hd : 1 ≤ d) {a : Int} (ha : a ∈ aL) {b : Nat} {G : Nat → Nat → Int} {K : Option Value → zH → Prop} : ∀ (c : Nat) (h : zH) (lo1 : zL) (e : List Int), (∀ q ∈ bL a a, ∃ v, zget lo1 q.1 = some v ∧ sTok q.2 v) → sInv swM h → pJ h c → pI h 0 52 = 0 → RX b G e h →
    (∀ c' h', sInv swM h' → pJ h' c' → sMd bMd h h' → c' ≤ c → (∀ i, c' ≤ i → i < c → a ≤ rk (pI h 25 i)) → (c' = 0 ∨ rk (pI h 25 (c' - 1)) < a) → RX b G (wRl a (stR (pI h 25) c) e) h' → K none h') → zX l Γ false (d + 1) (zhd 223) (zMQ' Γ false (zhd 223) K) 0 0 0 lo1 [] h
  | 0, h, lo1, e, hL, hi, hJ, hw, hX, hK => by
    have hab : 1 ≤ a ∧ a ≤ 6 := by
      simp only [aL, List.mem_cons, List.not_mem_nil, or_false] at ha
      omega
    refine spq_ok (fun _ => 0) bB0 (fun mi c h => nomatch h) hd (bLw hab hL) (sAok.of (sfm ⟨by show 0 ≤ pI h 0 48; rw [hJ.1]; exact Int.le_refl _, by show pI h 0 48 ≤ 0; rw [hJ.1]; exact Int.le_refl _⟩ (fun _ h => nomatch h))) trivial hi rfl (fun e he => nomatch he) ?_
    intro e0 he r' h' hp hi' hm
    have e0 := List.mem_singleton.mp he
    subst e0
    have hr : r' = none := hp.1
    subst hr
    have w : ∀ q j, pI h' q j = pI h q j := fun q j => pI_md hm rfl
    exact hK 0 h' hi' (hJ.same (fun i _ => w 25 i) (w 0 48) (w 0 50) (by rw [w, w]) (by rw [w, w]) (by rw [w, w]; exact hJ.2.2.2.2.1)) (hm.sub rfl) (Nat.le_refl _) (fun i _ h => absurd h (Nat.not_lt_zero _)) (Or.inl rfl) (hX.same (w _ _) (w _ _) (fun _ _ _ _ _ => w _ _))
  | c + 1, h, lo1, e, hL, hi, hJ, hw, hX, hK => by
    have hab : 1 ≤ a ∧ a ≤ 6 := by
      simp only [aL, List.mem_cons, List.not_mem_nil, or_false] at ha
      omega
    have bd := hJ.bd hi
    have hx := pwt hi (i := c) (by omega)
    have hx1 := hJ.2.2.2.2.2 c (by omega)
    have kin := kL_in hx hx1
    have B := List.all_eq_true.mp (List.all_eq_true.mp bK_ok a ha) _ kin
    have B6 := List.all_eq_true.mp bK6 a ha
    unfold bKo at B
    by_cases hr : rk (pI h 25 c) < a
    · rw [if_pos hr] at B
      unfold bBk at B
      refine spq_ok (fun i => match i with
        | 0 => pI h 0 48
        | 1 => pI h 25 c
        | _ => pI h 0 49) B (fun mi c h => nomatch h) hd hL (sA0_ok h) ⟨⟨rfl, by show 1 ≤ pI h 0 48; rw [hJ.1]; omega, by show pI h 0 48 ≤ 72; rw [hJ.1]; omega⟩, ⟨?_, Int.le_refl _, Int.le_refl _⟩, ⟨rfl, by show 0 ≤ pI h 0 49; omega, by show pI h 0 49 ≤ 95; omega⟩, trivial⟩ hi rfl (fun e he => nomatch he) ?_
      · show (h.2.1 25 (pI h 0 48 + -1).toNat).toInt = pI h 25 c
        have e : pI h 0 48 + -1 = (c : Int) := by
          rw [hJ.1]
          omega
        rw [e, Int.toNat_natCast]
        rfl
      · intro e0 he r' h' hp hi' hm
        have e0 := List.mem_singleton.mp he
        subst e0
        have hr' : r' = none := hp.1
        subst hr'
        have g48 : pI h' 0 48 = pI h 0 48 + 0 := hp.2.2 (0, 48, 0, 0) List.mem_cons_self
        have g49 : pI h' 0 49 = pI h 0 49 + 0 := hp.2.2 (0, 49, 2, 0) (List.mem_cons_of_mem _ List.mem_cons_self)
        have k23 : pI h' 0 23 = pI h 0 23 := pI_md hm rfl
        have k50 : pI h' 0 50 = pI h 0 50 := pI_md hm rfl
        have k51 : pI h' 0 51 = pI h 0 51 := pI_md hm rfl
        have k52 : pI h' 0 52 = pI h 0 52 := pI_md hm rfl
        have j5 := hJ.2.2.2.2.1
        refine hK (c + 1) h' hi' (hJ.same (fun i _ => pI_md hm (smem_q rfl i)) (by omega) k50 (by omega) (by omega) (by omega)) (hm.sub rfl) (Nat.le_refl _) (fun i a b => by omega) (Or.inr hr) ?_
        rw [wRl_nR kin hr]
        exact hX.same k23 (by omega) (fun q i q1 q2 q3 => pI_md hm (smem_q (by
          have hq : q = 22 ∨ q = 23 ∨ q = 24 ∨ q = 26 := by omega
          rcases hq with rfl | rfl | rfl | rfl <;> rfl) i))
    · rw [if_neg hr] at B
      have e0 : pI h 25 c ≠ 0 := fun e => hr (by
        rw [e]
        show (0 : Int) < a
        omega)
      refine zbstepF hd hab B B6 ⟨by omega, hx.2⟩ hL hi hJ hw rfl hX (fun h' lo' hL' hi' hJ' hw' hm' hX' => zbindF hd ha c h' lo' _ hL' hi' hJ' hw' hX' (fun c2 h2 hi2 hJ2 hm2 l2 p2 t2 y2 => ?_))
      have f : ∀ i, pI h' 25 i = pI h 25 i := fun i => pI_md hm' (smem_q rfl i)
      refine hK c2 h2 hi2 hJ2 (hm'.seq hm2) (by omega) (fun i h1 h3 => ?_) ?_ ?_
      · by_cases e : i = c
        · subst e
          omega
        · rw [← f i]
          exact p2 i h1 (by omega)
      · rw [← f (c2 - 1)]
        exact t2
      · rw [wRl_cR hab.1 kin (by omega), ← stR_eq c (fun i _ => f i)]
        exact y2
theorem zbindSF {l : Launch} {Γ : zG} {d : Nat} (hd : 1 ≤ d) {c : Nat} {h : zH} (hi : sInv swM h) (hJ : pJ h c) (hw : pI h 0 52 = 0) {b : Nat} {G : Nat → Nat → Int} {e : List Int} (hX : RX b G e h) {a : Int} (ha : a ∈ aL) {x : Int32} (hx : x.toInt = a) : zSem l Γ false (d + 1) (zhd 223) [.ref 0, .int x] h (fun r h' => r = none ∧ sInv swM h' ∧ sMd bMd h h' ∧ ∃ c', pJ h' c' ∧ c' ≤ c ∧ stR (pI h' 25) c' = wPop a (stR (pI h 25) c) ∧ (c' = 0 ∨ rk (pI h' 25 (c' - 1)) < a) ∧ RX b G (wRl a (stR (pI h 25) c) e) h') := by
  obtain ⟨q1, q2⟩ := zallP_get _ zCodes_ok 223
  have c1 : (zCodes.get 223).1 = 223 := by decide +kernel
  rw [c1] at q1 q2
  have hab : 1 ≤ a ∧ a ≤ 6 := by
    simp only [aL, List.mem_cons, List.not_mem_nil, or_false] at ha
    omega
  have bd := hJ.bd hi
  have key : sTL [sr0, sI1 a a] [.ref 0, .int x] := ⟨_, _, rfl, rfl, _, _, rfl, ⟨x, rfl, by show a ≤ _; omega, by show _ ≤ a; omega⟩, rfl⟩
  refine zbody q2 (by rw [sslen_ok _ _ key]; show 2 ≤ (zhd 223).2.2.1; decide +kernel) ?_
  refine zbindF hd ha c h _ e (sslot_ok 0 _ _ key) hi hJ hw hX (fun c' h' a1 a2 a3 a4 a5 a6 a7 => ⟨rfl, a1, a3, c', a2, a4, ?_, ?_, a7⟩)
  · rw [pop_st hab.1 c c' a4 (fun i hlt => kL_in (pwt hi (by omega)) (hJ.2.2.2.2.2 i hlt)) a5 a6]
    exact stR_eq c' (fun i _ => pI_md a3 (smem_q rfl i))
  · rw [pI_md a3 (smem_q rfl (c' - 1))]
    exact a6
theorem wB2_ok : (List.range 96).all (fun c => kL.all (fun k => wB c (k, k))) = true := by decide +kernel
theorem zwaitF {l : Launch} {Γ : zG} {d : Nat} {h : zH} (hi : sInv swM h) {c : Nat} (hr : c < 96) (e : pI h 0 48 = c) {k : Int32} {v : Int} (hv : v ∈ kL) (hk : k.toInt = v) :
    zSem l Γ false (d + 1) (zhd 217) [.ref 0, .int k] h (fun rr h' => rr = none ∧ sInv swM h' ∧ sMd (wMd c) h h' ∧ pI h' 0 48 = c + 1 ∧ pI h' 25 c = v) := by
  have hb0 := List.all_eq_true.mp (List.all_eq_true.mp wB2_ok c (List.mem_range.mpr hr)) v hv
  refine spm_ok (fun _ => 0) hb0 (fun mi c h => nomatch h) (Nat.zero_le _) ⟨_, _, rfl, rfl, _, _, rfl, ⟨k, rfl, by show v ≤ _; omega, by show _ ≤ v; omega⟩, rfl⟩ (sAok.of (sfm ⟨by show (c : Int) ≤ pI h 0 48; omega, by show pI h 0 48 ≤ (c : Int); omega⟩ (fun _ h => nomatch h))) trivial hi (fun e he => nomatch he) ?_
  intro e' he r' h' hp hi' hm
  have e' := List.mem_singleton.mp he
  subst e'
  obtain ⟨p1, p2, p3⟩ := hp
  have q1 : (c : Int) + 1 ≤ pI h' 0 48 ∧ pI h' 0 48 ≤ (c : Int) + 1 := p2.1 (0, 48, ((c : Int) + 1, (c : Int) + 1)) List.mem_cons_self
  have q2 : v ≤ pI h' 25 c ∧ pI h' 25 c ≤ v := p2.1 (25, c, (v, v)) (List.mem_cons_of_mem _ List.mem_cons_self)
  exact ⟨p1, hi', hm, by omega, by omega⟩
/-! where an E stands -/
def LSt (b : Nat) (G : Nat → Nat → Int) (s : List Int) (o : Nat) (due nm : Bool) (cN : Nat) (e : List Int) (h : zH) : Prop := pI h 0 50 = (o : Int) ∧ pI h 0 52 = bN due ∧ pI h 0 53 = bN nm ∧ pI h 0 51 = (cN : Int) ∧ (∃ c, pJ h c ∧ s = stR (pI h 25) c) ∧ RX b G e h
theorem LSt.md {b : Nat} {G : Nat → Nat → Int} {s e : List Int} {o cN : Nat} {due nm : Bool} {h h' : zH} {md : sM} (hS : LSt b G s o due nm cN e h) (hm : sMd md h h') (h23 : smem md 0 23 = false) (h48 : smem md 0 48 = false) (h49 : smem md 0 49 = false) (h50 : smem md 0 50 = false) (h51 : smem md 0 51 = false) (h52 : smem md 0 52 = false) (h53 : smem md 0 53 = false) (h25 : md.all (fun t => !(t.1 == 25)) = true) (h22 : md.all (fun t => decide (t.1 < 22) || decide (26 < t.1) || decide (t.1 = 25)) = true) : LSt b G s o due nm cN e h' := by
  obtain ⟨a1, a2, a3, a4, ⟨c, J, e⟩, hX⟩ := hS
  have k25 : ∀ i, pI h' 25 i = pI h 25 i := fun i => pI_md hm (smem_q h25 i)
  have j5 := J.2.2.2.2.1
  refine ⟨(pI_md hm h50).trans a1, (pI_md hm h52).trans a2, (pI_md hm h53).trans a3, (pI_md hm h51).trans a4, ⟨c, J.same (fun i _ => k25 i) (pI_md hm h48) (pI_md hm h50) (by rw [pI_md hm h49, pI_md hm h52]) (by rw [pI_md hm h23, pI_md hm h51]) (by rw [pI_md hm h49, pI_md hm h23]; exact j5), ?_⟩, hX.md hm h23 h49 h22⟩
  rw [e]
  exact (stR_eq c (fun i _ => k25 i)).symm
/-- what comes of a step of an E -/
def LO (D : zD) (b : Nat) (G : Nat → Nat → Int) (h0 : zH) (s : List Int) (o : Nat) (due nm : Bool) (cN : Nat) (e : List Int) (q : Nat) (r : Option Value) (h' : zH) : Prop := sInv swM h' ∧ sMd uMd h0 h' ∧ ∃ x : Int32, r = some (.int x) ∧ ∀ m KF KO, wSum D (m + 1) s o due nm cN e q KF KO → (∃ c p, KF c p ∧ x.toInt = 0 ∧ fM c p h') ∨ (∃ s' o' due' nm' cN' e' q', wSum D m s' o' due' nm' cN' e' q' KF KO ∧ x.toInt = 1 ∧ tTk D q' h' ∧ LSt b G s' o' due' nm' cN' e' h' ∧ q < q')
theorem zflt {l : Launch} {Γ : zG} {d mi : Nat} {D : zD} {h : zH} {b : Nat} {G : Nat → Nat → Int} {s e : List Int} {o cN q : Nat} {due nm : Bool} {A : sAs} {c0 : Int} (hb : spmB swM sT0 [(0, 4, 6)] 200 2 mi [] [sr0] A fP [] [fR c0] = true) (hi : sInv swM h) (hT : tTk D q h) (hA : sAok A h) (hw : ∀ m KF KO, wSum D (m + 1) s o due nm cN e q KF KO → KF c0 q) : zSem l Γ false (d + 4) (zhd mi) [.ref 0] h (LO D b G h s o due nm cN e q) :=
  spm_f hb (by omega) ⟨_, _, rfl, rfl, rfl⟩ hA hi (fun x h' hx hi' hm' hf => ⟨hi', hm'.sub rfl, x, rfl, fun m KF KO g => Or.inl ⟨c0, q, hw m KF KO g, hx, by rw [← hT.2.2.1]; exact hf⟩⟩)
/-! the token behind a step -/
def teL : List (Nat × Nat) := [(216, 45), (216, 81), (216, 170), (222, 42), (222, 254)]
theorem teB : teL.all (fun t => spqB swM sT0 [] 100 1 t.1 lL sA0 [] [] (t.2 + 3) [] [rI 1 sA0 []] && zcvB t.1 t.2 12 0 195) = true := by decide +kernel
theorem zte {l : Launch} {Γ : zG} {d : Nat} {D : zD} {h h3 : zH} {b : Nat} {G : Nat → Nat → Int} {s s' e e' : List Int} {o cN q o' cN' : Nat} {due nm due' nm' : Bool} {t : Nat × Nat} (ht : t ∈ teL) {lo : zL} (hL : ∀ q ∈ lL, ∃ v, zget lo q.1 = some v ∧ sTok q.2 v) (hi : sInv swM h3) (hm : sMd uMd h h3) (hT : tTk D q h3) (hS : LSt b G s' o' due' nm' cN' e' h3) (hq : kF D q ≠ 0) (hw : ∀ m KF KO, wSum D (m + 1) s o due nm cN e q KF KO → wSum D m s' o' due' nm' cN' e' (qF D q) KF KO) : zX l Γ false (d + 4) (zhd t.1) (zMQ' Γ false (zhd t.1) (LO D b G h s o due nm cN e q)) 0 0 t.2 lo [.ref 0] h3 := by
  have B := List.all_eq_true.mp teB t ht
  simp only [Bool.and_eq_true] at B
  refine zcallV (as := []) B.2 rfl (by rw [hi.1]; rfl) ?_
  refine (ztokR (d := d + 1) hi hT.1).mono ?_
  rintro r4 h4 ⟨rfl, hi4, T4, hm4⟩
  refine spq_r (pc := t.2 + 3) (fun _ => 0) B.1 (by omega) hL (sA0_ok _) trivial hi4 rfl ?_
  intro x h5 hx hi5 hm5 _ _
  have k0 := kF_0 hT.2.1
  have qb := qF_bd hT.2.1
  exact ⟨hi5, (hm.seq (hm4.sub rfl)).seq (hm5.sub rfl), x, rfl, fun m KF KO g => Or.inr ⟨_, _, _, _, _, _, _, hw m KF KO g, hx, T4.md hm5 rfl, (hS.md hm4 rfl rfl rfl rfl rfl rfl rfl rfl rfl).md hm5 rfl rfl rfl rfl rfl rfl rfl rfl rfl, qb.2.2 (by
    have := hT.2.1
    omega)⟩⟩
