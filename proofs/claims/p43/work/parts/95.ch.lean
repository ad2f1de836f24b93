/-! the class's E: what waits, as a list -/
def kC : List Int := [5, 28, 29, 30, 31, 32, 33, 34, 35, 36, 37, 38, 39, 40]
theorem kC_bd {x : Int} (h : x ∈ kC) : x = 5 ∨ (28 ≤ x ∧ x ≤ 40) := by
  simp only [kC, List.mem_cons, List.not_mem_nil, or_false] at h
  omega
theorem kC_in {x : Int} (h : x = 5 ∨ (28 ≤ x ∧ x ≤ 40)) : x ∈ kC := by
  simp only [kC, List.mem_cons, List.not_mem_nil, or_false]
  omega
def c5 : List Int → Nat
  | [] => 0
  | x :: s => (if x = 5 then 1 else 0) + c5 s
theorem c5_pop (a : Int) : ∀ s, c5 (wPop a s) = c5 s
  | [] => rfl
  | x :: s => by
    simp only [wPop]
    split
    · rename_i e
      simp only [c5]
      rw [if_neg e.1, c5_pop a s]
      omega
    · rfl
theorem c5_le (f : Nat → Int) : ∀ c, c5 (stK f c) ≤ c
  | 0 => Nat.le_refl _
  | c + 1 => by
    have := c5_le f c
    simp only [stK, c5]
    split <;> omega
theorem tgt_0 (x : Int) : 0 ≤ tgt x ∧ tgt x ≤ 6 := by
  unfold tgt
  repeat' split
  all_goals omega
theorem pop_sK {f : Nat → Int} {a : Int} : ∀ (c c' : Nat), c' ≤ c → (∀ i, c' ≤ i → i < c → f i ≠ 5 ∧ a ≤ tgt (f i)) → (c' = 0 ∨ ¬ (f (c' - 1) ≠ 5 ∧ a ≤ tgt (f (c' - 1)))) → wPop a (stK f c) = stK f c'
  | 0, c', h0, _, _ => by
    have : c' = 0 := by omega
    subst this
    rfl
  | c + 1, c', h0, hp, ht => by
    simp only [stK, wPop]
    by_cases e : c' = c + 1
    · subst e
      have ht : ¬ (f c ≠ 5 ∧ a ≤ tgt (f c)) := ht.elim (fun e => absurd e (Nat.succ_ne_zero _)) (fun e => e)
      rw [if_neg ht]
      rfl
    · rw [if_pos (hp c (by omega) (by omega))]
      exact pop_sK c c' (by omega) (fun i h1 h2 => hp i h1 (by omega)) ht
def rL (L : Nat) : Prop := L = 20 ∨ L = 37
def LLs : List Nat := [20, 37]
theorem rL_in {L : Nat} (h : rL L) : L ∈ LLs := by
  rcases h with rfl | rfl <;> decide
/-! release -/
def rlM (L : Nat) : sM := [(6, 1, 2), (L, 1, 2), (L + 1, 0, 64)]
def rlL (L : Nat) (a : Int) : List (Nat × sT) := [(0, .inr (.inl 6)), (1, .inr (.inl L)), (2, sI1 a a)]
def aC : List Int := [0, 1, 2, 3, 4, 5, 6]
theorem rl0 : LLs.all (fun L => aC.all (fun a => spqB swC sT0 [] 200 1 68 (rlL L a) (a1 [(6, 1, (0, 0))]) [] [] 0 [] [(none, sA0, [])] && spqB swC sT0 [] 200 1 68 (rlL L a) sA0 [] [] 64 [(0, [], rlL L a, sA0, [], [])] [])) = true := by decide +kernel
def rlP (t : Int) : List sP0 := [(6, (none, 1), (1, 72)), (7, (some 0, -1), (t, t))]
theorem rl1 : LLs.all (fun L => aC.all (fun a => kC.all (fun t => if t ≠ 5 ∧ a ≤ tgt t then spqB swC sT0 [(6, 1, 2)] 200 1 68 (rlL L a) sA0 (rlP t) [] 0 [(61, [sI1 (-t) (-t), .inr (.inl L)], rlL L a, sA0, [(6, 1, 0, -1)], [])] [] else spqB swC sT0 [] 200 1 68 (rlL L a) sA0 (rlP t) [] 0 [] [(none, sA0, [(6, 1, 0, 0)])]))) = true := by decide +kernel
theorem zv_rl : zcvB 68 61 6 1 66 = true := by decide +kernel
theorem zAd66 {l : Launch} {Γ : zG} {d L n : Nat} (hL : rL L) {h : zH} (hi : sInv swC h) {v : Int32} (hn : pI h L 1 = (n : Int)) (hlt : n < 64) : zSem l Γ false (d + 2) (zhd 66) [.ref L, .int v] h (fun r h' => r = none ∧ sInv swC h' ∧ sMd [(L, 1, 2), (L + 1, n, n + 1)] h h' ∧ pI h' L 1 = (n : Int) + 1 ∧ pI h' (L + 1) n = v.toInt) := by
  rcases hL with rfl | rfl
  · exact lwad (d := d + 1) (by omega) hlt (t := 0) (by decide) hi (i32bd v) rfl hn (fun h' a b c e => ⟨rfl, a, b, c, e⟩)
  · exact lwad (d := d + 1) (by omega) hlt (t := 1) (by decide) hi (i32bd v) rfl hn (fun h' a b c e => ⟨rfl, a, b, c, e⟩)
/-- the code so far, behind b knots that stand -/
def CX (L b : Nat) (g : Nat → Int) (e : List Int) (h : zH) : Prop := pI h L 1 = ((b + e.length : Nat) : Int) ∧ cdC (pI h (L + 1)) b e ∧ ∀ i, i < b → pI h (L + 1) i = g i
theorem CX.same {L b : Nat} {g : Nat → Int} {e : List Int} {h h' : zH} (hX : CX L b g e h) (h1 : pI h' L 1 = pI h L 1) (h2 : ∀ i, pI h' (L + 1) i = pI h (L + 1) i) : CX L b g e h' :=
  ⟨h1.trans hX.1, cdC_eq (fun i _ _ => h2 i) hX.2.1, fun i hi => (h2 i).trans (hX.2.2 i hi)⟩
theorem CX.md {L b : Nat} {g : Nat → Int} {e : List Int} {h h' : zH} {md : sM} (hX : CX L b g e h) (hm : sMd md h h') (h1 : smem md L 1 = false) (h2 : ∀ i, smem md (L + 1) i = false) : CX L b g e h' := hX.same (pI_md hm h1) (fun i => pI_md hm (h2 i))
theorem CX.add {L b : Nat} {g : Nat → Int} {e : List Int} {h h' : zH} {x : Int} (hX : CX L b g e h) (h1 : pI h' L 1 = pI h L 1 + 1) (h2 : pI h' (L + 1) (b + e.length) = x) (h3 : ∀ i, i ≠ b + e.length → pI h' (L + 1) i = pI h (L + 1) i) : CX L b g (x :: e) h' := by
  obtain ⟨a1, a2, a3⟩ := hX
  refine ⟨?_, ⟨h2, cdC_eq (fun i _ hl => h3 i (by omega)) a2⟩, fun i hi => (h3 i (by omega)).trans (a3 i hi)⟩
  simp only [List.length_cons]
  omega
theorem rlM_s {L : Nat} (hL : rL L) : ssubB [(6, 1, 2)] (rlM L) = true ∧ (List.range 64).all (fun n => ssubB [(L, 1, 2), (L + 1, n, n + 1)] (rlM L)) = true ∧ (rlM L).all (fun t => !(t.1 == 7)) = true := by
  rcases hL with rfl | rfl <;> exact ⟨rfl, by decide +kernel, rfl⟩
theorem wRl_c {a : Int} {f : Nat → Int} {c : Nat} {e : List Int} (hp : f c ≠ 5 ∧ a ≤ tgt (f c)) : wRl a (stK f (c + 1)) e = wRl a (stK f c) (-(f c) :: e) := by
  simp only [stK, wRl]
  rw [if_pos hp]
theorem wRl_n {a : Int} {f : Nat → Int} {c : Nat} {e : List Int} (hp : ¬ (f c ≠ 5 ∧ a ≤ tgt (f c))) : wRl a (stK f (c + 1)) e = e := by
  simp only [stK, wRl]
  rw [if_neg hp]
theorem zRelF {l : Launch} {Γ : zG} {d L : Nat} (hL : rL L) {a : Int} (ha : a ∈ aC) {b : Nat} {g : Nat → Int} {K : Option Value → zH → Prop} : ∀ (c : Nat) (h : zH) (lo : zL) (e : List Int), (∀ q ∈ rlL L a, ∃ v, zget lo q.1 = some v ∧ sTok q.2 v) → sInv swC h → pI h 6 1 = (c : Int) → (∀ i, i < c → pI h 7 i ∈ kC) → CX L b g e h → b + e.length + c ≤ 64 + c5 (stK (pI h 7) c) → (∀ c' h', sInv swC h' → sMd (rlM L) h h' → pI h' 6 1 = ((c' : Nat) : Int) → c' ≤ c → (∀ i, c' ≤ i → i < c → pI h 7 i ≠ 5 ∧ a ≤ tgt (pI h 7 i)) → (c' = 0 ∨ ¬ (pI h 7 (c' - 1) ≠ 5 ∧ a ≤ tgt (pI h 7 (c' - 1)))) → CX L b g (wRl a (stK (pI h 7) c) e) h' → b + (wRl a (stK (pI h 7) c) e).length + c' = b + e.length + c → K none h') → zX l Γ false (d + 3) (zhd 68) (zMQ' Γ false (zhd 68) K) 0 0 0 lo [] h
  | 0, h, lo, e, hLo, hi, hc, hk, hX, hb, hK => by
    have B := List.all_eq_true.mp (List.all_eq_true.mp rl0 L (rL_in hL)) a ha
    simp only [Bool.and_eq_true] at B
    refine spq_ok (fun _ => 0) B.1 (fun mi c h => nomatch h) (by omega) hLo (sAok.of (iB (by rw [hc]; exact Int.le_refl _) (by rw [hc]; exact Int.le_refl _) iE)) trivial hi rfl (fun e he => nomatch he) ?_
    intro e0 he r' h' hp hi' hm
    have e0 := List.mem_singleton.mp he
    subst e0
    have hr : r' = none := hp.1
    subst hr
    exact hK 0 h' hi' (hm.sub rfl) ((pI_md hm rfl).trans hc) (Nat.le_refl _) (fun i _ h => absurd h (Nat.not_lt_zero _)) (Or.inl rfl) (hX.md hm rfl (fun _ => rfl)) rfl
  | c + 1, h, lo, e, hLo, hi, hc, hk, hX, hb, hK => by
    have b1 : 0 ≤ pI h 6 1 ∧ pI h 6 1 ≤ 72 := by
      have g := hi.2.2.1 6 1
      rw [show sIv swC 6 1 = (0, 72) from by decide +kernel] at g
      exact g
    have B0 := List.all_eq_true.mp (List.all_eq_true.mp rl0 L (rL_in hL)) a ha
    simp only [Bool.and_eq_true] at B0
    have B := List.all_eq_true.mp (List.all_eq_true.mp (List.all_eq_true.mp rl1 L (rL_in hL)) a ha) _ (hk c (by omega))
    have e7 : (h.2.1 7 (pI h 6 1 + -1).toNat).toInt = pI h 7 c := by
      have e : pI h 6 1 + -1 = (c : Int) := by omega
      rw [e, Int.toNat_natCast]
      rfl
    obtain ⟨ms1, ms2, ms3⟩ := rlM_s hL
    have L6 : L ≠ 6 ∧ L ≠ 7 ∧ L + 1 ≠ 6 ∧ L + 1 ≠ 7 := by rcases hL with rfl | rfl <;> decide
    by_cases hp : pI h 7 c ≠ 5 ∧ a ≤ tgt (pI h 7 c)
    · rw [if_pos hp] at B
      have hlt : b + e.length < 64 := by
        have := c5_le (pI h 7) c
        simp only [stK, c5] at hb
        rw [if_neg hp.1] at hb
        omega
      refine spq_c (pc := 0) (fun i => match i with
        | 0 => pI h 6 1
        | _ => pI h 7 c) B (by omega) hLo (sA0_ok _) ⟨⟨rfl, by show 1 ≤ pI h 6 1; omega, b1.2⟩, ⟨e7, Int.le_refl _, Int.le_refl _⟩, trivial⟩ hi rfl ?_
      intro lo1 st1 h1 hp1 hi1 hm1
      obtain ⟨p1, L1, p3, p4, p5⟩ := hp1
      obtain ⟨_, _, rfl, ⟨v, rfl, hv1, hv2⟩, vr, _, rfl, hr, hn⟩ := p1
      have hv1 : -pI h 7 c ≤ v.toInt := hv1
      have hv2 : v.toInt ≤ -pI h 7 c := hv2
      have hr : vr = .ref L := hr
      subst hr
      have hn : _ = [] := hn
      subst hn
      have g1 : pI h1 6 1 = pI h 6 1 + -1 := p4 (6, 1, 0, -1) List.mem_cons_self
      have X1 := hX.md hm1 (smem1n (by omega)) (fun i => smem1n (by omega))
      refine zcallR (as := [.int v]) (rest := []) (q0 := L) zv_rl rfl (by decide) (by rw [hi1.1]; rcases hL with rfl | rfl <;> rfl) ?_
      refine (zAd66 (d := d) hL hi1 (v := v) (n := b + e.length) X1.1 hlt).mono ?_
      rintro rr h2 ⟨rfl, hi2, hm2, n1, n2⟩
      have offL : ∀ q i, ¬ ((q = L ∧ i = 1) ∨ (q = L + 1 ∧ i = b + e.length)) → smem [(L, 1, 2), (L + 1, b + e.length, b + e.length + 1)] q i = false := fun q i hne => by
        cases hb : smem [(L, 1, 2), (L + 1, b + e.length, b + e.length + 1)] q i with
        | false => rfl
        | true =>
          simp only [smem, List.any_cons, List.any_nil, Bool.or_eq_true, Bool.and_eq_true, beq_iff_eq, decide_eq_true_eq, Bool.or_false] at hb
          omega
      have X2 : CX L b g (-pI h 7 c :: e) h2 := X1.add (by rw [X1.1]; exact n1) (by rw [n2]; omega) (fun i hne => pI_md hm2 (offL _ i (by omega)))
      refine spq_c (pc := 64) (fun _ => 0) B0.2 (by omega) L1 (sA0_ok _) trivial hi2 rfl ?_
      intro lo3 st3 h3 hp3 hi3 hm3
      obtain ⟨p1, L3, p3, p4, p5⟩ := hp3
      have hs : st3 = [] := p1
      subst hs
      have ms2' := List.all_eq_true.mp ms2 (b + e.length) (List.mem_range.mpr hlt)
      have M3 : sMd (rlM L) h h3 := ((hm1.sub ms1).seq (hm2.sub ms2')).seq (hm3.sub rfl)
      have f : ∀ i, pI h3 7 i = pI h 7 i := fun i => pI_md M3 (smem_q ms3 i)
      have g2 : pI h3 6 1 = (c : Int) := by
        rw [pI_md hm3 rfl, pI_md hm2 (offL 6 1 (by omega))]
        omega
      have fs : stK (pI h3 7) c = stK (pI h 7) c := stK_eq c (fun i _ => f i)
      have X3 := X2.md hm3 rfl (fun _ => rfl)
      refine zRelF hL ha c h3 lo3 (-pI h 7 c :: e) L3 hi3 g2 (fun i hlt => by rw [f i]; exact hk i (by omega)) X3 ?_ (fun c' h' a1 a2 a3 a4 a5 a6 a7 a8 => hK c' h' a1 (M3.seq a2) a3 (by omega) (fun i h1 h2 => ?_) ?_ ?_ ?_)
      · rw [fs]
        simp only [stK, c5] at hb
        rw [if_neg hp.1] at hb
        simp only [List.length_cons]
        omega
      · by_cases e : i = c
        · subst e
          exact hp
        · rw [← f i]
          exact a5 i h1 (by omega)
      · rw [← f (c' - 1)]
        exact a6
      · rw [wRl_c hp, ← fs]
        exact a7
      · rw [wRl_c hp, ← fs]
        simp only [List.length_cons] at a8
        omega
    · rw [if_neg hp] at B
      refine spq_ok (pc := 0) (fun i => match i with
        | 0 => pI h 6 1
        | _ => pI h 7 c) B (fun mi c h => nomatch h) (by omega) hLo (sA0_ok _) ⟨⟨rfl, by show 1 ≤ pI h 6 1; omega, b1.2⟩, ⟨e7, Int.le_refl _, Int.le_refl _⟩, trivial⟩ hi rfl (fun e he => nomatch he) ?_
      intro e0 he r' h' hp' hi' hm
      have e0 := List.mem_singleton.mp he
      subst e0
      have hr : r' = none := hp'.1
      subst hr
      refine hK (c + 1) h' hi' (hm.sub rfl) ((pI_md hm rfl).trans hc) (Nat.le_refl _) (fun i a b => by omega) (Or.inr hp) ?_ ?_
      · rw [wRl_n hp]
        exact hX.md hm rfl (fun _ => rfl)
      · rw [wRl_n hp]
theorem zRel {l : Launch} {Γ : zG} {d L : Nat} (hL : rL L) {h : zH} {c : Nat} (hi : sInv swC h) (hc : pI h 6 1 = (c : Int)) (hk : ∀ i, i < c → pI h 7 i ∈ kC) {b : Nat} {g : Nat → Int} {e : List Int} (hX : CX L b g e h) (hb : b + e.length + c ≤ 64 + c5 (stK (pI h 7) c)) {a : Int} (ha : a ∈ aC) {x : Int32} (hx : x.toInt = a) : zSem l Γ false (d + 3) (zhd 68) [.ref 6, .ref L, .int x] h (fun r h' => r = none ∧ sInv swC h' ∧ sMd (rlM L) h h' ∧ ∃ c', pI h' 6 1 = ((c' : Nat) : Int) ∧ c' ≤ c ∧ stK (pI h' 7) c' = wPop a (stK (pI h 7) c) ∧ CX L b g (wRl a (stK (pI h 7) c) e) h' ∧ b + (wRl a (stK (pI h 7) c) e).length + c' = b + e.length + c) := by
  obtain ⟨q1, q2⟩ := zallP_get _ zCodes_ok 68
  have c1 : (zCodes.get 68).1 = 68 := by decide +kernel
  rw [c1] at q1 q2
  have key : sTL [.inr (.inl 6), .inr (.inl L), sI1 a a] [.ref 6, .ref L, .int x] := ⟨_, _, rfl, rfl, _, _, rfl, rfl, _, _, rfl, ⟨x, rfl, by show a ≤ _; omega, by show _ ≤ a; omega⟩, rfl⟩
  refine zbody q2 (by rw [sslen_ok _ _ key]; show 3 ≤ (zhd 68).2.2.1; decide +kernel) ?_
  obtain ⟨ms1, ms2, ms3⟩ := rlM_s hL
  refine zRelF hL ha c h _ e (sslot_ok 0 _ _ key) hi hc hk hX hb (fun c' h' a1 a2 a3 a4 a5 a6 a7 a8 => ⟨rfl, a1, a2, c', a3, a4, ?_, a7, a8⟩)
  rw [pop_sK c c' a4 a5 a6]
  exact stK_eq c' (fun i _ => pI_md a2 (smem_q ms3 i))
/-! where an E stands -/
def LC (L b : Nat) (g : Nat → Int) (s : List Int) (o : Nat) (due nm : Bool) (cN : Nat) (e : List Int) (h : zH) : Prop := pI h 6 2 = (o : Int) ∧ pI h 6 3 = bN due ∧ pI h 6 4 = bN nm ∧ pI h L 2 = (cN : Int) ∧ c5 s = o ∧ cN ≤ 64 ∧ o ≤ 8 ∧ ∃ c, pI h 6 1 = ((c : Nat) : Int) ∧ s = stK (pI h 7) c ∧ (∀ i, i < c → pI h 7 i ∈ kC) ∧ b + e.length + c = cN + o ∧ CX L b g e h
def lcM (L : Nat) : sM := [(3, 8, 10), (6, 1, 5), (7, 0, 72), (L, 1, 3), (L + 1, 0, 64)]
def LCO (D : zD) (L b : Nat) (g : Nat → Int) (h0 : zH) (s : List Int) (o : Nat) (due nm : Bool) (cN : Nat) (e : List Int) (q : Nat) (r : Option Value) (h' : zH) : Prop := r = none ∧ sInv swC h' ∧ sMd (lcM L) h0 h' ∧ ∀ m KF KO, wSum D (m + 1) s o due nm cN e q KF KO → (∃ c p, KF c p ∧ 1 ≤ c ∧ c ≤ 5 ∧ fC c p h') ∨ (∃ s' o' due' nm' cN' e', wSum D m s' o' due' nm' cN' e' (qF D q) KF KO ∧ kF D q ≠ 0 ∧ pI h' 3 8 = 0 ∧ cTk D q h' ∧ LC L b g s' o' due' nm' cN' e' h')
def cfP : List sP0 := [(3, (none, 5), (0, 700))]
def cfR (c : Int) : sRt := (none, a1 [(3, 8, (c, c))], [(3, 9, 0, 0)])
theorem cfP_ok {h : zH} (hi : sInv swC h) : sPok (fun _ => pI h 3 5) h cfP 0 := by
  have g := hi.2.2.1 3 5
  rw [show sIv swC 3 5 = (0, 700) from by decide +kernel] at g
  exact ⟨⟨rfl, g.1, g.2⟩, trivial⟩
theorem cfR_ok {h h' : zH} {c : Int} {r : Option Value} (hp : sRp (fun _ => pI h 3 5) (cfR c) r h') : r = none ∧ fC c (pI h 3 5) h' := by
  obtain ⟨p1, p2, p3⟩ := hp
  have q1 : c ≤ pI h' 3 8 ∧ pI h' 3 8 ≤ c := p2.1 (3, 8, (c, c)) List.mem_cons_self
  have q2 : pI h' 3 9 = pI h 3 5 + 0 := p3 (3, 9, 0, 0) List.mem_cons_self
  exact ⟨p1, by omega, by omega⟩
theorem cTk.mdo {D : zD} {q : Nat} {h h' : zH} {md : sM} (hT : cTk D q h) (hm : sMd md h h') (h1 : md.all (fun t => !(t.1 == 1)) = true) (h3 : ∀ j, j < 10 → smem md 3 j = false) : cTk D q h' := by
  obtain ⟨t, u1, u2, u3, u4, u5⟩ := hT
  exact ⟨t.md hm h1 (h3 1 (by decide)) (h3 2 (by decide)) (h3 3 (by decide)) (h3 8 (by decide)) (h3 9 (by decide)), u1, (pI_md hm (h3 4 (by decide))).trans u2, (pI_md hm (h3 5 (by decide))).trans u3, fun e => (pI_md hm (h3 6 (by decide))).trans (u4 e), fun e => (pI_md hm (h3 7 (by decide))).trans (u5 e)⟩
def oA (L : Nat) : List sT := [.inr (.inl 6), .inr (.inl 3), .inr (.inl L)]
def oMf (L : Nat) : sM := [(3, 8, 10), (6, 1, 2), (6, 3, 4), (7, 0, 72), (L, 1, 3), (L + 1, 0, 64)]
def oFa (L : Nat) : List (Int × sAs) := [(2, a1 [(3, 8, (0, 0)), (3, 4, (5, 5)), (6, 2, (8, 8))]), (2, a1 [(3, 8, (0, 0)), (3, 4, (28, 28)), (6, 4, (1, 1)), (L, 2, (64, 64))]), (2, a1 [(3, 8, (0, 0)), (3, 4, (3, 3)), (3, 7, (10000, 10000000))]), (2, a1 [(3, 8, (0, 0)), (3, 4, (3, 3)), (3, 7, (0, 9999)), (L, 2, (64, 64))]), (2, a1 [(3, 8, (0, 0)), (3, 4, (21, 27)), (L, 2, (64, 64))]), (1, a1 [(3, 8, (0, 0)), (3, 4, (0, 2))]), (1, a1 [(3, 8, (0, 0)), (3, 4, (4, 4))]), (1, a1 [(3, 8, (0, 0)), (3, 4, (6, 20))]), (1, a1 [(3, 8, (0, 0)), (3, 4, (28, 28)), (6, 4, (0, 0))]), (1, a1 [(3, 8, (0, 0)), (3, 4, (29, 63))])]
theorem oF : LLs.all (fun L => (oFa L).all (fun t => spmB swC sT0 (oMf L) 400 3 62 [] (oA L) t.2 cfP [] [cfR t.1])) = true := by decide +kernel
theorem o2 : LLs.all (fun L => (List.range 72).all (fun c => spmB swC sT0 [(6, 1, 3), (6, 4, 5), (7, c, c + 1)] 400 3 62 [] (oA L) (a1 [(3, 4, (5, 5)), (6, 1, ((c : Int), (c : Int)))]) [(6, (none, 2), (0, 7))] [] [(none, a1 [(6, 1, ((c : Int) + 1, (c : Int) + 1)), (7, c, (5, 5)), (6, 4, (1, 1))], [(6, 2, 0, 1)])])) = true := by decide +kernel
theorem o4 : LLs.all (fun L => (List.range 72).all (fun c => spmB swC sT0 [(L, 2, 3), (6, 1, 2), (7, c, c + 1)] 400 3 62 [] (oA L) (a1 [(3, 4, (28, 28)), (6, 4, (1, 1)), (6, 1, ((c : Int), (c : Int)))]) [(L, (none, 2), (0, 63))] [] [(none, a1 [(6, 1, ((c : Int) + 1, (c : Int) + 1)), (7, c, (28, 28))], [(L, 2, 0, 1)])])) = true := by decide +kernel
theorem LCpush {L : Nat} {h h3 : zH} {c : Nat} {t : Int} (ht : t ∈ kC) (hk : ∀ i, i < c → pI h 7 i ∈ kC) (k7 : ∀ i, i < c → pI h3 7 i = pI h 7 i) (kc : pI h3 7 c = t) : stK (pI h3 7) (c + 1) = t :: stK (pI h 7) c ∧ (∀ i, i < c + 1 → pI h3 7 i ∈ kC) := by
  refine ⟨?_, fun i hi => ?_⟩
  · show pI h3 7 c :: stK (pI h3 7) c = _
    rw [kc, stK_eq c k7]
  · by_cases e : i = c
    · rw [e, kc]
      exact ht
    · rw [k7 i (by omega)]
      exact hk i (by omega)
theorem smem3 {md : sM} {q j : Nat} {a b : Nat} : smem ((q, a, b) :: md) q j = true ↔ (a ≤ j ∧ j < b) ∨ smem md q j = true := by
  simp only [smem, List.any_cons, Bool.or_eq_true, Bool.and_eq_true, beq_iff_eq, decide_eq_true_eq, true_and]
theorem zopF {l : Launch} {Γ : zG} {d L : Nat} (hL : rL L) {D : zD} {h : zH} {b : Nat} {g : Nat → Int} {s e : List Int} {o cN q : Nat} {nm : Bool} (hi : sInv swC h) (hT : cTk D q h) (h0 : pI h 3 8 = 0) (hS : LC L b g s o true nm cN e h) : zSem l Γ false (d + 4) (zhd 62) [.ref 6, .ref 3, .ref L] h (LCO D L b g h s o true nm cN e q) := by
  obtain ⟨e2, e3, e4, eL, e5, bc, bo, c, e1, es, hk, hle, hX⟩ := hS
  have c5l := c5_le (pI h 7) c
  rw [← es, e5] at c5l
  have L6 : L ≠ 6 ∧ L ≠ 7 ∧ L ≠ 3 ∧ L ≠ 1 := by rcases hL with rfl | rfl <;> decide
  have L7 : 19 < L := by rcases hL with rfl | rfl <;> decide
  have tk := hT.2.2.1
  have t5 := hT.2.2.2.1
  have t7 := hT.2.2.2.2.2
  have kb := kF_bd hT.2.1
  have hs : sTL (oA L) [.ref 6, .ref 3, .ref L] := ⟨_, _, rfl, rfl, _, _, rfl, rfl, _, _, rfl, rfl, rfl⟩
  have vb := vF_bd D q
  have fl : ∀ (c0 : Int) (A : sAs), (c0, A) ∈ oFa L → 1 ≤ c0 → c0 ≤ 5 → sAok A h → (∀ m KF KO, wSum D (m + 1) s o true nm cN e q KF KO → KF c0 q) → zSem l Γ false (d + 4) (zhd 62) [.ref 6, .ref 3, .ref L] h (LCO D L b g h s o true nm cN e q) := fun c0 A hA b1 b2 ok hw => by
    refine spm_ok (fun _ => pI h 3 5) (List.all_eq_true.mp (List.all_eq_true.mp oF L (rL_in hL)) _ hA) (fun mi c h => nomatch h) (by omega) hs ok (cfP_ok hi) hi (fun e he => nomatch he) ?_
    intro e0 he r' h' hp hi' hm
    have e0 := List.mem_singleton.mp he
    subst e0
    obtain ⟨hr, hf⟩ := cfR_ok hp
    refine ⟨hr, hi', sMd.sub hm ?_, fun m KF KO g => Or.inl ⟨c0, q, hw m KF KO g, b1, b2, by rw [← t5]; exact hf⟩⟩
    rcases hL with rfl | rfl <;> rfl
  have md3 : ∀ {md : sM}, md.all (fun t => !(t.1 == 3)) = true → ∀ j, j < 10 → smem md 3 j = false := fun hb j _ => smem_q hb j
  by_cases h5 : kF D q = 5
  · by_cases ho : o = 8
    · refine fl 2 _ List.mem_cons_self (by decide) (by decide) (sAok.of (iB (by omega) (by omega) (iB (by omega) (by omega) (iB (by omega) (by omega) iE)))) (fun m KF KO g => ?_)
      rw [wSum, if_pos rfl, if_pos h5, if_pos ho] at g
      exact g
    · refine spm_ok (fun _ => pI h 6 2) (List.all_eq_true.mp (List.all_eq_true.mp o2 L (rL_in hL)) c (List.mem_range.mpr (by omega))) (fun mi c h => nomatch h) (by omega) hs (sAok.of (iB (by omega) (by omega) (iB (by omega) (by omega) iE))) ⟨⟨rfl, by show 0 ≤ pI h 6 2; omega, by show pI h 6 2 ≤ 7; omega⟩, trivial⟩ hi (fun e he => nomatch he) ?_
      intro e0 he r' h' hp hi' hm
      have e0 := List.mem_singleton.mp he
      subst e0
      obtain ⟨p1, p2, p3⟩ := hp
      have q1 : (c : Int) + 1 ≤ pI h' 6 1 ∧ pI h' 6 1 ≤ (c : Int) + 1 := p2.1 (6, 1, ((c : Int) + 1, (c : Int) + 1)) List.mem_cons_self
      have q2 : 5 ≤ pI h' 7 c ∧ pI h' 7 c ≤ 5 := p2.1 (7, c, (5, 5)) (List.mem_cons_of_mem _ List.mem_cons_self)
      have q3 : 1 ≤ pI h' 6 4 ∧ pI h' 6 4 ≤ 1 := p2.1 (6, 4, (1, 1)) (List.mem_cons_of_mem _ (List.mem_cons_of_mem _ List.mem_cons_self))
      have q4 : pI h' 6 2 = pI h 6 2 + 1 := p3 (6, 2, 0, 1) List.mem_cons_self
      have off : ∀ i, i ≠ c → smem [(6, 1, 3), (6, 4, 5), (7, c, c + 1)] 7 i = false := fun i hne => by
        cases hb : smem [(6, 1, 3), (6, 4, 5), (7, c, c + 1)] 7 i with
        | false => rfl
        | true =>
          simp only [smem, List.any_cons, List.any_nil, Bool.or_eq_true, Bool.and_eq_true, beq_iff_eq, decide_eq_true_eq, Bool.or_false] at hb
          omega
      have P := LCpush (L := L) (h3 := h') (t := 5) (by decide) hk (fun i hlt => pI_md hm (off i (by omega))) (by omega)
      refine ⟨p1, hi', ?_, fun m KF KO g => Or.inr ⟨5 :: s, o + 1, true, true, cN, e, ?_, by omega, (pI_md hm rfl).trans h0, hT.mdo hm rfl (md3 rfl), ⟨by omega, (pI_md hm rfl).trans e3, by show pI h' 6 4 = 1; omega, ?_, by show 1 + c5 s = o + 1; omega, bc, by omega, c + 1, by omega, by rw [P.1, es], P.2, by omega, hX.md hm (by rcases hL with rfl | rfl <;> rfl) (fun i => by rcases hL with rfl | rfl <;> rfl)⟩⟩⟩
      · refine sMd.rf.tr hm (fun a b hb => ?_)
        obtain ⟨t, ht, hc⟩ := List.any_eq_true.mp hb
        simp only [List.mem_cons, List.not_mem_nil, or_false] at ht
        simp only [Bool.and_eq_true, beq_iff_eq, decide_eq_true_eq] at hc
        rcases ht with rfl | rfl | rfl
        · exact List.any_eq_true.mpr ⟨(6, 1, 5), List.mem_cons_of_mem _ List.mem_cons_self, by
            simp only [Bool.and_eq_true, beq_iff_eq, decide_eq_true_eq]
            simp only at hc
            exact ⟨hc.1, by omega, by omega⟩⟩
        · exact List.any_eq_true.mpr ⟨(6, 1, 5), List.mem_cons_of_mem _ List.mem_cons_self, by
            simp only [Bool.and_eq_true, beq_iff_eq, decide_eq_true_eq]
            simp only at hc
            exact ⟨hc.1, by omega, by omega⟩⟩
        · exact List.any_eq_true.mpr ⟨(7, 0, 72), List.mem_cons_of_mem _ (List.mem_cons_of_mem _ List.mem_cons_self), by
            simp only [Bool.and_eq_true, beq_iff_eq, decide_eq_true_eq]
            simp only at hc
            exact ⟨hc.1, by omega, by omega⟩⟩
      · rw [wSum, if_pos rfl, if_pos h5, if_neg ho] at g
        exact g
      · rw [pI_md hm (by rcases hL with rfl | rfl <;> rfl)]
        exact eL
  by_cases h28 : kF D q = 28 ∧ nm = true
  · have n4 : pI h 6 4 = 1 := by rw [e4, h28.2]; rfl
    by_cases hc : cN = 64
    · refine fl 2 _ (List.mem_cons_of_mem _ List.mem_cons_self) (by decide) (by decide) (sAok.of (iB (by omega) (by omega) (iB (by omega) (by omega) (iB (by omega) (by omega) (iB (by omega) (by omega) iE))))) (fun m KF KO g => ?_)
      rw [wSum, if_pos rfl, if_neg h5, if_pos h28, if_pos hc] at g
      exact g
    · refine spm_ok (fun _ => pI h L 2) (List.all_eq_true.mp (List.all_eq_true.mp o4 L (rL_in hL)) c (List.mem_range.mpr (by omega))) (fun mi c h => nomatch h) (by omega) hs (sAok.of (iB (by omega) (by omega) (iB (by omega) (by omega) (iB (by omega) (by omega) iE)))) ⟨⟨rfl, by show 0 ≤ pI h L 2; omega, by show pI h L 2 ≤ 63; omega⟩, trivial⟩ hi (fun e he => nomatch he) ?_
      intro e0 he r' h' hp hi' hm
      have e0 := List.mem_singleton.mp he
      subst e0
      obtain ⟨p1, p2, p3⟩ := hp
      have q1 : (c : Int) + 1 ≤ pI h' 6 1 ∧ pI h' 6 1 ≤ (c : Int) + 1 := p2.1 (6, 1, ((c : Int) + 1, (c : Int) + 1)) List.mem_cons_self
      have q2 : 28 ≤ pI h' 7 c ∧ pI h' 7 c ≤ 28 := p2.1 (7, c, (28, 28)) (List.mem_cons_of_mem _ List.mem_cons_self)
      have q4 : pI h' L 2 = pI h L 2 + 1 := p3 (L, 2, 0, 1) List.mem_cons_self
      have L7 : L ≠ 7 ∧ L ≠ 6 ∧ L ≠ 3 ∧ L ≠ 1 := by rcases hL with rfl | rfl <;> decide
      have off : ∀ a i, ¬ ((a = L ∧ i = 2) ∨ (a = 6 ∧ i = 1) ∨ (a = 7 ∧ i = c)) → smem [(L, 2, 3), (6, 1, 2), (7, c, c + 1)] a i = false := fun a i hne => by
        cases hb : smem [(L, 2, 3), (6, 1, 2), (7, c, c + 1)] a i with
        | false => rfl
        | true =>
          simp only [smem, List.any_cons, List.any_nil, Bool.or_eq_true, Bool.and_eq_true, beq_iff_eq, decide_eq_true_eq, Bool.or_false] at hb
          omega
      have P := LCpush (L := L) (h3 := h') (t := 28) (by decide) hk (fun i hlt => pI_md hm (off 7 i (by omega))) (by omega)
      refine ⟨p1, hi', ?_, fun m KF KO g => Or.inr ⟨28 :: s, o, true, nm, cN + 1, e, ?_, by omega, (pI_md hm (off 3 8 (by omega))).trans h0, hT.mdo hm ?_ (fun j _ => off 3 j (by omega)), ⟨(pI_md hm (off 6 2 (by omega))).trans e2, (pI_md hm (off 6 3 (by omega))).trans e3, (pI_md hm (off 6 4 (by omega))).trans e4, by omega, by show 0 + c5 s = o; omega, by omega, by omega, c + 1, by omega, by rw [P.1, es], P.2, by omega, hX.md hm (off L 1 (by omega)) (fun i => off (L + 1) i (by omega))⟩⟩⟩
      · refine sMd.rf.tr hm (fun a b hb => ?_)
        obtain ⟨t, ht, hc⟩ := List.any_eq_true.mp hb
        simp only [List.mem_cons, List.not_mem_nil, or_false] at ht
        simp only [Bool.and_eq_true, beq_iff_eq, decide_eq_true_eq] at hc
        rcases ht with rfl | rfl | rfl
        · exact List.any_eq_true.mpr ⟨(L, 1, 3), List.mem_cons_of_mem _ (List.mem_cons_of_mem _ (List.mem_cons_of_mem _ List.mem_cons_self)), by
            simp only [Bool.and_eq_true, beq_iff_eq, decide_eq_true_eq]
            simp only at hc
            exact ⟨hc.1, by omega, by omega⟩⟩
        · exact List.any_eq_true.mpr ⟨(6, 1, 5), List.mem_cons_of_mem _ List.mem_cons_self, by
            simp only [Bool.and_eq_true, beq_iff_eq, decide_eq_true_eq]
            simp only at hc
            exact ⟨hc.1, by omega, by omega⟩⟩
        · exact List.any_eq_true.mpr ⟨(7, 0, 72), List.mem_cons_of_mem _ (List.mem_cons_of_mem _ List.mem_cons_self), by
            simp only [Bool.and_eq_true, beq_iff_eq, decide_eq_true_eq]
            simp only at hc
            exact ⟨hc.1, by omega, by omega⟩⟩
      · rw [wSum, if_pos rfl, if_neg h5, if_pos h28, if_neg hc] at g
        exact g
      · rcases hL with rfl | rfl <;> rfl
  have leaf : ∀ (x : Int), (∀ {Kp : Option Value → zH → Prop}, (∀ (lo' : zL) (h' : zH) (y0 : Int32) (p : Nat), p = 77 ∨ p = 109 → sInv swC h' → sMd [(L, 2, 3)] h h' → pI h' L 2 = (cN : Int) + 1 → zget lo' 0 = some (.ref 6) → y0.toInt = x → zX l Γ false (d + 4) (zhd 62) (zMQ' Γ false (zhd 62) Kp) 0 0 p lo' [.int y0, .ref L] h') → zSem l Γ false (d + 4) (zhd 62) [.ref 6, .ref 3, .ref L] h Kp) → cN ≠ 64 → kF D q ≠ 0 → (∀ m KF KO, wSum D (m + 1) s o true nm cN e q KF KO → wSum D m s o false nm (cN + 1) (x :: e) (qF D q) KF KO) → zSem l Γ false (d + 4) (zhd 62) [.ref 6, .ref 3, .ref L] h (LCO D L b g h s o true nm cN e q) := fun x hrun hc hq0 hw => by
    refine hrun (fun lo1 h1 y0 p hp hi1 hm1 q4 l0 hy => ?_)
    have hlt : b + e.length < 64 := by omega
    have X1 := hX.md hm1 (smem1n (by omega)) (fun i => smem1n (by omega))
    have zv : zcvB 62 p 6 1 66 = true := by rcases hp with rfl | rfl <;> decide +kernel
    refine zcallR (as := [.int y0]) (rest := []) (q0 := L) zv rfl (by decide) (by rw [hi1.1]; rcases hL with rfl | rfl <;> rfl) ?_
    refine (zAd66 (d := d + 1) hL hi1 (v := y0) (n := b + e.length) X1.1 hlt).mono ?_
    rintro rr h2 ⟨rfl, hi2, hm2, n1, n2⟩
    have offL : ∀ q i, ¬ ((q = L ∧ i = 1) ∨ (q = L + 1 ∧ i = b + e.length)) → smem [(L, 1, 2), (L + 1, b + e.length, b + e.length + 1)] q i = false := fun q i hne => by
      cases hb : smem [(L, 1, 2), (L + 1, b + e.length, b + e.length + 1)] q i with
      | false => rfl
      | true =>
        simp only [smem, List.any_cons, List.any_nil, Bool.or_eq_true, Bool.and_eq_true, beq_iff_eq, decide_eq_true_eq, Bool.or_false] at hb
        omega
    have X2 : CX L b g (x :: e) h2 := X1.add (by rw [X1.1]; exact n1) (n2.trans hy) (fun i hne => pI_md hm2 (offL _ i (by omega)))
    have fin : ∀ h', sInv swC h' → sMd [(6, 3, 4)] h2 h' → pI h' 6 3 = 0 → LCO D L b g h s o true nm cN e q none h' := fun h' hi' hm' f3 => by
      have tr : ∀ a i, a ≠ L → a ≠ L + 1 → ¬ (a = 6 ∧ i = 3) → pI h' a i = pI h a i := fun a i h1 h2 h3 => by
        rw [pI_md hm' (smem1n (by omega)), pI_md hm2 (offL a i (by omega)), pI_md hm1 (smem1n (by omega))]
      have cL : pI h' L 2 = (cN : Int) + 1 := by
        rw [pI_md hm' (smem1n (by omega)), pI_md hm2 (offL L 2 (by omega))]
        exact q4
      refine ⟨rfl, hi', (((hm1.sub ?_).seq (sMd.sub hm2 ?_)).seq (hm'.sub ?_)), fun m KF KO gw => Or.inr ⟨s, o, false, nm, cN + 1, x :: e, hw m KF KO gw, hq0, (tr 3 8 (by omega) (by omega) (by omega)).trans h0, ((hT.mdo hm1 (by rcases hL with rfl | rfl <;> rfl) (fun j _ => smem1n (by omega))).mdo hm2 ?_ (fun j _ => offL 3 j (by omega))).mdo hm' rfl (fun j _ => by exact smem1n (by omega)), ⟨(tr 6 2 (by omega) (by omega) (by omega)).trans e2, f3, (tr 6 4 (by omega) (by omega) (by omega)).trans e4, by omega, e5, by omega, bo, c, (tr 6 1 (by omega) (by omega) (by omega)).trans e1, ?_, fun i hlt => by rw [tr 7 i (by omega) (by omega) (by omega)]; exact hk i hlt, by simp only [List.length_cons]; omega, X2.md hm' (smem1n (by omega)) (fun i => smem1n (by omega))⟩⟩⟩
      · rcases hL with rfl | rfl <;> rfl
      · have : (List.range 64).all (fun n => ssubB [(L, 1, 2), (L + 1, n, n + 1)] (lcM L)) = true := by rcases hL with rfl | rfl <;> decide +kernel
        exact List.all_eq_true.mp this _ (List.mem_range.mpr hlt)
      · rcases hL with rfl | rfl <;> rfl
      · simp only [List.all_cons, List.all_nil, Bool.and_true, Bool.and_eq_true, Bool.not_eq_true', beq_eq_false_iff_ne]
        omega
      · rw [es]
        exact (stK_eq c (fun i _ => tr 7 i (by omega) (by omega) (by omega))).symm
    rcases hp with rfl | rfl
    · exact lwnv (d := d + 3) (by omega) hi2 l0 (fun h' a1 a2 a3 => fin h' a1 a2 a3)
    · exact lwnw (d := d + 3) (by omega) hi2 l0 (fun h' a1 a2 a3 => fin h' a1 a2 a3)
  by_cases h3 : kF D q = 3
  · have t7 := t7 h3
    by_cases hv : 9999 < vF D q
    · refine fl 2 _ (List.mem_cons_of_mem _ (List.mem_cons_of_mem _ List.mem_cons_self)) (by decide) (by decide) (sAok.of (iB (by omega) (by omega) (iB (by omega) (by omega) (iB (by omega) (by omega) iE)))) (fun m KF KO g => ?_)
      rw [wSum, if_pos rfl, if_neg h5, if_neg h28, if_pos h3, if_pos hv] at g
      exact g
    by_cases hc : cN = 64
    · refine fl 2 _ (List.mem_cons_of_mem _ (List.mem_cons_of_mem _ (List.mem_cons_of_mem _ List.mem_cons_self))) (by decide) (by decide) (sAok.of (iB (by omega) (by omega) (iB (by omega) (by omega) (iB (by omega) (by omega) (iB (by omega) (by omega) iE))))) (fun m KF KO g => ?_)
      rw [wSum, if_pos rfl, if_neg h5, if_neg h28, if_pos h3, if_neg hv, if_pos hc] at g
      exact g
    · refine leaf (vF D q) (fun hK => ?_) hc (by omega) (fun m KF KO g => ?_)
      · rcases hL with rfl | rfl
        · exact lwnu (d := d + 3) (by omega) (t := 0) (by decide) hi ⟨by omega, by omega⟩ ⟨by omega, by omega⟩ (by omega) t7 eL (fun lo' h' y0 a1 a2 a3 a4 a5 => hK lo' h' y0 77 (Or.inl rfl) a1 a2 a3 a4 a5)
        · exact lwnu (d := d + 3) (by omega) (t := 1) (by decide) hi ⟨by omega, by omega⟩ ⟨by omega, by omega⟩ (by omega) t7 eL (fun lo' h' y0 a1 a2 a3 a4 a5 => hK lo' h' y0 77 (Or.inl rfl) a1 a2 a3 a4 a5)
      rw [wSum, if_pos rfl, if_neg h5, if_neg h28, if_pos h3, if_neg hv, if_neg hc] at g
      exact g
  by_cases hn : 21 ≤ kF D q ∧ kF D q ≤ 27
  · by_cases hc : cN = 64
    · refine fl 2 _ (List.mem_cons_of_mem _ (List.mem_cons_of_mem _ (List.mem_cons_of_mem _ (List.mem_cons_of_mem _ List.mem_cons_self)))) (by decide) (by decide) (sAok.of (iB (by omega) (by omega) (iB (by omega) (by omega) (iB (by omega) (by omega) iE)))) (fun m KF KO g => ?_)
      rw [wSum, if_pos rfl, if_neg h5, if_neg h28, if_neg h3, if_pos hn, if_pos hc] at g
      exact g
    · obtain ⟨p, ep⟩ : ∃ p : Nat, kF D q = (p : Int) + 21 := ⟨(kF D q - 21).toNat, by omega⟩
      refine leaf (-kF D q) (fun hK => ?_) hc (by omega) (fun m KF KO g => ?_)
      · rcases hL with rfl | rfl
        · exact lwna (d := d + 3) (by omega) (p := p) (by omega) (t := 0) (by decide) hi (kn := (cN : Int)) ⟨by omega, by omega⟩ (by omega) eL (fun lo' h' y0 a1 a2 a3 a4 a5 => hK lo' h' y0 109 (Or.inr rfl) a1 a2 a3 a4 (by omega))
        · exact lwna (d := d + 3) (by omega) (p := p) (by omega) (t := 1) (by decide) hi (kn := (cN : Int)) ⟨by omega, by omega⟩ (by omega) eL (fun lo' h' y0 a1 a2 a3 a4 a5 => hK lo' h' y0 109 (Or.inr rfl) a1 a2 a3 a4 (by omega))
      rw [wSum, if_pos rfl, if_neg h5, if_neg h28, if_neg h3, if_pos hn, if_neg hc] at g
      exact g
  · have hw : ∀ m KF KO, wSum D (m + 1) s o true nm cN e q KF KO → KF 1 q := fun m KF KO g => by
      rw [wSum, if_pos rfl, if_neg h5, if_neg h28, if_neg h3, if_neg hn] at g
      exact g
    have n4 : kF D q = 28 → pI h 6 4 = 0 := fun e => by
      rw [e4]
      cases nm with
      | false => rfl
      | true => exact absurd ⟨e, rfl⟩ h28
    have mem : ∀ A, A ∈ [a1 [(3, 8, (0, 0)), (3, 4, (0, 2))], a1 [(3, 8, (0, 0)), (3, 4, (4, 4))], a1 [(3, 8, (0, 0)), (3, 4, (6, 20))], a1 [(3, 8, (0, 0)), (3, 4, (28, 28)), (6, 4, (0, 0))], a1 [(3, 8, (0, 0)), (3, 4, (29, 63))]] → (1, A) ∈ oFa L := fun A hA => by
      simp only [List.mem_cons, List.not_mem_nil, or_false] at hA
      unfold oFa
      rcases hA with rfl | rfl | rfl | rfl | rfl <;> simp only [List.mem_cons, true_or, or_true]
    by_cases k0 : kF D q ≤ 2
    · exact fl 1 _ (mem (a1 [(3, 8, (0, 0)), (3, 4, (0, 2))]) (by decide)) (by decide) (by decide) (sAok.of (iB (by omega) (by omega) (iB (by omega) (by omega) iE))) hw
    by_cases k1 : kF D q = 4
    · exact fl 1 _ (mem (a1 [(3, 8, (0, 0)), (3, 4, (4, 4))]) (by decide)) (by decide) (by decide) (sAok.of (iB (by omega) (by omega) (iB (by omega) (by omega) iE))) hw
    by_cases k2 : kF D q ≤ 20
    · exact fl 1 _ (mem (a1 [(3, 8, (0, 0)), (3, 4, (6, 20))]) (by decide)) (by decide) (by decide) (sAok.of (iB (by omega) (by omega) (iB (by omega) (by omega) iE))) hw
    by_cases k3 : kF D q = 28
    · have := n4 k3
      exact fl 1 _ (mem (a1 [(3, 8, (0, 0)), (3, 4, (28, 28)), (6, 4, (0, 0))]) (by decide)) (by decide) (by decide) (sAok.of (iB (by omega) (by omega) (iB (by omega) (by omega) (iB (by omega) (by omega) iE)))) hw
    · exact fl 1 _ (mem (a1 [(3, 8, (0, 0)), (3, 4, (29, 63))]) (by decide)) (by decide) (by decide) (sAok.of (iB (by omega) (by omega) (iB (by omega) (by omega) iE))) hw
