/-! the reference's text: what its stacks hold -/
def pI (h : zH) (q j : Nat) : Int := (h.2.1 q j).toInt
theorem pI_md {md : sM} {h h' : zH} (hm : sMd md h h') {q j : Nat} (hb : smem md q j = false) : pI h' q j = pI h q j := by
  unfold pI
  rw [(hm q j hb).1]
theorem smem_q {md : sM} {q : Nat} (hb : md.all (fun t => !(t.1 == q)) = true) (j : Nat) : smem md q j = false := by
  cases hc : smem md q j with
  | false => rfl
  | true =>
    obtain ⟨t, ht, h1⟩ := List.any_eq_true.mp hc
    have h2 := List.all_eq_true.mp hb t ht
    simp only [Bool.and_eq_true] at h1
    rw [h1.1] at h2
    cases h2
theorem pbd {h : zH} (hi : sInv swM h) {q k : Nat} {iv : Int × Int} (e : sIv swM q k = iv) : iv.1 ≤ pI h q k ∧ pI h q k ≤ iv.2 := by
  rw [← e]
  exact hi.2.2.1 q k
theorem sAok.add {L : List (Nat × Nat × (Int × Int))} {A : sAs} {h : zH} (hL : ∀ t ∈ L, sPlP h t) (hA : sAok A h) : sAok (tkP L A) h := ⟨fun t ht => (List.mem_append.mp ht).elim (hL t) (hA.1 t), hA.2⟩
theorem sAok.rest {L : List (Nat × Nat × (Int × Int))} {A : sAs} {h : zH} (hA : sAok (tkP L A) h) : (∀ t ∈ L, sPlP h t) ∧ sAok A h := ⟨fun t ht => hA.1 t (List.mem_append_left _ ht), ⟨fun t ht => hA.1 t (List.mem_append_right _ ht), hA.2⟩⟩
theorem tkK_D {h : zH} (hA : sAok tkK h) : sAok tkD h := ⟨hA.1, hA.2.1, hA.2.2.1, Or.inl rfl⟩
theorem sAok.of {L : List (Nat × Nat × (Int × Int))} {h : zH} (hL : ∀ t ∈ L, sPlP h t) : sAok (L, [], [], []) h := ⟨hL, (fun _ h => nomatch h), (fun _ h => nomatch h), Or.inl rfl⟩
theorem sA0_ok (h : zH) : sAok sA0 h := sAok.of (fun _ h => nomatch h)
def sAfr (md : sM) (A : sAs) : Bool := A.1.all (fun t => !smem md t.1 t.2.1) && (A.2.1.isEmpty && (A.2.2.1.all (fun t => !smem md t.1 t.2.1 && !smem md t.2.2.1 t.2.2.2.1) && A.2.2.2.all (fun L => L.all (fun t => !smem md t.1 t.2.1))))
theorem sPlP.md {md : sM} {h h' : zH} {t : Nat × Nat × (Int × Int)} (hp : sPlP h t) (hm : sMd md h h') (hb : (!smem md t.1 t.2.1) = true) : sPlP h' t := by
  have e := (hm t.1 t.2.1 (by simpa using hb)).1
  unfold sPlP
  rw [e]
  exact hp
theorem sAok.md {md : sM} {A : sAs} {h h' : zH} (hA : sAok A h) (hm : sMd md h h') (hb : sAfr md A = true) : sAok A h' := by
  simp only [sAfr, Bool.and_eq_true] at hb
  obtain ⟨b1, b2, b3, b4⟩ := hb
  refine ⟨fun t ht => sPlP.md (hA.1 t ht) hm (List.all_eq_true.mp b1 t ht), fun t ht => ?_, fun t ht => ?_, ?_⟩
  · rw [List.isEmpty_iff.mp b2] at ht
    cases ht
  · have h1 := List.all_eq_true.mp b3 t ht
    simp only [Bool.and_eq_true, Bool.not_eq_true'] at h1
    rw [(hm _ _ h1.1).1, (hm _ _ h1.2).1]
    exact hA.2.2.1 t ht
  · rcases hA.2.2.2 with e | ⟨L, hL, h1⟩
    · exact Or.inl e
    · exact Or.inr ⟨L, hL, fun t ht => sPlP.md (h1 t ht) hm (List.all_eq_true.mp (List.all_eq_true.mp b4 L hL) t ht)⟩
def ssubB (md' md : sM) : Bool := md'.all (fun t => md.any (fun u => u.1 == t.1 && (decide (u.2.1 ≤ t.2.1) && decide (t.2.2 ≤ u.2.2))))
theorem smd_sub {md' md : sM} (hb : ssubB md' md = true) : ∀ q k, smem md' q k = true → smem md q k = true := fun q k hq => by
  obtain ⟨t, ht, hc⟩ := List.any_eq_true.mp hq
  obtain ⟨u, hu, hc2⟩ := List.any_eq_true.mp (List.all_eq_true.mp hb _ ht)
  refine List.any_eq_true.mpr ⟨u, hu, ?_⟩
  simp only [Bool.and_eq_true, beq_iff_eq, decide_eq_true_eq] at hc hc2 ⊢
  exact ⟨by omega, by omega, by omega⟩
theorem sMd.sub {md' md : sM} {h h' : zH} (hm : sMd md' h h') (hb : ssubB md' md = true) : sMd md h h' := sMd.rf.tr hm (smd_sub hb)
theorem sMd.seq {md : sM} {h h1 h2 : zH} (a : sMd md h h1) (b : sMd md h1 h2) : sMd md h h2 := a.tr b (fun _ _ h => h)
/-! knots: the rows of the two halves -/
def pRow (h : zH) (i : Nat) : Prop := (pI h 22 i = 1 → 0 ≤ pI h 23 i ∧ pI h 23 i ≤ 6) ∧ (2 ≤ pI h 22 i → pI h 22 i ≤ 14 → 0 ≤ pI h 23 i ∧ pI h 23 i ≤ 63) ∧ (3 ≤ pI h 22 i → pI h 22 i ≤ 14 → 0 ≤ pI h 24 i ∧ pI h 24 i ≤ 63)
def pLaw (h : zH) (j : Nat) : Prop := pI h 19 j = 1 → 1 ≤ pI h 21 j ∧ pI h 21 j ≤ 64
theorem swM_imp (m : sIm) : m ∈ swM.2.2.2.2.1 ↔ m = (22, 23, 0, (1, 1), (0, 6), 128, 1) ∨ m = (22, 23, 0, (2, 14), (0, 63), 128, 1) ∨ m = (22, 24, 0, (3, 14), (0, 63), 128, 1) ∨ m = (19, 21, 0, (1, 1), (1, 64), 3, 1) ∨ m = (39, 39, 1, (0, 99), (0, 7), 96, 4) := by
  simp only [swM, List.mem_cons, List.not_mem_nil, or_false]
theorem sto {h : zH} (hi : sInv swM h) : sInv swMt h ∧ (∀ i, i < 128 → pRow h i) ∧ ∀ j, j < 3 → pLaw h j := by
  have g1 := hi.2.2.2 _ ((swM_imp _).mpr (Or.inl rfl))
  have g2 := hi.2.2.2 _ ((swM_imp _).mpr (Or.inr (Or.inl rfl)))
  have g3 := hi.2.2.2 _ ((swM_imp _).mpr (Or.inr (Or.inr (Or.inl rfl))))
  have g4 := hi.2.2.2 _ ((swM_imp _).mpr (Or.inr (Or.inr (Or.inr (Or.inl rfl)))))
  refine ⟨⟨hi.1, hi.2.1, hi.2.2.1, fun m hm => hi.2.2.2 m ((swM_imp m).mpr (Or.inr (Or.inr (Or.inr (Or.inr (List.mem_singleton.mp hm))))))⟩, fun i hlt => ⟨fun e => ?_, fun a b => ?_, fun a b => ?_⟩, fun j hlt e => ?_⟩
  · exact g1 i hlt (Nat.mod_one i) (by show 1 ≤ pI h 22 i; omega) (by show pI h 22 i ≤ 1; omega)
  · exact g2 i hlt (Nat.mod_one i) a b
  · exact g3 i hlt (Nat.mod_one i) a b
  · exact g4 j hlt (Nat.mod_one j) (by show 1 ≤ pI h 19 j; omega) (by show pI h 19 j ≤ 1; omega)
theorem sof {h : zH} (hi : sInv swMt h) (hr : ∀ i, i < 128 → pRow h i) (hl : ∀ j, j < 3 → pLaw h j) : sInv swM h := by
  refine ⟨hi.1, hi.2.1, hi.2.2.1, fun m hm => ?_⟩
  rcases (swM_imp m).mp hm with rfl | rfl | rfl | rfl | rfl
  · intro i hlt _ a b
    have a : 1 ≤ pI h 22 i := a
    have b : pI h 22 i ≤ 1 := b
    exact (hr i hlt).1 (by omega)
  · intro i hlt _ a b
    exact (hr i hlt).2.1 a b
  · intro i hlt _ a b
    exact (hr i hlt).2.2 a b
  · intro i hlt _ a b
    have a : 1 ≤ pI h 19 i := a
    have b : pI h 19 i ≤ 1 := b
    exact hl i hlt (by omega)
  · exact hi.2.2.2 _ (List.mem_singleton.mpr rfl)
theorem pRow.congr {h h' : zH} {i j : Nat} (e1 : pI h' 22 j = pI h 22 i) (e2 : pI h' 23 j = pI h 23 i) (e3 : pI h' 24 j = pI h 24 i) (hr : pRow h i) : pRow h' j := by
  unfold pRow
  rw [e1, e2, e3]
  exact hr
theorem pLaw.congr {h h' : zH} {i j : Nat} (e1 : pI h' 19 j = pI h 19 i) (e2 : pI h' 21 j = pI h 21 i) (hr : pLaw h i) : pLaw h' j := by
  unfold pLaw
  rw [e1, e2]
  exact hr
/-! grown, waitsFor -/
theorem gMd_off {r q i : Nat} (hq : q = 22 ∨ q = 23 ∨ q = 24) (hne : i ≠ 64 + r) : smem (gMd r) q i = false := by
  cases hc : smem (gMd r) q i with
  | false => rfl
  | true =>
    simp only [smem, gMd, List.any_cons, List.any_nil, Bool.or_eq_true, Bool.and_eq_true, beq_iff_eq, decide_eq_true_eq, Bool.or_false] at hc
    omega
theorem zgrow {l : Launch} {Γ : zG} {d : Nat} {h : zH} (hi : sInv swM h) {r : Nat} (hr : r < 64) (e : pI h 0 23 = r) (h0 : 0 ≤ pI h 0 49) (h1 : pI h 0 49 ≤ 95) {k a b : Int32} {c : (Int × Int) × (Int × Int) × (Int × Int)} (hc : c ∈ gCl) (hk : c.1.1 ≤ k.toInt ∧ k.toInt ≤ c.1.2) (ha : c.2.1.1 ≤ a.toInt ∧ a.toInt ≤ c.2.1.2) (hb : c.2.2.1 ≤ b.toInt ∧ b.toInt ≤ c.2.2.2) :
    zSem l Γ false (d + 1) (zhd 221) [.ref 0, .int k, .int a, .int b] h (fun rr h' => rr = none ∧ sInv swM h' ∧ sMd (gMd r) h h' ∧ pI h' 0 23 = r + 1 ∧ pI h' 0 49 = pI h 0 49 + 1) := by
  have hb0 := List.all_eq_true.mp (List.all_eq_true.mp gB_ok r (List.mem_range.mpr hr)) c hc
  obtain ⟨hit, hrow, hlaw⟩ := sto hi
  refine spm_ok (fun _ => pI h 0 49) hb0 (fun mi c h => nomatch h) (Nat.zero_le _) ⟨_, _, rfl, rfl, _, _, rfl, ⟨k, rfl, hk⟩, _, _, rfl, ⟨a, rfl, ha⟩, _, _, rfl, ⟨b, rfl, hb⟩, rfl⟩ (sAok.of (sfm ⟨by show (r : Int) ≤ pI h 0 23; omega, by show pI h 0 23 ≤ (r : Int); omega⟩ (fun _ h => nomatch h))) ⟨⟨rfl, h0, h1⟩, trivial⟩ hit (fun e he => nomatch he) ?_
  intro e' he r' h' hp hi' hm
  have e' := List.mem_singleton.mp he
  subst e'
  obtain ⟨p1, p2, p3⟩ := hp
  have q1 : (r : Int) + 1 ≤ pI h' 0 23 ∧ pI h' 0 23 ≤ (r : Int) + 1 := p2.1 (0, 23, ((r : Int) + 1, (r : Int) + 1)) List.mem_cons_self
  have q2 : c.1.1 ≤ pI h' 22 (64 + r) ∧ pI h' 22 (64 + r) ≤ c.1.2 := p2.1 (22, 64 + r, c.1) (List.mem_cons_of_mem _ List.mem_cons_self)
  have q3 : c.2.1.1 ≤ pI h' 23 (64 + r) ∧ pI h' 23 (64 + r) ≤ c.2.1.2 := p2.1 (23, 64 + r, c.2.1) (List.mem_cons_of_mem _ (List.mem_cons_of_mem _ List.mem_cons_self))
  have q4 : c.2.2.1 ≤ pI h' 24 (64 + r) ∧ pI h' 24 (64 + r) ≤ c.2.2.2 := p2.1 (24, 64 + r, c.2.2) (List.mem_cons_of_mem _ (List.mem_cons_of_mem _ (List.mem_cons_of_mem _ List.mem_cons_self)))
  have q5 : pI h' 0 49 = pI h 0 49 + 1 := p3 (0, 49, 0, 1) List.mem_cons_self
  refine ⟨p1, sof hi' (fun i hlt => ?_) (fun j hlt => ?_), hm, by omega, q5⟩
  · by_cases hne : i = 64 + r
    · subst hne
      simp only [gCl, List.mem_cons, List.not_mem_nil, or_false] at hc
      unfold pRow
      rcases hc with rfl | rfl | rfl | rfl <;> (simp only at q2 q3 q4; refine ⟨fun _ => ?_, fun _ _ => ?_, fun _ _ => ?_⟩ <;> omega)
    · exact (hrow i hlt).congr (pI_md hm (gMd_off (Or.inl rfl) hne)) (pI_md hm (gMd_off (Or.inr (Or.inl rfl)) hne)) (pI_md hm (gMd_off (Or.inr (Or.inr rfl)) hne))
  · exact (hlaw j hlt).congr (pI_md hm (smem_q (by rfl) j)) (pI_md hm (smem_q (by rfl) j))
theorem zwait {l : Launch} {Γ : zG} {d : Nat} {h : zH} (hi : sInv swM h) {c : Nat} (hr : c < 96) (e : pI h 0 48 = c) {k : Int32} {iv : Int × Int} (hv : iv ∈ wCl) (hk : iv.1 ≤ k.toInt ∧ k.toInt ≤ iv.2) :
    zSem l Γ false (d + 1) (zhd 217) [.ref 0, .int k] h (fun rr h' => rr = none ∧ sInv swM h' ∧ sMd (wMd c) h h' ∧ pI h' 0 48 = c + 1 ∧ iv.1 ≤ pI h' 25 c ∧ pI h' 25 c ≤ iv.2) := by
  have hb0 := List.all_eq_true.mp (List.all_eq_true.mp wB_ok c (List.mem_range.mpr hr)) iv hv
  refine spm_ok (fun _ => 0) hb0 (fun mi c h => nomatch h) (Nat.zero_le _) ⟨_, _, rfl, rfl, _, _, rfl, ⟨k, rfl, hk⟩, rfl⟩ (sAok.of (sfm ⟨by show (c : Int) ≤ pI h 0 48; omega, by show pI h 0 48 ≤ (c : Int); omega⟩ (fun _ h => nomatch h))) trivial hi (fun e he => nomatch he) ?_
  intro e' he r' h' hp hi' hm
  have e' := List.mem_singleton.mp he
  subst e'
  obtain ⟨p1, p2, p3⟩ := hp
  have q1 : (c : Int) + 1 ≤ pI h' 0 48 ∧ pI h' 0 48 ≤ (c : Int) + 1 := p2.1 (0, 48, ((c : Int) + 1, (c : Int) + 1)) List.mem_cons_self
  have q2 : iv.1 ≤ pI h' 25 c ∧ pI h' 25 c ≤ iv.2 := p2.1 (25, c, iv) (List.mem_cons_of_mem _ List.mem_cons_self)
  exact ⟨p1, hi', hm, by omega, q2⟩
theorem wMd_off {c i : Nat} (hne : i ≠ c) : smem (wMd c) 25 i = false := by
  cases hc : smem (wMd c) 25 i with
  | false => rfl
  | true =>
    simp only [smem, wMd, List.any_cons, List.any_nil, Bool.or_eq_true, Bool.and_eq_true, beq_iff_eq, decide_eq_true_eq, Bool.or_false] at hc
    omega
/-! counts -/
def pZ (f : Nat → Int) : Nat → Int
  | 0 => 0
  | n + 1 => pZ f n + (if f n = 0 then 1 else 0)
def pB (f : Nat → Int) : Nat → Int
  | 0 => 0
  | n + 1 => pB f n + (if f n = 0 ∨ f n = 2 then 0 else 1)
theorem pZ_eq {f g : Nat → Int} : ∀ n, (∀ i, i < n → f i = g i) → pZ f n = pZ g n
  | 0, _ => rfl
  | n + 1, h => by
    simp only [pZ]
    rw [pZ_eq n (fun i hi => h i (by omega)), h n (by omega)]
theorem pB_eq {f g : Nat → Int} : ∀ n, (∀ i, i < n → f i = g i) → pB f n = pB g n
  | 0, _ => rfl
  | n + 1, h => by
    simp only [pB]
    rw [pB_eq n (fun i hi => h i (by omega)), h n (by omega)]
theorem pZ_bd (f : Nat → Int) : ∀ n : Nat, 0 ≤ pZ f n ∧ pZ f n ≤ n
  | 0 => ⟨Int.le_refl _, Int.le_refl _⟩
  | n + 1 => by
    have := pZ_bd f n
    simp only [pZ]
    split <;> omega
theorem pB_bd (f : Nat → Int) : ∀ n : Nat, 0 ≤ pB f n ∧ pB f n ≤ n
  | 0 => ⟨Int.le_refl _, Int.le_refl _⟩
  | n + 1 => by
    have := pB_bd f n
    simp only [pB]
    split <;> omega
/-- so many signs wait: as many zeros as brackets are open; a value is held for each that takes two, and one more unless one is wanted; what is counted is grown or waits -/
def pJ (h : zH) (c : Nat) : Prop := pI h 0 48 = c ∧ pZ (pI h 25) c = pI h 0 50 ∧ pB (pI h 25) c + 1 = pI h 0 49 + pI h 0 52 ∧ pI h 0 23 + c - pI h 0 50 = pI h 0 51 ∧ pI h 0 49 ≤ pI h 0 23 ∧ ∀ i, i < c → pI h 25 i ≠ 1
theorem pJ.same {h h' : zH} {c : Nat} (hJ : pJ h c) (hf : ∀ i, i < c → pI h' 25 i = pI h 25 i) (h48 : pI h' 0 48 = pI h 0 48) (h50 : pI h' 0 50 = pI h 0 50) (h49 : pI h' 0 49 + pI h' 0 52 = pI h 0 49 + pI h 0 52) (h51 : pI h' 0 23 - pI h' 0 51 = pI h 0 23 - pI h 0 51) (hle : pI h' 0 49 ≤ pI h' 0 23) : pJ h' c := by
  obtain ⟨j1, j2, j3, j4, j5, j6⟩ := hJ
  refine ⟨by omega, ?_, ?_, by omega, hle, fun i hi => ?_⟩
  · rw [pZ_eq c hf]
    omega
  · rw [pB_eq c hf]
    omega
  · rw [hf i hi]
    exact j6 i hi
theorem pJ.up {h h' : zH} {c : Nat} (hJ : pJ h c) (hf : ∀ i, i < c → pI h' 25 i = pI h 25 i) (h48 : pI h' 0 48 = c + 1) (hy : pI h' 25 c ≠ 1) (h50 : pI h' 0 50 = pI h 0 50 + (if pI h' 25 c = 0 then 1 else 0)) (h49 : pI h' 0 49 + pI h' 0 52 = pI h 0 49 + pI h 0 52 + (if pI h' 25 c = 0 ∨ pI h' 25 c = 2 then 0 else 1)) (h23 : pI h' 0 23 = pI h 0 23) (h51 : pI h' 0 51 = pI h 0 51 + (if pI h' 25 c = 0 then 0 else 1)) (hle : pI h' 0 49 ≤ pI h' 0 23) : pJ h' (c + 1) := by
  obtain ⟨j1, j2, j3, j4, j5, j6⟩ := hJ
  refine ⟨by omega, ?_, ?_, ?_, hle, fun i hi => ?_⟩
  · simp only [pZ]
    rw [pZ_eq c hf]
    omega
  · simp only [pB]
    rw [pB_eq c hf]
    omega
  · split at h51 <;> split at h50 <;> first | contradiction | omega
  · by_cases e : i = c
    · rw [e]
      exact hy
    · rw [hf i (by omega)]
      exact j6 i (by omega)
/-- one less waits: a zero -/
theorem pJ.down {h h' : zH} {c : Nat} (hJ : pJ h (c + 1)) (hz : pI h 25 c = 0) (hf : ∀ i, i < c → pI h' 25 i = pI h 25 i) (h48 : pI h' 0 48 = pI h 0 48 - 1) (h50 : pI h' 0 50 = pI h 0 50 - 1) (h49 : pI h' 0 49 + pI h' 0 52 = pI h 0 49 + pI h 0 52) (h51 : pI h' 0 23 - pI h' 0 51 = pI h 0 23 - pI h 0 51) (hle : pI h' 0 49 ≤ pI h' 0 23) : pJ h' c := by
  obtain ⟨j1, j2, j3, j4, j5, j6⟩ := hJ
  simp only [pZ, pB, hz, if_true, true_or] at j2 j3
  refine ⟨by omega, ?_, ?_, by omega, hle, fun i hi => ?_⟩
  · rw [pZ_eq c hf]
    omega
  · rw [pB_eq c hf]
    omega
  · rw [hf i hi]
    exact j6 i (by omega)
theorem pJ.bd {h : zH} {c : Nat} (hi : sInv swM h) (hJ : pJ h c) : c ≤ 72 ∧ 0 ≤ pI h 0 50 ∧ pI h 0 50 ≤ 8 ∧ 0 ≤ pI h 0 51 ∧ pI h 0 51 ≤ 64 ∧ 0 ≤ pI h 0 23 ∧ 0 ≤ pI h 0 49 ∧ pI h 0 49 ≤ 74 ∧ 0 ≤ pI h 0 52 ∧ pI h 0 52 ≤ 1 := by
  obtain ⟨j1, j2, j3, j4, j5, j6⟩ := hJ
  have a1 : 0 ≤ pI h 0 50 ∧ pI h 0 50 ≤ 8 := pbd (iv := (0, 8)) hi (by decide +kernel)
  have a2 : 0 ≤ pI h 0 51 ∧ pI h 0 51 ≤ 64 := pbd (iv := (0, 64)) hi (by decide +kernel)
  have a3 : 0 ≤ pI h 0 23 ∧ pI h 0 23 ≤ 64 := pbd (iv := (0, 64)) hi (by decide +kernel)
  have a4 : 0 ≤ pI h 0 52 ∧ pI h 0 52 ≤ 1 := pbd (iv := (0, 1)) hi (by decide +kernel)
  have a5 : 0 ≤ pI h 0 49 ∧ pI h 0 49 ≤ 96 := pbd (iv := (0, 96)) hi (by decide +kernel)
  have b2 := pB_bd (pI h 25) c
  omega
theorem pwt {h : zH} (hi : sInv swM h) {i : Nat} (hlt : i < 96) : 0 ≤ pI h 25 i ∧ pI h 25 i ≤ 14 := by
  have e : sIv swM 25 i = (0, 14) := by
    show sgAt [(96, 0, 14)] i = (0, 14)
    simp only [sgAt]
    rw [if_pos hlt]
  exact pbd (iv := (0, 14)) hi e
