/-! tokens: what stands at a place, as both sides know it -/
def csK (c c2 : Int) : Int := if c = 61 then 37 else if c = 60 then (if c2 = 61 then 36 else if c2 = 62 then 38 else 35) else if c = 62 then (if c2 = 61 then 39 else 40) else if c = 59 then 4 else if c = 40 then 5 else if c = 41 then 6 else if c = 43 then 31 else if c = 45 then 32 else if c = 42 then 33 else if c = 47 then 34 else 1
def csN (c c2 : Int) : Nat := if (c = 60 ∧ (c2 = 61 ∨ c2 = 62)) ∨ (c = 62 ∧ c2 = 61) then 2 else 1
theorem csK_F (c c2 : Int) : csRel c c2 (csN c c2) (csK c c2) := by
  by_cases h61 : c = 61
  · subst h61
    exact Or.inl ⟨rfl, rfl, rfl⟩
  by_cases h60 : c = 60
  · subst h60
    by_cases a : c2 = 61
    · subst a
      exact Or.inr (Or.inl ⟨rfl, rfl, rfl, rfl⟩)
    by_cases b : c2 = 62
    · subst b
      exact Or.inr (Or.inr (Or.inl ⟨rfl, rfl, rfl, rfl⟩))
    · have eN : csN 60 c2 = 1 := by
        unfold csN
        rw [if_neg (by omega)]
      have eK : csK 60 c2 = 35 := by
        unfold csK
        rw [if_neg (by decide), if_pos rfl, if_neg a, if_neg b]
      exact Or.inr (Or.inr (Or.inr (Or.inl ⟨rfl, a, b, eN, eK⟩)))
  by_cases h62 : c = 62
  · subst h62
    by_cases a : c2 = 61
    · subst a
      exact Or.inr (Or.inr (Or.inr (Or.inr (Or.inl ⟨rfl, rfl, rfl, rfl⟩))))
    · have eN : csN 62 c2 = 1 := by
        unfold csN
        rw [if_neg (by omega)]
      have eK : csK 62 c2 = 40 := by
        unfold csK
        rw [if_neg (by decide), if_neg (by decide), if_pos rfl, if_neg a]
      exact Or.inr (Or.inr (Or.inr (Or.inr (Or.inr (Or.inl ⟨rfl, a, eN, eK⟩)))))
  have eN : csN c c2 = 1 := by
    unfold csN
    rw [if_neg (by omega)]
  rw [eN]
  by_cases h59 : c = 59
  · subst h59
    exact Or.inr (Or.inr (Or.inr (Or.inr (Or.inr (Or.inr (Or.inl ⟨rfl, Or.inl ⟨rfl, rfl⟩⟩))))))
  by_cases h40 : c = 40
  · subst h40
    exact Or.inr (Or.inr (Or.inr (Or.inr (Or.inr (Or.inr (Or.inl ⟨rfl, Or.inr (Or.inl ⟨rfl, rfl⟩)⟩))))))
  by_cases h41 : c = 41
  · subst h41
    exact Or.inr (Or.inr (Or.inr (Or.inr (Or.inr (Or.inr (Or.inl ⟨rfl, Or.inr (Or.inr (Or.inl ⟨rfl, rfl⟩))⟩))))))
  by_cases h43 : c = 43
  · subst h43
    exact Or.inr (Or.inr (Or.inr (Or.inr (Or.inr (Or.inr (Or.inl ⟨rfl, Or.inr (Or.inr (Or.inr (Or.inl ⟨rfl, rfl⟩)))⟩))))))
  by_cases h45 : c = 45
  · subst h45
    exact Or.inr (Or.inr (Or.inr (Or.inr (Or.inr (Or.inr (Or.inl ⟨rfl, Or.inr (Or.inr (Or.inr (Or.inr (Or.inl ⟨rfl, rfl⟩))))⟩))))))
  by_cases h42 : c = 42
  · subst h42
    exact Or.inr (Or.inr (Or.inr (Or.inr (Or.inr (Or.inr (Or.inl ⟨rfl, Or.inr (Or.inr (Or.inr (Or.inr (Or.inr (Or.inl ⟨rfl, rfl⟩)))))⟩))))))
  by_cases h47 : c = 47
  · subst h47
    exact Or.inr (Or.inr (Or.inr (Or.inr (Or.inr (Or.inr (Or.inl ⟨rfl, Or.inr (Or.inr (Or.inr (Or.inr (Or.inr (Or.inr (⟨rfl, rfl⟩))))))⟩))))))
  have eK : csK c c2 = 1 := by
    unfold csK
    rw [if_neg h61, if_neg h60, if_neg h62, if_neg h59, if_neg h40, if_neg h41, if_neg h43, if_neg h45, if_neg h42, if_neg h47]
  exact Or.inr (Or.inr (Or.inr (Or.inr (Or.inr (Or.inr (Or.inr (⟨h59, h40, h41, h43, h45, h42, h47, h60, h61, h62, rfl, eK⟩)))))))
theorem csK_u {c c2 k : Int} {N : Nat} (h : csRel c c2 N k) : k = csK c c2 ∧ N = csN c c2 := by
  have g := csK_F c c2
  generalize csK c c2 = k', csN c c2 = N' at g ⊢
  unfold csRel at h g
  rcases h with h | h | h | h | h | h | h | h <;> (rcases g with g | g | g | g | g | g | g | g <;> omega)
theorem cFd_or (v : Int) : ∀ k j, cFd v k j = 2 ∨ 10 ≤ cFd v k j
  | 0, j => Or.inl rfl
  | k + 1, j => by
    simp only [cFd]
    split
    · omega
    · exact cFd_or v k (j + 1)
theorem cWk_or (T : Nat → Int) (q m : Nat) : (cWk T q m = 1 ∨ cWk T q m = 2 ∨ 10 ≤ cWk T q m) ∧ cWk T q m ≤ 31 := by
  unfold cWk
  split
  · omega
  · have h1 := cFd_or (pk T q m) 21 0
    have h2 := cFd_bd (pk T q m) 21 0
    omega
/-- what a text is: its bytes, its length -/
abbrev zD : Type := (Nat → Int) × Nat
def kF (D : zD) (q : Nat) : Int := if q = D.2 then 0 else if 97 ≤ D.1 q ∧ D.1 q ≤ 122 then cWk D.1 q (tWd D.1 (D.2 - q) q - q) else if 48 ≤ D.1 q ∧ D.1 q ≤ 57 then 3 else csK (D.1 q) (if q + 1 < D.2 then D.1 (q + 1) else 0)
def xF (D : zD) (q : Nat) : Nat := if q = D.2 then D.2 else if 97 ≤ D.1 q ∧ D.1 q ≤ 122 then tWd D.1 (D.2 - q) q else if 48 ≤ D.1 q ∧ D.1 q ≤ 57 then tDg D.1 (D.2 - q) q else q + csN (D.1 q) (if q + 1 < D.2 then D.1 (q + 1) else 0)
def lF (D : zD) (q : Nat) : Int := pk D.1 q (min (xF D q - q) 6)
def vF (D : zD) (q : Nat) : Int := cNm D.1 (D.2 - q) q 0
def pF (D : zD) (p : Nat) : Nat := tSk D.1 (D.2 - p) p
def qF (D : zD) (q : Nat) : Nat := pF D (xF D q)
theorem cO_F {D : zD} {q nx : Nat} {k ls vl : Int} (h : cO D.1 D.2 q k ls vl nx) : k = kF D q ∧ nx = xF D q ∧ (kF D q = 2 → ls = lF D q) ∧ (kF D q = 3 → vl = vF D q) := by
  rcases h with ⟨h1, h2, h3⟩ | ⟨h1, h2, h3, h4, h5⟩ | ⟨h1, h2, h3, h4, h5⟩ | ⟨h1, h2, h3, N, h4, h5, h6⟩
  · have a : kF D q = 0 := by
      unfold kF
      rw [if_pos h1]
    have b : xF D q = D.2 := by
      unfold xF
      rw [if_pos h1]
    exact ⟨h2.trans a.symm, h3.trans b.symm, fun e => by omega, fun e => by omega⟩
  · have a : kF D q = cWk D.1 q (nx - q) := by
      unfold kF
      rw [if_neg (by omega), if_pos h2, h3]
    have b : xF D q = nx := by
      unfold xF
      rw [if_neg (by omega), if_pos h2, h3]
    refine ⟨h4.trans a.symm, b.symm, fun _ => ?_, fun e => ?_⟩
    · unfold lF
      rw [b]
      exact h5
    · have := cWk_or D.1 q (nx - q)
      omega
  · have a : kF D q = 3 := by
      unfold kF
      rw [if_neg (by omega), if_neg (by omega), if_pos h2]
    have b : xF D q = nx := by
      unfold xF
      rw [if_neg (by omega), if_neg (by omega), if_pos h2, h3]
    exact ⟨h4.trans a.symm, b.symm, fun e => by omega, fun _ => h5⟩
  · have u := csK_u h4
    have a : kF D q = k := by
      unfold kF
      rw [if_neg (by omega), if_neg h2, if_neg h3, u.1]
    have b : xF D q = nx := by
      unfold xF
      rw [if_neg (by omega), if_neg h2, if_neg h3, h6, u.2]
    have n2 : k ≠ 2 ∧ k ≠ 3 := by
      unfold csRel at h4
      omega
    exact ⟨a.symm, b.symm, fun e => by omega, fun e => by omega⟩
theorem cO_ex {D : zD} {q : Nat} (hq : q ≤ D.2) : cO D.1 D.2 q (kF D q) (lF D q) (vF D q) (xF D q) := by
  by_cases h1 : q = D.2
  · refine Or.inl ⟨h1, ?_, ?_⟩
    · unfold kF
      rw [if_pos h1]
    · unfold xF
      rw [if_pos h1]
  by_cases h2 : 97 ≤ D.1 q ∧ D.1 q ≤ 122
  · have b : xF D q = tWd D.1 (D.2 - q) q := by
      unfold xF
      rw [if_neg h1, if_pos h2]
    refine Or.inr (Or.inl ⟨by omega, h2, b, ?_, rfl⟩)
    unfold kF
    rw [if_neg h1, if_pos h2, b]
  by_cases h3 : 48 ≤ D.1 q ∧ D.1 q ≤ 57
  · refine Or.inr (Or.inr (Or.inl ⟨by omega, h3, ?_, ?_, rfl⟩))
    · unfold xF
      rw [if_neg h1, if_neg h2, if_pos h3]
    · unfold kF
      rw [if_neg h1, if_neg h2, if_pos h3]
  · refine Or.inr (Or.inr (Or.inr ⟨by omega, h2, h3, csN (D.1 q) (if q + 1 < D.2 then D.1 (q + 1) else 0), ?_, fun e => ?_, ?_⟩))
    · unfold kF
      rw [if_neg h1, if_neg h2, if_neg h3]
      exact csK_F _ _
    · by_cases h : q + 1 < D.2
      · exact h
      · rw [if_neg h] at e
        unfold csN at e
        split at e <;> omega
    · unfold xF
      rw [if_neg h1, if_neg h2, if_neg h3]
theorem tO_F {D : zD} {q nx : Nat} {o9 k w : Int} (hq : q ≤ D.2) (h : tO D.1 D.2 q o9 k w nx) : nx = xF D q ∧ tkB k w (kF D q) (lF D q) (vF D q) := by
  obtain ⟨e, b⟩ := tok_agree h (cO_ex hq)
  exact ⟨e.symm, b⟩
theorem tWd_up {T : Nat → Int} : ∀ {k q : Nat}, 0 < k → 97 ≤ T q ∧ T q ≤ 122 → q < tWd T k q
  | k + 1, q, _, h => by
    simp only [tWd]
    rw [if_pos h]
    have := (tWd_bd T k (q + 1)).1
    omega
theorem tDg_up {T : Nat → Int} : ∀ {k q : Nat}, 0 < k → 48 ≤ T q ∧ T q ≤ 57 → q < tDg T k q
  | k + 1, q, _, h => by
    simp only [tDg]
    rw [if_pos h]
    have := (tDg_bd T k (q + 1)).1
    omega
theorem xF_bd {D : zD} {q : Nat} (hq : q ≤ D.2) : q ≤ xF D q ∧ xF D q ≤ D.2 ∧ (q < D.2 → q < xF D q) := by
  rcases cO_ex hq with ⟨h1, h2, h3⟩ | ⟨h1, h2, h3, h4, h5⟩ | ⟨h1, h2, h3, h4, h5⟩ | ⟨h1, h2, h3, N, h4, h5, h6⟩
  · omega
  · have a := tWd_bd D.1 (D.2 - q) q
    have b := tWd_up (k := D.2 - q) (by omega) h2
    omega
  · have a := tDg_bd D.1 (D.2 - q) q
    have b := tDg_up (k := D.2 - q) (by omega) h2
    omega
  · have : 1 ≤ N ∧ N ≤ 2 := by
      unfold csRel at h4
      omega
    omega
theorem pF_bd {D : zD} {p : Nat} (hp : p ≤ D.2) : p ≤ pF D p ∧ pF D p ≤ D.2 := by
  have := tSk_bd D.1 (D.2 - p) p
  unfold pF
  omega
theorem qF_bd {D : zD} {q : Nat} (hq : q ≤ D.2) : q ≤ qF D q ∧ qF D q ≤ D.2 ∧ (q < D.2 → q < qF D q) := by
  have a := xF_bd hq
  have b := pF_bd a.2.1
  unfold qF
  omega
theorem kF_0 {D : zD} {q : Nat} (hq : q ≤ D.2) : kF D q = 0 ↔ q = D.2 := by
  rcases cO_ex hq with ⟨h1, h2, h3⟩ | ⟨h1, h2, h3, h4, h5⟩ | ⟨h1, h2, h3, h4, h5⟩ | ⟨h1, h2, h3, N, h4, h5, h6⟩
  · omega
  · have := cWk_or D.1 q (xF D q - q)
    omega
  · omega
  · have : kF D q ≠ 0 := by
      unfold csRel at h4
      omega
    omega
theorem kF_bd {D : zD} {q : Nat} (hq : q ≤ D.2) : 0 ≤ kF D q ∧ kF D q ≤ 40 := by
  rcases cO_ex hq with ⟨h1, h2, h3⟩ | ⟨h1, h2, h3, h4, h5⟩ | ⟨h1, h2, h3, h4, h5⟩ | ⟨h1, h2, h3, N, h4, h5, h6⟩
  · omega
  · have := cWk_or D.1 q (xF D q - q)
    omega
  · omega
  · unfold csRel at h4
    omega
/-! what a world keeps when some of its ints change -/
theorem sInv_set {w : sW} {h h' : zH} {md : sM} (hi : sInv w h) (e1 : h'.1 = h.1) (eP : h'.2.2.2 = h.2.2.2) (hm : ∀ q k, smem md q k = false → h'.2.1 q k = h.2.1 q k) (hv : ∀ q k, smem md q k = true → (sIv w q k).1 ≤ (h'.2.1 q k).toInt ∧ (h'.2.1 q k).toInt ≤ (sIv w q k).2) (him : ∀ m ∈ w.2.2.2.2.1, ∀ k, smem md m.1 k = false ∧ smem md m.2.1 k = false) : sInv w h' := by
  refine ⟨e1.trans hi.1, fun q k hq => ?_, fun q k => ?_, fun m hmem => ?_⟩
  · rw [eP]
    exact hi.2.1 q k hq
  · cases hc : smem md q k with
    | true => exact hv q k hc
    | false =>
      rw [hm q k hc]
      exact hi.2.2.1 q k
  · exact (hi.2.2.2 m hmem).kept (fun i _ => hm _ _ (him m hmem i).1) (fun i _ => hm _ _ (him m hmem _).2)
theorem smem1 {q a b q' k : Nat} (h : smem [(q, a, b)] q' k = true) : q' = q ∧ a ≤ k ∧ k < b := by
  simp only [smem, List.any_cons, List.any_nil, Bool.or_false, Bool.and_eq_true, beq_iff_eq, decide_eq_true_eq] at h
  omega
theorem smem1n {q a b q' k : Nat} (h : ¬ (q' = q ∧ a ≤ k ∧ k < b)) : smem [(q, a, b)] q' k = false := by
  cases hc : smem [(q, a, b)] q' k with
  | false => rfl
  | true => exact absurd (smem1 hc) h
theorem smem1f {q a b q' k : Nat} (h : smem [(q, a, b)] q' k = false) : ¬ (q' = q ∧ a ≤ k ∧ k < b) := fun g => by
  have : smem [(q, a, b)] q' k = true := by
    simp only [smem, List.any_cons, List.any_nil, Bool.or_false, Bool.and_eq_true, beq_iff_eq, decide_eq_true_eq]
    omega
  rw [this] at h
  cases h
theorem iN {x : Int32} {n : Nat} (hn : n < 100000) (h : x.toInt = (n : Int)) : x = Int32.ofNat n := Int32.toInt_inj.mp (by rw [h, oN hn])
/-! the reference -/
def tA (D : zD) (p : Nat) (h : zH) : Prop := (∀ j, j < 700 → pI h 1 j = D.1 j) ∧ pI h 0 6 = (D.2 : Int) ∧ pI h 0 7 = (p : Int) ∧ D.2 ≤ 700 ∧ p ≤ D.2 ∧ pI h 0 4 = 0 ∧ pI h 0 5 = -1
def tTk (D : zD) (q : Nat) (h : zH) : Prop := tA D (xF D q) h ∧ q ≤ D.2 ∧ pI h 0 10 = (q : Int) ∧ tkB (pI h 0 8) (pI h 0 9) (kF D q) (lF D q) (vF D q)
theorem wTab_iv : (List.range wTab.length).all (fun j => match wTab[j]? with
  | some c => sIv swM 2 j == (c, c)
  | none => true) = true := by decide +kernel
theorem wTab_in {h : zH} (hi : sInv swM h) : ∀ j c, wTab[j]? = some c → (h.2.1 2 j).toInt = c := fun j c e => by
  have hlt := (List.getElem?_eq_some_iff.mp e).1
  have h1 := List.all_eq_true.mp wTab_iv j (List.mem_range.mpr hlt)
  rw [e] at h1
  have h1 : (sIv swM 2 j == (c, c)) = true := h1
  have h2 := hi.2.2.1 2 j
  rw [eq_of_beq h1] at h2
  have h2 : c ≤ (h.2.1 2 j).toInt ∧ (h.2.1 2 j).toInt ≤ c := h2
  omega
theorem sInv.r1 {w : sW} {h : zH} (hi : sInv w h) {q k r : Nat} (e : w.2.1 q k = [r]) : h.2.2.2 q k = some r := by
  obtain ⟨r', hr, hp⟩ := hi.2.1 q k (by rw [e]; exact fun h => nomatch h)
  rw [e] at hr
  rw [hp, List.mem_singleton.mp hr]
theorem tkB_bd {k w kc ls vl : Int} (h : tkB k w kc ls vl) : 0 ≤ k ∧ k ≤ 6 := by
  rcases h with h | ⟨kk, h⟩ | h | h | h | h | h <;> omega
theorem ztokR {l : Launch} {Γ : zG} {d : Nat} {D : zD} {p : Nat} {h : zH} (hi : sInv swM h) (hA : tA D p h) : zSem l Γ false (d + 2) (zhd 195) [.ref 0] h (fun r h' => r = none ∧ sInv swM h' ∧ tTk D (pF D p) h' ∧ sMd [(0, 7, 11)] h h') := by
  obtain ⟨s, I, Lg, P⟩ := h
  obtain ⟨a1, a2, a3, a4, a5, a6, a7⟩ := hA
  have es : s = zshM := hi.1
  subst es
  have hp := pF_bd a5
  have hP0 : P 0 0 = some 1 := hi.r1 (q := 0) (k := 0) (r := 1) (by decide +kernel)
  have hP3 : P 0 3 = some 2 := hi.r1 (q := 0) (k := 3) (r := 2) (by decide +kernel)
  have hH : tkH I P D.1 D.2 p := ⟨hP0, iN (by omega) a2, iN (by omega) a3, a4, a5, a1⟩
  refine ztokM hH hP3 (wTab_in hi) (fun I' k w nx ht e7 e8 e9 e10 ho => ?_)
  have hq : pF D p ≤ D.2 := hp.2
  obtain ⟨f1, f2⟩ := tO_F (D := D) (q := pF D p) hq ht
  have hx := xF_bd hq
  have hm : ∀ q j, smem [(0, 7, 11)] q j = false → I' q j = I q j := fun q j hs => ho q j (fun g => smem1f hs ⟨g.1, g.2.1, by omega⟩)
  refine ⟨rfl, sInv_set hi rfl rfl (md := [(0, 7, 11)]) hm (fun q j hs => ?_) (fun m hmem k => ?_), ⟨⟨fun j hj => ?_, ?_, ?_, a4, hx.2.1, ?_, ?_⟩, hq, e10, ?_⟩, fun q j hs => ⟨hm q j hs, rfl, rfl⟩⟩
  · obtain ⟨rfl, g1, g2⟩ := smem1 hs
    have kb := tkB_bd f2
    have hj : j = 7 ∨ j = 8 ∨ j = 9 ∨ j = 10 := by omega
    rcases hj with rfl | rfl | rfl | rfl
    · rw [show sIv swM 0 7 = (0, 700) from by decide +kernel]
      show 0 ≤ (I' 0 7).toInt ∧ (I' 0 7).toInt ≤ 700
      omega
    · rw [show sIv swM 0 8 = (0, 6) from by decide +kernel]
      show 0 ≤ (I' 0 8).toInt ∧ (I' 0 8).toInt ≤ 6
      omega
    · rw [show sIv swM 0 9 = (-2147483648, 2147483647) from by decide +kernel]
      exact i32bd _
    · rw [show sIv swM 0 10 = (0, 700) from by decide +kernel]
      show 0 ≤ (I' 0 10).toInt ∧ (I' 0 10).toInt ≤ 700
      have e10 : (I' 0 10).toInt = ((pF D p : Nat) : Int) := e10
      omega
  · rcases (swM_imp m).mp hmem with rfl | rfl | rfl | rfl | rfl <;> exact ⟨smem1n (fun g => nomatch g.1), smem1n (fun g => nomatch g.1)⟩
  · show (I' 1 j).toInt = D.1 j
    rw [hm 1 j (smem1n (fun g => nomatch g.1))]
    exact a1 j hj
  · show (I' 0 6).toInt = _
    rw [hm 0 6 (smem1n (by omega))]
    exact a2
  · show (I' 0 7).toInt = _
    rw [e7, f1]
  · show (I' 0 4).toInt = _
    rw [hm 0 4 (smem1n (by omega))]
    exact a6
  · show (I' 0 5).toInt = _
    rw [hm 0 5 (smem1n (by omega))]
    exact a7
  · show tkB (I' 0 8).toInt (I' 0 9).toInt _ _ _
    rw [e8, e9]
    exact f2
/-! the class -/
def cA (D : zD) (p : Nat) (h : zH) : Prop := (∀ j, j < 700 → pI h 1 j = sb (D.1 j)) ∧ (∀ j, j < 700 → 0 ≤ D.1 j ∧ D.1 j ≤ 255) ∧ h.2.2.2 3 1 = some 1 ∧ pI h 3 2 = (D.2 : Int) ∧ pI h 3 3 = (p : Int) ∧ D.2 ≤ 700 ∧ p ≤ D.2 ∧ (pI h 3 8 = 0 → pI h 3 9 = -1)
def cTk (D : zD) (q : Nat) (h : zH) : Prop := cA D (xF D q) h ∧ q ≤ D.2 ∧ pI h 3 4 = kF D q ∧ pI h 3 5 = (q : Int) ∧ (kF D q = 2 → pI h 3 6 = lF D q) ∧ (kF D q = 3 → pI h 3 7 = vF D q)
theorem wC_iv : (List.range 21).all (fun j => sIv swC 4 j == (wC.getD j 0, wC.getD j 0)) = true := by decide +kernel
theorem wC_in {h : zH} (hi : sInv swC h) : ∀ j, j < 21 → (h.2.1 4 j).toInt = wC.getD j 0 := fun j hlt => by
  have h1 := List.all_eq_true.mp wC_iv j (List.mem_range.mpr hlt)
  have h2 := hi.2.2.1 4 j
  rw [eq_of_beq h1] at h2
  have h2 : wC.getD j 0 ≤ (h.2.1 4 j).toInt ∧ (h.2.1 4 j).toInt ≤ wC.getD j 0 := h2
  omega
theorem znextR {l : Launch} {Γ : zG} {d : Nat} {D : zD} {p : Nat} {h : zH} (hi : sInv swC h) (hA : cA D p h) : zSem l Γ false (d + 3) (zhd 34) [.ref 3] h (fun r h' => r = none ∧ sInv swC h' ∧ cTk D (pF D p) h' ∧ sMd [(3, 3, 8)] h h') := by
  obtain ⟨s, I, Lg, P⟩ := h
  obtain ⟨a1, a0, aP, a2, a3, a4, a5, a6⟩ := hA
  have es : s = zshC := hi.1
  subst es
  have hp := pF_bd a5
  have hP0 : P 3 0 = some 4 := hi.r1 (q := 3) (k := 0) (r := 4) (by decide +kernel)
  have hH : cH I P D.1 D.2 p := ⟨aP, hP0, iN (by omega) a2, iN (by omega) a3, a4, a5, a1, a0⟩
  have h7 : 0 ≤ (I 3 7).toInt ∧ (I 3 7).toInt ≤ 10000000 := by
    have := hi.2.2.1 3 7
    rw [show sIv swC 3 7 = (0, 10000000) from by decide +kernel] at this
    exact this
  refine znext hH (wC_in hi) h7 (fun I' k nx ht e3 e4 e5 e7 ho => ?_)
  have hq : pF D p ≤ D.2 := hp.2
  obtain ⟨f1, f2, f3, f4⟩ := cO_F (D := D) (q := pF D p) ht
  have hx := xF_bd hq
  have hm : ∀ q j, smem [(3, 3, 8)] q j = false → I' q j = I q j := fun q j hs => ho q j (fun g => smem1f hs ⟨g.1, g.2.1, by omega⟩)
  refine ⟨rfl, sInv_set hi rfl rfl (md := [(3, 3, 8)]) hm (fun q j hs => ?_) (fun m hmem k => nomatch hmem), ⟨⟨fun j hj => ?_, a0, aP, ?_, ?_, a4, hx.2.1, ?_⟩, hq, ?_, e5, f3, f4⟩, fun q j hs => ⟨hm q j hs, rfl, rfl⟩⟩
  · obtain ⟨rfl, g1, g2⟩ := smem1 hs
    have kb := kF_bd hq
    have hj : j = 3 ∨ j = 4 ∨ j = 5 ∨ j = 6 ∨ j = 7 := by omega
    rcases hj with rfl | rfl | rfl | rfl | rfl
    · rw [show sIv swC 3 3 = (0, 700) from by decide +kernel]
      show 0 ≤ (I' 3 3).toInt ∧ (I' 3 3).toInt ≤ 700
      omega
    · rw [show sIv swC 3 4 = (0, 63) from by decide +kernel]
      show 0 ≤ (I' 3 4).toInt ∧ (I' 3 4).toInt ≤ 63
      omega
    · rw [show sIv swC 3 5 = (0, 700) from by decide +kernel]
      show 0 ≤ (I' 3 5).toInt ∧ (I' 3 5).toInt ≤ 700
      have e5 : (I' 3 5).toInt = ((pF D p : Nat) : Int) := e5
      omega
    · rw [show sIv swC 3 6 = (-2147483648, 2147483647) from by decide +kernel]
      exact i32bd _
    · rw [show sIv swC 3 7 = (0, 10000000) from by decide +kernel]
      exact e7
  · show (I' 1 j).toInt = _
    rw [hm 1 j (smem1n (fun g => nomatch g.1))]
    exact a1 j hj
  · show (I' 3 2).toInt = _
    rw [hm 3 2 (smem1n (by omega))]
    exact a2
  · show (I' 3 3).toInt = _
    rw [e3, f2]
  · show (I' 3 8).toInt = 0 → (I' 3 9).toInt = -1
    rw [hm 3 8 (smem1n (by omega)), hm 3 9 (smem1n (by omega))]
    exact a6
  · show (I' 3 4).toInt = _
    rw [e4, f1]
