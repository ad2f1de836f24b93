/-! the reference's wordAt, word by word, by pieces -/
theorem wlI {lo : zL} {j : Nat} {iv : Int × Int} {V : Nat → Int} {e : sLn} (h1 : ∃ v, zget lo j = some v ∧ sTok (.inl iv) v) (h2 : ∃ v, zget lo j = some v ∧ vI v = lnv V e) : ∃ x : Int32, zget lo j = some (.int x) ∧ x.toInt = lnv V e := by
  obtain ⟨v, e1, x, rfl, -⟩ := h1
  obtain ⟨v2, e2, e3⟩ := h2
  rw [e1] at e2
  cases e2
  exact ⟨x, e1, e3⟩
theorem wlR {lo : zL} {j q : Nat} (h1 : ∃ v, zget lo j = some v ∧ sTok (.inr (.inl q)) v) : zget lo j = some (.ref q) := by
  obtain ⟨v, e1, e2⟩ := h1
  rw [e1, show v = .ref q from e2]
theorem wlC {lo : zL} {j : Nat} {c : Int} (h1 : ∃ v, zget lo j = some v ∧ sTok (.inl (c, c)) v) : ∃ x : Int32, zget lo j = some (.int x) ∧ x.toInt = c := by
  obtain ⟨v, e1, x, rfl, x1, x2⟩ := h1
  exact ⟨x, e1, Int.le_antisymm x2 x1⟩
/-- a world that says no more than which arrays are looked at -/
def swW : sW := (zshM, fun q k => if q = 0 then (if k = 0 then [1] else if k = 3 then [2] else []) else [], fun _ _ => sf32, fun _ => [(100000, -2147483648, 2147483647)], [], [])
theorem sIvW (q k : Nat) : sIv swW q k = sf32 := by
  unfold sIv
  split
  · rfl
  · show (if k < 100000 then ((-2147483648, 2147483647) : Int × Int) else (-2147483648, 2147483647)) = _
    split <;> rfl
theorem wInv {I : zHI} {Lg : zHL} {P : zHP} (h0 : P 0 0 = some 1) (h3 : P 0 3 = some 2) : sInv swW (zshM, I, Lg, P) := by
  refine ⟨rfl, fun q k hne => ?_, fun q k => ?_, fun m hm => nomatch hm⟩
  · have e : swW.2.1 q k = if q = 0 then (if k = 0 then [1] else if k = 3 then [2] else []) else [] := rfl
    rw [e] at hne ⊢
    by_cases hq : q = 0
    · subst hq
      rw [if_pos rfl] at hne ⊢
      by_cases hk : k = 0
      · subst hk
        exact ⟨1, List.mem_cons_self, h0⟩
      · rw [if_neg hk] at hne ⊢
        by_cases hk3 : k = 3
        · subst hk3
          exact ⟨2, List.mem_cons_self, h3⟩
        · rw [if_neg hk3] at hne
          exact absurd rfl hne
    · rw [if_neg hq] at hne
      exact absurd rfl hne
  · rw [sIvW]
    exact i32bd _
theorem wSame {h h' : zH} (hm : sMd [] h h') (hs : h'.1 = h.1) : h' = h := by
  obtain ⟨s, I, Lg, P⟩ := h
  obtain ⟨s', I', Lg', P'⟩ := h'
  have hs : s' = s := hs
  have e1 : I' = I := by
    funext q k
    exact (hm q k rfl).1
  have e2 : P' = P := by
    funext q k
    exact (hm q k rfl).2.1
  have e3 : Lg' = Lg := by
    funext q k
    exact (hm q k rfl).2.2
  rw [hs, e1, e2, e3]
def wN (k : Nat) : Nat := [3, 5, 4, 3, 5, 4, 4, 3, 4, 3, 4, 3, 2, 3, 5, 5, 4, 6, 3, 4, 6].getD k 0
def wJ (k : Nat) : Nat := [0, 4, 10, 15, 19, 25, 30, 35, 39, 44, 48, 53, 57, 60, 64, 70, 76, 81, 88, 92, 97, 104].getD k 0
/-- a word's letters, and the space behind it -/
def wLs (k : Nat) : List Int := (wTab.drop (wJ k)).take (wN k + 1)
def wPl : List Int → Nat → List sP0
  | [], _ => []
  | c :: r, j => (2, (none, (j : Int)), (c, c)) :: wPl r (j + 1)
theorem wPl_ok {V : Nat → Int} {h : zH} : ∀ (L : List Int) (j i0 : Nat), (∀ n c, L[n]? = some c → V (i0 + n) = c ∧ (h.2.1 2 (j + n)).toInt = c) → ∀ (R : List sP0), sPok V h R (i0 + L.length) → sPok V h (wPl L j ++ R) i0
  | [], _, _, _, _, hR => hR
  | c :: r, j, i0, hL, R, hR => by
    obtain ⟨e1, e2⟩ := hL 0 c rfl
    have e1 : V i0 = c := e1
    have e2 : (h.2.1 2 j).toInt = c := e2
    refine ⟨⟨?_, ?_, ?_⟩, wPl_ok r (j + 1) (i0 + 1) (fun n c' hc => ?_) R ?_⟩
    · rw [e1]
      exact e2
    · rw [e1]
      exact Int.le_refl _
    · rw [e1]
      exact Int.le_refl _
    · have g := hL (n + 1) c' hc
      rw [show i0 + 1 + n = i0 + (n + 1) from by omega, show j + 1 + n = j + (n + 1) from by omega]
      exact g
    · rw [show i0 + 1 + r.length = i0 + (c :: r).length from by rw [List.length_cons]; omega]
      exact hR
theorem wTk {L : List Int} {j n i : Nat} {c : Int} (h : ((L.drop j).take n)[i]? = some c) : L[j + i]? = some c := by
  rw [List.getElem?_take] at h
  split at h
  · rw [List.getElem?_drop] at h
    exact h
  · cases h
def wL5 (k : Nat) : List (Nat × sT) := [(4, .inl ((wJ k : Int), (wJ k : Int))), (3, .inl ((k : Int), (k : Int))), (0, .inr (.inl 0)), (1, .inl (0, 700)), (2, .inl (0, 700))]
def wL44 (k : Nat) : List (Nat × sT) := (5, .inl ((wN k : Int), (wN k : Int))) :: wL5 k
def wL44b (k : Nat) : List (Nat × sT) := [(5, .inl ((wN k : Int), (wN k : Int))), (4, .inl ((wJ k : Int), (wJ k : Int))), (3, .inl ((k : Int), (k : Int))), (0, .inr (.inl 0)), (1, .inl (0, 700 - (wN k : Int))), (2, .inl (0, 700))]
/-- where the lengths are compared -/
def wE44 (k : Nat) : sEv := (44, [.inl (-700, 700), .inl ((wN k : Int), (wN k : Int))], wL44 k, sA0, ([], [(0, ([(3, 1), (2, -1)], 0))], [(1, ([(2, 1)], 0)), (2, ([(3, 1)], 0))], []))
/-- the next word -/
def wE5 (k : Nat) : sEv := (5, [], wL5 (k + 1), sA0, ([], [], [(1, ([(3, 1)], 0)), (2, ([(4, 1)], 0))], []))
def wS (a b : Int) (k : Nat) : List sT := [.inl (a, b), .inl ((wN k : Int), (wN k : Int))]
def wPt (k : Nat) : List sP0 := wPl (wLs k) (wJ k)
def wBt (i : Nat) (a b : Int) : sP0 := (1, (some 3, (i : Int)), (a, b))
def wBs : List Int → Nat → List sP0
  | [], _ => []
  | c :: r, i => wBt i c c :: wBs r (i + 1)
def wA (k : Nat) : Bool := speB swW sT0 [] 600 0 197 (wL5 k) [] sA0 (wPt k ++ []) 5 [wE44 k] []
def wB0 (k : Nat) (a b : Int) : Bool := speB swW sT0 [] 600 0 197 (wL44 k) (wS a b k) sA0 (wPt k ++ []) 44 [wE5 k] []
def wB1 (k : Nat) : Bool := speB swW sT0 [] 800 0 197 (wL44b k) (wS (wN k) (wN k) k) sA0 (wPt k ++ wBs ((wLs k).take (wN k)) 0) 44 [] [(some (.inl ((k : Int), (k : Int))), sA0, ([], [], [], []))]
def wB2 (k i : Nat) (a b : Int) : Bool := speB swW sT0 [] 800 0 197 (wL44b k) (wS (wN k) (wN k) k) sA0 (wPt k ++ [wBt i a b]) 44 [wE5 k] []
def wAll (k : Nat) : Bool := wA k && (wB0 k (-700) (wN k - 1) && (wB0 k (wN k + 1) 700 && (wB1 k && (List.range (wN k)).all (fun i => wB2 k i (-2147483648) ((wLs k).getD i 0 - 1) && wB2 k i ((wLs k).getD i 0 + 1) 2147483647))))
theorem wAll1 : (List.range 7).all (fun k => wAll k) = true := by decide +kernel
theorem wAll2 : (List.range 7).all (fun k => wAll (k + 7)) = true := by decide +kernel
theorem wAll3 : (List.range 7).all (fun k => wAll (k + 14)) = true := by decide +kernel
theorem wAll_ok {k : Nat} (hk : k < 21) : wAll k = true := by
  by_cases h1 : k < 7
  · exact List.all_eq_true.mp wAll1 k (List.mem_range.mpr h1)
  · by_cases h2 : k < 14
    · have := List.all_eq_true.mp wAll2 (k - 7) (List.mem_range.mpr (by omega))
      rwa [show k - 7 + 7 = k from by omega] at this
    · have := List.all_eq_true.mp wAll3 (k - 14) (List.mem_range.mpr (by omega))
      rwa [show k - 14 + 14 = k from by omega] at this
theorem wLs_n : (List.range 21).all (fun k => Nat.beq (wLs k).length (wN k + 1) && (Nat.ble (wN k) 6 && Nat.ble (wJ k) 104)) = true := by decide +kernel
def wVA (a b c d : Int) (L : List Int) : Nat → Int
  | 0 => a
  | 1 => b
  | 2 => c
  | 3 => d
  | n + 4 => L.getD n 0
def wVB (a b c d e f g : Int) (L : List Int) : Nat → Int
  | 0 => a
  | 1 => b
  | 2 => c
  | 3 => d
  | 4 => e
  | 5 => f
  | 6 => g
  | n + 7 => L.getD n 0
theorem wVA_s {a b c d : Int} {L : List Int} {n : Nat} : wVA a b c d L (n + 4) = L.getD n 0 := rfl
theorem wVB_s {a b c d e f g : Int} {L : List Int} {n : Nat} : wVB a b c d e f g L (n + 7) = L.getD n 0 := rfl
def wLo (k pa m : Nat) : zL := [(4, .int (Int32.ofInt (wJ k : Int))), (3, .int (Int32.ofInt (k : Int))), (0, .ref 0), (1, .int (Int32.ofNat pa)), (2, .int (Int32.ofNat (pa + m)))]
theorem wgD {L : List Int} {n : Nat} {c d : Int} (h : L[n]? = some c) : L.getD n d = c := by
  rw [List.getD_eq_getElem?_getD, h]
  rfl
/-- one word: it stands there, or the next is looked at -/
theorem zwG {l : Launch} {Γ : zG} {d : Nat} {Kp : Option Value → zH → Prop} {I : zHI} {Lg : zHL} {P : zHP} {T : Nat → Int} {pa m : Nat} (k : Nat) (hk : k < 21) (hH : wH I P T pa m)
    (hY : (m = wN k ∧ ∀ i, i < wN k → T (pa + i) = (wLs k).getD i 0) → Kp (some (.int (Int32.ofInt (k : Int)))) (zshM, I, Lg, P))
    (hN : ¬ (m = wN k ∧ ∀ i, i < wN k → T (pa + i) = (wLs k).getD i 0) → zX l Γ false (d + 1) (zhd 197) (zMQ' Γ false (zhd 197) Kp) 0 0 5 (wLo (k + 1) pa m) [] (zshM, I, Lg, P)) : zX l Γ false (d + 1) (zhd 197) (zMQ' Γ false (zhd 197) Kp) 0 0 5 (wLo k pa m) [] (zshM, I, Lg, P) := by
  obtain ⟨hP0, hP3, hw, hm1, hpm, hT⟩ := hH
  have hi := wInv (I := I) (Lg := Lg) hP0 hP3
  have W := wAll_ok hk
  simp only [wAll, Bool.and_eq_true, List.all_eq_true, List.mem_range] at W
  obtain ⟨W1, W2, W3, W4, W5⟩ := W
  have N := List.all_eq_true.mp wLs_n k (List.mem_range.mpr hk)
  simp only [Bool.and_eq_true] at N
  have n1 := Nat.eq_of_beq_eq_true N.1
  have n2 := Nat.le_of_ble_eq_true N.2.1
  have n3 := Nat.le_of_ble_eq_true N.2.2
  have tb : ∀ n c, (wLs k)[n]? = some c → (((zshM, I, Lg, P) : zH).2.1 2 (wJ k + n)).toInt = c := fun n c hc => hw _ _ (wTk hc)
  have ej : (Int32.ofInt (wJ k : Int)).toInt = (wJ k : Int) := oI (by omega) (by omega)
  have ek : (Int32.ofInt (k : Int)).toInt = (k : Int) := oI (by omega) (by omega)
  have ep : (Int32.ofNat pa).toInt = (pa : Int) := oN (by omega)
  have eq : (Int32.ofNat (pa + m)).toInt = ((pa + m : Nat) : Int) := oN (by omega)
  refine spe_ok (mi := 197) (pc := 5) (d := d) (wVA (wJ k) k pa ((pa + m : Nat) : Int) (wLs k)) W1 (fun mi c h => nomatch h) (by omega) ⟨⟨_, rfl, ej, Int.le_refl _, Int.le_refl _⟩, ⟨_, rfl, ek, Int.le_refl _, Int.le_refl _⟩, rfl, ⟨_, rfl, ep, by show (0 : Int) ≤ pa; omega, by show (pa : Int) ≤ 700; omega⟩, ⟨_, rfl, eq, by show (0 : Int) ≤ ((pa + m : Nat) : Int); omega, by show ((pa + m : Nat) : Int) ≤ 700; omega⟩, trivial⟩ rfl (sA0_ok _) (wPl_ok (wLs k) (wJ k) 4 (fun n c hc => ⟨by rw [Nat.add_comm 4 n, wVA_s]; exact wgD hc, tb n c hc⟩) [] trivial) hi ?_ (fun e he => nomatch he)
  intro e he lo1 st1 h1 hp hi1 hm1
  have he := List.mem_singleton.mp he
  subst he
  have eh1 : h1 = (zshM, I, Lg, P) := wSame hm1 hi1.1
  subst eh1
  obtain ⟨p1, p2, -, p4⟩ := hp
  obtain ⟨_, _, rfl, ⟨x, rfl, x1, x2⟩, _, _, rfl, ⟨y, rfl, y1, y2⟩, hn⟩ := p1
  have hn : _ = [] := hn
  subst hn
  obtain ⟨v, ev, hx⟩ := p4.2.1 (0, ([(3, 1), (2, -1)], 0)) List.mem_cons_self
  cases ev
  have hx : x.toInt = 1 * ((pa + m : Nat) : Int) + (-1 * (pa : Int) + 0) + 0 := hx
  obtain ⟨v5, g5, c5⟩ := wlC (p2 (5, .inl ((wN k : Int), (wN k : Int))) List.mem_cons_self)
  obtain ⟨v4, g4, c4⟩ := wlC (p2 (4, .inl ((wJ k : Int), (wJ k : Int))) (List.mem_cons_of_mem _ List.mem_cons_self))
  obtain ⟨v3, g3, c3⟩ := wlC (p2 (3, .inl ((k : Int), (k : Int))) (List.mem_cons_of_mem _ (List.mem_cons_of_mem _ List.mem_cons_self)))
  have g0 := wlR (p2 (0, .inr (.inl 0)) (List.mem_cons_of_mem _ (List.mem_cons_of_mem _ (List.mem_cons_of_mem _ List.mem_cons_self))))
  obtain ⟨v1, g1, c1⟩ := wlI (p2 (1, .inl (0, 700)) (List.mem_cons_of_mem _ (List.mem_cons_of_mem _ (List.mem_cons_of_mem _ (List.mem_cons_of_mem _ List.mem_cons_self))))) (p4.2.2.1 (1, ([(2, 1)], 0)) List.mem_cons_self)
  obtain ⟨v2, g2, c2⟩ := wlI (p2 (2, .inl (0, 700)) (List.mem_cons_of_mem _ (List.mem_cons_of_mem _ (List.mem_cons_of_mem _ (List.mem_cons_of_mem _ (List.mem_cons_of_mem _ List.mem_cons_self)))))) (p4.2.2.1 (2, ([(3, 1)], 0)) (List.mem_cons_of_mem _ List.mem_cons_self))
  have c1 : v1.toInt = 1 * (pa : Int) + 0 + 0 := c1
  have c2 : v2.toInt = 1 * ((pa + m : Nat) : Int) + 0 + 0 := c2
  have y1 : (wN k : Int) ≤ y.toInt := y1
  have y2 : y.toInt ≤ (wN k : Int) := y2
  have hL : ∀ L, sNmL (wVB (wN k) (wJ k) k pa ((pa + m : Nat) : Int) x.toInt (wN k) L) lo1 (wL44 k) 0 := fun L => ⟨⟨v5, g5, c5, Int.le_refl _, Int.le_refl _⟩, ⟨v4, g4, c4, Int.le_refl _, Int.le_refl _⟩, ⟨v3, g3, c3, Int.le_refl _, Int.le_refl _⟩, g0, ⟨v1, g1, by show v1.toInt = (pa : Int); omega, by show (0 : Int) ≤ pa; omega, by show (pa : Int) ≤ 700; omega⟩, ⟨v2, g2, by show v2.toInt = ((pa + m : Nat) : Int); omega, by show (0 : Int) ≤ ((pa + m : Nat) : Int); omega, by show ((pa + m : Nat) : Int) ≤ 700; omega⟩, trivial⟩
  have hLb : ∀ L, m = wN k → sNmL (wVB (wN k) (wJ k) k pa ((pa + m : Nat) : Int) x.toInt (wN k) L) lo1 (wL44b k) 0 := fun L hm => ⟨⟨v5, g5, c5, Int.le_refl _, Int.le_refl _⟩, ⟨v4, g4, c4, Int.le_refl _, Int.le_refl _⟩, ⟨v3, g3, c3, Int.le_refl _, Int.le_refl _⟩, g0, ⟨v1, g1, by show v1.toInt = (pa : Int); omega, by show (0 : Int) ≤ pa; omega, by show (pa : Int) ≤ 700 - (wN k : Int); omega⟩, ⟨v2, g2, by show v2.toInt = ((pa + m : Nat) : Int); omega, by show (0 : Int) ≤ ((pa + m : Nat) : Int); omega, by show ((pa + m : Nat) : Int) ≤ 700; omega⟩, trivial⟩
  have hS : ∀ L a b, a ≤ x.toInt → x.toInt ≤ b → sNmS (wVB (wN k) (wJ k) k pa ((pa + m : Nat) : Int) x.toInt (wN k) L) (wS a b k) [.int x, .int y] (sCnL (wL44 k)) := fun L a b ha hb => ⟨x, _, rfl, rfl, ⟨ha, hb⟩, y, _, rfl, by show y.toInt = (wN k : Int); omega, ⟨Int.le_refl _, Int.le_refl _⟩, rfl⟩
  have hPt : ∀ L R, sPok (wVB (wN k) (wJ k) k pa ((pa + m : Nat) : Int) x.toInt (wN k) (wLs k ++ L)) (zshM, I, Lg, P) R (7 + (wLs k).length) → sPok (wVB (wN k) (wJ k) k pa ((pa + m : Nat) : Int) x.toInt (wN k) (wLs k ++ L)) (zshM, I, Lg, P) (wPt k ++ R) 7 := fun L R hR => wPl_ok (wLs k) (wJ k) 7 (fun n c hc => ⟨by
    rw [Nat.add_comm 7 n, wVB_s]
    exact wgD (by rw [List.getElem?_append_left (List.getElem?_eq_some_iff.mp hc).1]; exact hc), tb n c hc⟩) R hR
  have nx : ∀ L lo' st' h', sEvP (wVB (wN k) (wJ k) k pa ((pa + m : Nat) : Int) x.toInt (wN k) L) (wE5 k) lo' st' h' → sInv swW h' → sMd [] (zshM, I, Lg, P) h' → ¬ (m = wN k ∧ ∀ i, i < wN k → T (pa + i) = (wLs k).getD i 0) → zX l Γ false (d + 1) (zhd 197) (zMQ' Γ false (zhd 197) Kp) 0 0 5 lo' st' h' := fun L lo' st' h' hp hi' hm' hne => by
    have eh : h' = (zshM, I, Lg, P) := wSame hm' hi'.1
    subst eh
    obtain ⟨p1, p2, -, p4⟩ := hp
    have p1 : st' = [] := p1
    subst p1
    obtain ⟨u4, g4, c4⟩ := wlC (p2 (4, .inl ((wJ (k + 1) : Int), (wJ (k + 1) : Int))) List.mem_cons_self)
    obtain ⟨u3, g3, c3⟩ := wlC (p2 (3, .inl (((k + 1 : Nat) : Int), ((k + 1 : Nat) : Int))) (List.mem_cons_of_mem _ List.mem_cons_self))
    have g0 := wlR (p2 (0, .inr (.inl 0)) (List.mem_cons_of_mem _ (List.mem_cons_of_mem _ List.mem_cons_self)))
    obtain ⟨u1, g1, c1⟩ := wlI (p2 (1, .inl (0, 700)) (List.mem_cons_of_mem _ (List.mem_cons_of_mem _ (List.mem_cons_of_mem _ List.mem_cons_self)))) (p4.2.2.1 (1, ([(3, 1)], 0)) List.mem_cons_self)
    obtain ⟨u2, g2, c2⟩ := wlI (p2 (2, .inl (0, 700)) (List.mem_cons_of_mem _ (List.mem_cons_of_mem _ (List.mem_cons_of_mem _ (List.mem_cons_of_mem _ List.mem_cons_self))))) (p4.2.2.1 (2, ([(4, 1)], 0)) (List.mem_cons_of_mem _ List.mem_cons_self))
    have c1 : u1.toInt = 1 * (pa : Int) + 0 + 0 := c1
    have c2 : u2.toInt = 1 * ((pa + m : Nat) : Int) + 0 + 0 := c2
    have b104 : wJ (k + 1) ≤ 104 := by
      have : ∀ k : Fin 22, wJ k.val ≤ 104 := by decide
      exact this ⟨k + 1, by omega⟩
    have a4 : u4 = Int32.ofInt (wJ (k + 1) : Int) := deq (by rw [c4, oI (by omega) (by omega)])
    have a3 : u3 = Int32.ofInt ((k + 1 : Nat) : Int) := deq (by rw [c3, oI (by omega) (by omega)])
    have a1 : u1 = Int32.ofNat pa := deq (by rw [ep]; omega)
    have a2 : u2 = Int32.ofNat (pa + m) := deq (by rw [eq]; omega)
    subst a4
    subst a3
    subst a1
    subst a2
    refine zX_sub (lo2 := wLo (k + 1) pa m) (fun t ht => ?_) (hN hne)
    simp only [wLo, List.mem_cons, List.not_mem_nil, or_false] at ht
    rcases ht with rfl | rfl | rfl | rfl | rfl
    · exact zget_mem _ _ _ g4
    · exact zget_mem _ _ _ g3
    · exact zget_mem _ _ _ g0
    · exact zget_mem _ _ _ g1
    · exact zget_mem _ _ _ g2
  have by1 : ∀ L (i : Nat), i < m → (((zshM, I, Lg, P) : zH).2.1 1 (sPv (wVB (wN k) (wJ k) k pa ((pa + m : Nat) : Int) x.toInt (wN k) L) (some 3, (i : Int))).toNat).toInt = T (pa + i) := fun L i hlt => by
    have e : (sPv (wVB (wN k) (wJ k) k pa ((pa + m : Nat) : Int) x.toInt (wN k) L) (some 3, (i : Int))).toNat = pa + i := by
      show ((pa : Int) + (i : Int)).toNat = pa + i
      omega
    rw [e]
    exact hT _ (by omega)
  rcases Nat.lt_trichotomy m (wN k) with hlt | heq | hgt
  · refine spe_ok (mi := 197) (pc := 44) (d := d) _ W2 (fun mi c h => nomatch h) (by omega) (hL (wLs k ++ [])) (hS _ _ _ (by omega) (by omega)) (sA0_ok _) (hPt [] [] trivial) hi1 ?_ (fun e he => nomatch he)
    intro e he lo' st' h' hp hi' hm'
    have he := List.mem_singleton.mp he
    subst he
    exact nx _ lo' st' h' hp hi' hm' (fun g => by omega)
  · by_cases hall : ∀ i, i < wN k → T (pa + i) = (wLs k).getD i 0
    · have hB : ∀ (L : List Int) (i : Nat), (∀ n c, L[n]? = some c → T (pa + (i + n)) = c ∧ i + n < m) → sPok (wVB (wN k) (wJ k) k pa ((pa + m : Nat) : Int) x.toInt (wN k) (wLs k ++ (wLs k).take (wN k))) (zshM, I, Lg, P) (wBs L i) (7 + (wLs k).length + i) ∨ ¬ (∀ n, L[n]? = ((wLs k).take (wN k))[i + n]?) := by
        intro L
        induction L with
        | nil => exact fun _ _ => Or.inl trivial
        | cons c r ih =>
          intro i hc
          by_cases hg : ∀ n, (c :: r)[n]? = ((wLs k).take (wN k))[i + n]?
          · refine Or.inl ?_
            obtain ⟨t1, t2⟩ := hc 0 c rfl
            have ev : wVB (wN k) (wJ k) k pa ((pa + m : Nat) : Int) x.toInt (wN k) (wLs k ++ (wLs k).take (wN k)) (7 + (wLs k).length + i) = c := by
              rw [show 7 + (wLs k).length + i = ((wLs k).length + i) + 7 from by omega, wVB_s]
              refine wgD ?_
              rw [List.getElem?_append_right (by omega), show (wLs k).length + i - (wLs k).length = i from by omega]
              exact (hg 0).symm
            refine ⟨⟨?_, ?_, ?_⟩, ?_⟩
            · rw [ev]
              exact (by1 _ i (by omega)).trans t1
            · rw [ev]
              exact Int.le_refl _
            · rw [ev]
              exact Int.le_refl _
            · rcases ih (i + 1) (fun n c' hc' => by
                have g := hc (n + 1) c' hc'
                rw [show i + 1 + n = i + (n + 1) from by omega]
                exact g) with g | g
              · rw [show 7 + (wLs k).length + (i + 1) = 7 + (wLs k).length + i + 1 from by omega] at g
                exact g
              · exact absurd (fun n => by
                  have g2 := hg (n + 1)
                  rw [show i + 1 + n = i + (n + 1) from by omega]
                  exact g2) g
          · exact Or.inr hg
      refine spe_ok (mi := 197) (pc := 44) (d := d) _ W4 (fun mi c h => nomatch h) (by omega) (hLb (wLs k ++ (wLs k).take (wN k)) heq) (hS _ _ _ (by omega) (by omega)) (sA0_ok _) (hPt ((wLs k).take (wN k)) _ ?_) hi1 (fun e he => nomatch he) ?_
      · rcases hB ((wLs k).take (wN k)) 0 (fun n c hc => by
          rw [List.getElem?_take] at hc
          split at hc
          · rename_i hn
            have g := hall n hn
            rw [wgD hc] at g
            exact ⟨by rw [Nat.zero_add]; exact g, by omega⟩
          · cases hc) with g | g
        · exact g
        · exact absurd (fun n => by rw [Nat.zero_add]) g
      · intro e he r' h' hp hi' hm'
        have he := List.mem_singleton.mp he
        subst he
        have eh : h' = (zshM, I, Lg, P) := wSame hm' hi'.1
        subst eh
        obtain ⟨⟨w, rfl, z, rfl, z1, z2⟩, -⟩ := hp
        have z1 : (k : Int) ≤ z.toInt := z1
        have z2 : z.toInt ≤ (k : Int) := z2
        have ez : z = Int32.ofInt (k : Int) := deq (by rw [ek]; omega)
        rw [ez]
        exact hY ⟨heq, hall⟩
    · have hex : ∃ i, i < wN k ∧ T (pa + i) ≠ (wLs k).getD i 0 := by
        refine Classical.byContradiction (fun hno => hall (fun i hlt => ?_))
        exact Classical.byContradiction (fun hne => hno ⟨i, hlt, hne⟩)
      obtain ⟨i, hlt, hne⟩ := hex
      obtain ⟨V1, V2⟩ := W5 i hlt
      have tbd : -2147483648 ≤ T (pa + i) ∧ T (pa + i) ≤ 2147483647 := by
        rw [← hT (pa + i) (by omega)]
        exact i32bd _
      have hbt : ∀ a b, a ≤ T (pa + i) → T (pa + i) ≤ b → sPok (wVB (wN k) (wJ k) k pa ((pa + m : Nat) : Int) x.toInt (wN k) (wLs k ++ [T (pa + i)])) (zshM, I, Lg, P) [wBt i a b] (7 + (wLs k).length) := fun a b ha hb => by
        have ev : wVB (wN k) (wJ k) k pa ((pa + m : Nat) : Int) x.toInt (wN k) (wLs k ++ [T (pa + i)]) (7 + (wLs k).length) = T (pa + i) := by
          rw [Nat.add_comm 7 (wLs k).length, wVB_s]
          refine wgD ?_
          rw [List.getElem?_append_right (Nat.le_refl _), Nat.sub_self]
          rfl
        refine ⟨⟨?_, ?_, ?_⟩, trivial⟩
        · rw [ev]
          exact by1 _ i (by omega)
        · rw [ev]
          exact ha
        · rw [ev]
          exact hb
      rcases Int.lt_or_gt_of_ne hne with hlo | hhi
      · refine spe_ok (mi := 197) (pc := 44) (d := d) _ V1 (fun mi c h => nomatch h) (by omega) (hLb (wLs k ++ [T (pa + i)]) heq) (hS _ _ _ (by omega) (by omega)) (sA0_ok _) (hPt [T (pa + i)] _ (hbt _ _ tbd.1 (by omega))) hi1 ?_ (fun e he => nomatch he)
        intro e he lo' st' h' hp hi' hm'
        have he := List.mem_singleton.mp he
        subst he
        exact nx _ lo' st' h' hp hi' hm' (fun g => hne (g.2 i hlt))
      · refine spe_ok (mi := 197) (pc := 44) (d := d) _ V2 (fun mi c h => nomatch h) (by omega) (hLb (wLs k ++ [T (pa + i)]) heq) (hS _ _ _ (by omega) (by omega)) (sA0_ok _) (hPt [T (pa + i)] _ (hbt _ _ (by omega) tbd.2)) hi1 ?_ (fun e he => nomatch he)
        intro e he lo' st' h' hp hi' hm'
        have he := List.mem_singleton.mp he
        subst he
        exact nx _ lo' st' h' hp hi' hm' (fun g => hne (g.2 i hlt))
  · refine spe_ok (mi := 197) (pc := 44) (d := d) _ W3 (fun mi c h => nomatch h) (by omega) (hL (wLs k ++ [])) (hS _ _ _ (by omega) (by omega)) (sA0_ok _) (hPt [] [] trivial) hi1 ?_ (fun e he => nomatch he)
    intro e he lo' st' h' hp hi' hm'
    have he := List.mem_singleton.mp he
    subst he
    exact nx _ lo' st' h' hp hi' hm' (fun g => by omega)
theorem mtW_0 {T : Nat → Int} {pa m : Nat} : mtW T pa m 0 ↔ (m = wN 0 ∧ ∀ i, i < wN 0 → T (pa + i) = (wLs 0).getD i 0) := ⟨fun ⟨hm, h0, h1, h2⟩ => ⟨hm, fun i hi => match i, hi with | 0, _ => h0 | 1, _ => h1 | 2, _ => h2 | n + 3, hi => absurd (show n + 3 < 3 from hi) (by omega)⟩, fun ⟨hm, h⟩ => ⟨hm, h 0 (by decide), h 1 (by decide), h 2 (by decide)⟩⟩
theorem mtW_1 {T : Nat → Int} {pa m : Nat} : mtW T pa m 1 ↔ (m = wN 1 ∧ ∀ i, i < wN 1 → T (pa + i) = (wLs 1).getD i 0) := ⟨fun ⟨hm, h0, h1, h2, h3, h4⟩ => ⟨hm, fun i hi => match i, hi with | 0, _ => h0 | 1, _ => h1 | 2, _ => h2 | 3, _ => h3 | 4, _ => h4 | n + 5, hi => absurd (show n + 5 < 5 from hi) (by omega)⟩, fun ⟨hm, h⟩ => ⟨hm, h 0 (by decide), h 1 (by decide), h 2 (by decide), h 3 (by decide), h 4 (by decide)⟩⟩
theorem mtW_2 {T : Nat → Int} {pa m : Nat} : mtW T pa m 2 ↔ (m = wN 2 ∧ ∀ i, i < wN 2 → T (pa + i) = (wLs 2).getD i 0) := ⟨fun ⟨hm, h0, h1, h2, h3⟩ => ⟨hm, fun i hi => match i, hi with | 0, _ => h0 | 1, _ => h1 | 2, _ => h2 | 3, _ => h3 | n + 4, hi => absurd (show n + 4 < 4 from hi) (by omega)⟩, fun ⟨hm, h⟩ => ⟨hm, h 0 (by decide), h 1 (by decide), h 2 (by decide), h 3 (by decide)⟩⟩
theorem mtW_3 {T : Nat → Int} {pa m : Nat} : mtW T pa m 3 ↔ (m = wN 3 ∧ ∀ i, i < wN 3 → T (pa + i) = (wLs 3).getD i 0) := ⟨fun ⟨hm, h0, h1, h2⟩ => ⟨hm, fun i hi => match i, hi with | 0, _ => h0 | 1, _ => h1 | 2, _ => h2 | n + 3, hi => absurd (show n + 3 < 3 from hi) (by omega)⟩, fun ⟨hm, h⟩ => ⟨hm, h 0 (by decide), h 1 (by decide), h 2 (by decide)⟩⟩
theorem mtW_4 {T : Nat → Int} {pa m : Nat} : mtW T pa m 4 ↔ (m = wN 4 ∧ ∀ i, i < wN 4 → T (pa + i) = (wLs 4).getD i 0) := ⟨fun ⟨hm, h0, h1, h2, h3, h4⟩ => ⟨hm, fun i hi => match i, hi with | 0, _ => h0 | 1, _ => h1 | 2, _ => h2 | 3, _ => h3 | 4, _ => h4 | n + 5, hi => absurd (show n + 5 < 5 from hi) (by omega)⟩, fun ⟨hm, h⟩ => ⟨hm, h 0 (by decide), h 1 (by decide), h 2 (by decide), h 3 (by decide), h 4 (by decide)⟩⟩
theorem mtW_5 {T : Nat → Int} {pa m : Nat} : mtW T pa m 5 ↔ (m = wN 5 ∧ ∀ i, i < wN 5 → T (pa + i) = (wLs 5).getD i 0) := ⟨fun ⟨hm, h0, h1, h2, h3⟩ => ⟨hm, fun i hi => match i, hi with | 0, _ => h0 | 1, _ => h1 | 2, _ => h2 | 3, _ => h3 | n + 4, hi => absurd (show n + 4 < 4 from hi) (by omega)⟩, fun ⟨hm, h⟩ => ⟨hm, h 0 (by decide), h 1 (by decide), h 2 (by decide), h 3 (by decide)⟩⟩
theorem mtW_6 {T : Nat → Int} {pa m : Nat} : mtW T pa m 6 ↔ (m = wN 6 ∧ ∀ i, i < wN 6 → T (pa + i) = (wLs 6).getD i 0) := ⟨fun ⟨hm, h0, h1, h2, h3⟩ => ⟨hm, fun i hi => match i, hi with | 0, _ => h0 | 1, _ => h1 | 2, _ => h2 | 3, _ => h3 | n + 4, hi => absurd (show n + 4 < 4 from hi) (by omega)⟩, fun ⟨hm, h⟩ => ⟨hm, h 0 (by decide), h 1 (by decide), h 2 (by decide), h 3 (by decide)⟩⟩
theorem mtW_7 {T : Nat → Int} {pa m : Nat} : mtW T pa m 7 ↔ (m = wN 7 ∧ ∀ i, i < wN 7 → T (pa + i) = (wLs 7).getD i 0) := ⟨fun ⟨hm, h0, h1, h2⟩ => ⟨hm, fun i hi => match i, hi with | 0, _ => h0 | 1, _ => h1 | 2, _ => h2 | n + 3, hi => absurd (show n + 3 < 3 from hi) (by omega)⟩, fun ⟨hm, h⟩ => ⟨hm, h 0 (by decide), h 1 (by decide), h 2 (by decide)⟩⟩
theorem mtW_8 {T : Nat → Int} {pa m : Nat} : mtW T pa m 8 ↔ (m = wN 8 ∧ ∀ i, i < wN 8 → T (pa + i) = (wLs 8).getD i 0) := ⟨fun ⟨hm, h0, h1, h2, h3⟩ => ⟨hm, fun i hi => match i, hi with | 0, _ => h0 | 1, _ => h1 | 2, _ => h2 | 3, _ => h3 | n + 4, hi => absurd (show n + 4 < 4 from hi) (by omega)⟩, fun ⟨hm, h⟩ => ⟨hm, h 0 (by decide), h 1 (by decide), h 2 (by decide), h 3 (by decide)⟩⟩
theorem mtW_9 {T : Nat → Int} {pa m : Nat} : mtW T pa m 9 ↔ (m = wN 9 ∧ ∀ i, i < wN 9 → T (pa + i) = (wLs 9).getD i 0) := ⟨fun ⟨hm, h0, h1, h2⟩ => ⟨hm, fun i hi => match i, hi with | 0, _ => h0 | 1, _ => h1 | 2, _ => h2 | n + 3, hi => absurd (show n + 3 < 3 from hi) (by omega)⟩, fun ⟨hm, h⟩ => ⟨hm, h 0 (by decide), h 1 (by decide), h 2 (by decide)⟩⟩
theorem mtW_10 {T : Nat → Int} {pa m : Nat} : mtW T pa m 10 ↔ (m = wN 10 ∧ ∀ i, i < wN 10 → T (pa + i) = (wLs 10).getD i 0) := ⟨fun ⟨hm, h0, h1, h2, h3⟩ => ⟨hm, fun i hi => match i, hi with | 0, _ => h0 | 1, _ => h1 | 2, _ => h2 | 3, _ => h3 | n + 4, hi => absurd (show n + 4 < 4 from hi) (by omega)⟩, fun ⟨hm, h⟩ => ⟨hm, h 0 (by decide), h 1 (by decide), h 2 (by decide), h 3 (by decide)⟩⟩
theorem mtW_11 {T : Nat → Int} {pa m : Nat} : mtW T pa m 11 ↔ (m = wN 11 ∧ ∀ i, i < wN 11 → T (pa + i) = (wLs 11).getD i 0) := ⟨fun ⟨hm, h0, h1, h2⟩ => ⟨hm, fun i hi => match i, hi with | 0, _ => h0 | 1, _ => h1 | 2, _ => h2 | n + 3, hi => absurd (show n + 3 < 3 from hi) (by omega)⟩, fun ⟨hm, h⟩ => ⟨hm, h 0 (by decide), h 1 (by decide), h 2 (by decide)⟩⟩
theorem mtW_12 {T : Nat → Int} {pa m : Nat} : mtW T pa m 12 ↔ (m = wN 12 ∧ ∀ i, i < wN 12 → T (pa + i) = (wLs 12).getD i 0) := ⟨fun ⟨hm, h0, h1⟩ => ⟨hm, fun i hi => match i, hi with | 0, _ => h0 | 1, _ => h1 | n + 2, hi => absurd (show n + 2 < 2 from hi) (by omega)⟩, fun ⟨hm, h⟩ => ⟨hm, h 0 (by decide), h 1 (by decide)⟩⟩
theorem mtW_13 {T : Nat → Int} {pa m : Nat} : mtW T pa m 13 ↔ (m = wN 13 ∧ ∀ i, i < wN 13 → T (pa + i) = (wLs 13).getD i 0) := ⟨fun ⟨hm, h0, h1, h2⟩ => ⟨hm, fun i hi => match i, hi with | 0, _ => h0 | 1, _ => h1 | 2, _ => h2 | n + 3, hi => absurd (show n + 3 < 3 from hi) (by omega)⟩, fun ⟨hm, h⟩ => ⟨hm, h 0 (by decide), h 1 (by decide), h 2 (by decide)⟩⟩
theorem mtW_14 {T : Nat → Int} {pa m : Nat} : mtW T pa m 14 ↔ (m = wN 14 ∧ ∀ i, i < wN 14 → T (pa + i) = (wLs 14).getD i 0) := ⟨fun ⟨hm, h0, h1, h2, h3, h4⟩ => ⟨hm, fun i hi => match i, hi with | 0, _ => h0 | 1, _ => h1 | 2, _ => h2 | 3, _ => h3 | 4, _ => h4 | n + 5, hi => absurd (show n + 5 < 5 from hi) (by omega)⟩, fun ⟨hm, h⟩ => ⟨hm, h 0 (by decide), h 1 (by decide), h 2 (by decide), h 3 (by decide), h 4 (by decide)⟩⟩
theorem mtW_15 {T : Nat → Int} {pa m : Nat} : mtW T pa m 15 ↔ (m = wN 15 ∧ ∀ i, i < wN 15 → T (pa + i) = (wLs 15).getD i 0) := ⟨fun ⟨hm, h0, h1, h2, h3, h4⟩ => ⟨hm, fun i hi => match i, hi with | 0, _ => h0 | 1, _ => h1 | 2, _ => h2 | 3, _ => h3 | 4, _ => h4 | n + 5, hi => absurd (show n + 5 < 5 from hi) (by omega)⟩, fun ⟨hm, h⟩ => ⟨hm, h 0 (by decide), h 1 (by decide), h 2 (by decide), h 3 (by decide), h 4 (by decide)⟩⟩
theorem mtW_16 {T : Nat → Int} {pa m : Nat} : mtW T pa m 16 ↔ (m = wN 16 ∧ ∀ i, i < wN 16 → T (pa + i) = (wLs 16).getD i 0) := ⟨fun ⟨hm, h0, h1, h2, h3⟩ => ⟨hm, fun i hi => match i, hi with | 0, _ => h0 | 1, _ => h1 | 2, _ => h2 | 3, _ => h3 | n + 4, hi => absurd (show n + 4 < 4 from hi) (by omega)⟩, fun ⟨hm, h⟩ => ⟨hm, h 0 (by decide), h 1 (by decide), h 2 (by decide), h 3 (by decide)⟩⟩
theorem mtW_17 {T : Nat → Int} {pa m : Nat} : mtW T pa m 17 ↔ (m = wN 17 ∧ ∀ i, i < wN 17 → T (pa + i) = (wLs 17).getD i 0) := ⟨fun ⟨hm, h0, h1, h2, h3, h4, h5⟩ => ⟨hm, fun i hi => match i, hi with | 0, _ => h0 | 1, _ => h1 | 2, _ => h2 | 3, _ => h3 | 4, _ => h4 | 5, _ => h5 | n + 6, hi => absurd (show n + 6 < 6 from hi) (by omega)⟩, fun ⟨hm, h⟩ => ⟨hm, h 0 (by decide), h 1 (by decide), h 2 (by decide), h 3 (by decide), h 4 (by decide), h 5 (by decide)⟩⟩
theorem mtW_18 {T : Nat → Int} {pa m : Nat} : mtW T pa m 18 ↔ (m = wN 18 ∧ ∀ i, i < wN 18 → T (pa + i) = (wLs 18).getD i 0) := ⟨fun ⟨hm, h0, h1, h2⟩ => ⟨hm, fun i hi => match i, hi with | 0, _ => h0 | 1, _ => h1 | 2, _ => h2 | n + 3, hi => absurd (show n + 3 < 3 from hi) (by omega)⟩, fun ⟨hm, h⟩ => ⟨hm, h 0 (by decide), h 1 (by decide), h 2 (by decide)⟩⟩
theorem mtW_19 {T : Nat → Int} {pa m : Nat} : mtW T pa m 19 ↔ (m = wN 19 ∧ ∀ i, i < wN 19 → T (pa + i) = (wLs 19).getD i 0) := ⟨fun ⟨hm, h0, h1, h2, h3⟩ => ⟨hm, fun i hi => match i, hi with | 0, _ => h0 | 1, _ => h1 | 2, _ => h2 | 3, _ => h3 | n + 4, hi => absurd (show n + 4 < 4 from hi) (by omega)⟩, fun ⟨hm, h⟩ => ⟨hm, h 0 (by decide), h 1 (by decide), h 2 (by decide), h 3 (by decide)⟩⟩
theorem mtW_20 {T : Nat → Int} {pa m : Nat} : mtW T pa m 20 ↔ (m = wN 20 ∧ ∀ i, i < wN 20 → T (pa + i) = (wLs 20).getD i 0) := ⟨fun ⟨hm, h0, h1, h2, h3, h4, h5⟩ => ⟨hm, fun i hi => match i, hi with | 0, _ => h0 | 1, _ => h1 | 2, _ => h2 | 3, _ => h3 | 4, _ => h4 | 5, _ => h5 | n + 6, hi => absurd (show n + 6 < 6 from hi) (by omega)⟩, fun ⟨hm, h⟩ => ⟨hm, h 0 (by decide), h 1 (by decide), h 2 (by decide), h 3 (by decide), h 4 (by decide), h 5 (by decide)⟩⟩
theorem zw0 {l : Launch} {Γ : zG} {d : Nat} {Kp : Option Value → zH → Prop} {I : zHI} {Lg : zHL} {P : zHP} {T : Nat → Int} {pa m : Nat} (hH : wH I P T pa m) (hY : mtW T pa m 0 → Kp (some (.int (Int32.ofInt 0))) (zshM, I, Lg, P))
    (hN : ¬ mtW T pa m 0 → zX l Γ false (d + 1) zh197 (zMQ' Γ false zh197 Kp) 0 0 5 [(4, .int (Int32.ofInt 4)), (3, .int (Int32.ofInt 1)), (0, .ref 0), (1, .int (Int32.ofNat pa)), (2, .int (Int32.ofNat (pa + m)))] [] (zshM, I, Lg, P)) : zX l Γ false (d + 1) zh197 (zMQ' Γ false zh197 Kp) 0 0 5 [(4, .int (Int32.ofInt 0)), (3, .int (Int32.ofInt 0)), (0, .ref 0), (1, .int (Int32.ofNat pa)), (2, .int (Int32.ofNat (pa + m)))] [] (zshM, I, Lg, P) :=
  zwG 0 (by decide) hH (fun h => hY (mtW_0.mpr h)) (fun h => hN (fun g => h (mtW_0.mp g)))
theorem zw1 {l : Launch} {Γ : zG} {d : Nat} {Kp : Option Value → zH → Prop} {I : zHI} {Lg : zHL} {P : zHP} {T : Nat → Int} {pa m : Nat} (hH : wH I P T pa m) (hY : mtW T pa m 1 → Kp (some (.int (Int32.ofInt 1))) (zshM, I, Lg, P))
    (hN : ¬ mtW T pa m 1 → zX l Γ false (d + 1) zh197 (zMQ' Γ false zh197 Kp) 0 0 5 [(4, .int (Int32.ofInt 10)), (3, .int (Int32.ofInt 2)), (0, .ref 0), (1, .int (Int32.ofNat pa)), (2, .int (Int32.ofNat (pa + m)))] [] (zshM, I, Lg, P)) : zX l Γ false (d + 1) zh197 (zMQ' Γ false zh197 Kp) 0 0 5 [(4, .int (Int32.ofInt 4)), (3, .int (Int32.ofInt 1)), (0, .ref 0), (1, .int (Int32.ofNat pa)), (2, .int (Int32.ofNat (pa + m)))] [] (zshM, I, Lg, P) :=
  zwG 1 (by decide) hH (fun h => hY (mtW_1.mpr h)) (fun h => hN (fun g => h (mtW_1.mp g)))
theorem zw2 {l : Launch} {Γ : zG} {d : Nat} {Kp : Option Value → zH → Prop} {I : zHI} {Lg : zHL} {P : zHP} {T : Nat → Int} {pa m : Nat} (hH : wH I P T pa m) (hY : mtW T pa m 2 → Kp (some (.int (Int32.ofInt 2))) (zshM, I, Lg, P))
    (hN : ¬ mtW T pa m 2 → zX l Γ false (d + 1) zh197 (zMQ' Γ false zh197 Kp) 0 0 5 [(4, .int (Int32.ofInt 15)), (3, .int (Int32.ofInt 3)), (0, .ref 0), (1, .int (Int32.ofNat pa)), (2, .int (Int32.ofNat (pa + m)))] [] (zshM, I, Lg, P)) : zX l Γ false (d + 1) zh197 (zMQ' Γ false zh197 Kp) 0 0 5 [(4, .int (Int32.ofInt 10)), (3, .int (Int32.ofInt 2)), (0, .ref 0), (1, .int (Int32.ofNat pa)), (2, .int (Int32.ofNat (pa + m)))] [] (zshM, I, Lg, P) :=
  zwG 2 (by decide) hH (fun h => hY (mtW_2.mpr h)) (fun h => hN (fun g => h (mtW_2.mp g)))
theorem zw3 {l : Launch} {Γ : zG} {d : Nat} {Kp : Option Value → zH → Prop} {I : zHI} {Lg : zHL} {P : zHP} {T : Nat → Int} {pa m : Nat} (hH : wH I P T pa m) (hY : mtW T pa m 3 → Kp (some (.int (Int32.ofInt 3))) (zshM, I, Lg, P))
    (hN : ¬ mtW T pa m 3 → zX l Γ false (d + 1) zh197 (zMQ' Γ false zh197 Kp) 0 0 5 [(4, .int (Int32.ofInt 19)), (3, .int (Int32.ofInt 4)), (0, .ref 0), (1, .int (Int32.ofNat pa)), (2, .int (Int32.ofNat (pa + m)))] [] (zshM, I, Lg, P)) : zX l Γ false (d + 1) zh197 (zMQ' Γ false zh197 Kp) 0 0 5 [(4, .int (Int32.ofInt 15)), (3, .int (Int32.ofInt 3)), (0, .ref 0), (1, .int (Int32.ofNat pa)), (2, .int (Int32.ofNat (pa + m)))] [] (zshM, I, Lg, P) :=
  zwG 3 (by decide) hH (fun h => hY (mtW_3.mpr h)) (fun h => hN (fun g => h (mtW_3.mp g)))
theorem zw4 {l : Launch} {Γ : zG} {d : Nat} {Kp : Option Value → zH → Prop} {I : zHI} {Lg : zHL} {P : zHP} {T : Nat → Int} {pa m : Nat} (hH : wH I P T pa m) (hY : mtW T pa m 4 → Kp (some (.int (Int32.ofInt 4))) (zshM, I, Lg, P))
    (hN : ¬ mtW T pa m 4 → zX l Γ false (d + 1) zh197 (zMQ' Γ false zh197 Kp) 0 0 5 [(4, .int (Int32.ofInt 25)), (3, .int (Int32.ofInt 5)), (0, .ref 0), (1, .int (Int32.ofNat pa)), (2, .int (Int32.ofNat (pa + m)))] [] (zshM, I, Lg, P)) : zX l Γ false (d + 1) zh197 (zMQ' Γ false zh197 Kp) 0 0 5 [(4, .int (Int32.ofInt 19)), (3, .int (Int32.ofInt 4)), (0, .ref 0), (1, .int (Int32.ofNat pa)), (2, .int (Int32.ofNat (pa + m)))] [] (zshM, I, Lg, P) :=
  zwG 4 (by decide) hH (fun h => hY (mtW_4.mpr h)) (fun h => hN (fun g => h (mtW_4.mp g)))
theorem zw5 {l : Launch} {Γ : zG} {d : Nat} {Kp : Option Value → zH → Prop} {I : zHI} {Lg : zHL} {P : zHP} {T : Nat → Int} {pa m : Nat} (hH : wH I P T pa m) (hY : mtW T pa m 5 → Kp (some (.int (Int32.ofInt 5))) (zshM, I, Lg, P))
    (hN : ¬ mtW T pa m 5 → zX l Γ false (d + 1) zh197 (zMQ' Γ false zh197 Kp) 0 0 5 [(4, .int (Int32.ofInt 30)), (3, .int (Int32.ofInt 6)), (0, .ref 0), (1, .int (Int32.ofNat pa)), (2, .int (Int32.ofNat (pa + m)))] [] (zshM, I, Lg, P)) : zX l Γ false (d + 1) zh197 (zMQ' Γ false zh197 Kp) 0 0 5 [(4, .int (Int32.ofInt 25)), (3, .int (Int32.ofInt 5)), (0, .ref 0), (1, .int (Int32.ofNat pa)), (2, .int (Int32.ofNat (pa + m)))] [] (zshM, I, Lg, P) :=
  zwG 5 (by decide) hH (fun h => hY (mtW_5.mpr h)) (fun h => hN (fun g => h (mtW_5.mp g)))
theorem zw6 {l : Launch} {Γ : zG} {d : Nat} {Kp : Option Value → zH → Prop} {I : zHI} {Lg : zHL} {P : zHP} {T : Nat → Int} {pa m : Nat} (hH : wH I P T pa m) (hY : mtW T pa m 6 → Kp (some (.int (Int32.ofInt 6))) (zshM, I, Lg, P))
    (hN : ¬ mtW T pa m 6 → zX l Γ false (d + 1) zh197 (zMQ' Γ false zh197 Kp) 0 0 5 [(4, .int (Int32.ofInt 35)), (3, .int (Int32.ofInt 7)), (0, .ref 0), (1, .int (Int32.ofNat pa)), (2, .int (Int32.ofNat (pa + m)))] [] (zshM, I, Lg, P)) : zX l Γ false (d + 1) zh197 (zMQ' Γ false zh197 Kp) 0 0 5 [(4, .int (Int32.ofInt 30)), (3, .int (Int32.ofInt 6)), (0, .ref 0), (1, .int (Int32.ofNat pa)), (2, .int (Int32.ofNat (pa + m)))] [] (zshM, I, Lg, P) :=
  zwG 6 (by decide) hH (fun h => hY (mtW_6.mpr h)) (fun h => hN (fun g => h (mtW_6.mp g)))
theorem zw7 {l : Launch} {Γ : zG} {d : Nat} {Kp : Option Value → zH → Prop} {I : zHI} {Lg : zHL} {P : zHP} {T : Nat → Int} {pa m : Nat} (hH : wH I P T pa m) (hY : mtW T pa m 7 → Kp (some (.int (Int32.ofInt 7))) (zshM, I, Lg, P))
    (hN : ¬ mtW T pa m 7 → zX l Γ false (d + 1) zh197 (zMQ' Γ false zh197 Kp) 0 0 5 [(4, .int (Int32.ofInt 39)), (3, .int (Int32.ofInt 8)), (0, .ref 0), (1, .int (Int32.ofNat pa)), (2, .int (Int32.ofNat (pa + m)))] [] (zshM, I, Lg, P)) : zX l Γ false (d + 1) zh197 (zMQ' Γ false zh197 Kp) 0 0 5 [(4, .int (Int32.ofInt 35)), (3, .int (Int32.ofInt 7)), (0, .ref 0), (1, .int (Int32.ofNat pa)), (2, .int (Int32.ofNat (pa + m)))] [] (zshM, I, Lg, P) :=
  zwG 7 (by decide) hH (fun h => hY (mtW_7.mpr h)) (fun h => hN (fun g => h (mtW_7.mp g)))
theorem zw8 {l : Launch} {Γ : zG} {d : Nat} {Kp : Option Value → zH → Prop} {I : zHI} {Lg : zHL} {P : zHP} {T : Nat → Int} {pa m : Nat} (hH : wH I P T pa m) (hY : mtW T pa m 8 → Kp (some (.int (Int32.ofInt 8))) (zshM, I, Lg, P))
    (hN : ¬ mtW T pa m 8 → zX l Γ false (d + 1) zh197 (zMQ' Γ false zh197 Kp) 0 0 5 [(4, .int (Int32.ofInt 44)), (3, .int (Int32.ofInt 9)), (0, .ref 0), (1, .int (Int32.ofNat pa)), (2, .int (Int32.ofNat (pa + m)))] [] (zshM, I, Lg, P)) : zX l Γ false (d + 1) zh197 (zMQ' Γ false zh197 Kp) 0 0 5 [(4, .int (Int32.ofInt 39)), (3, .int (Int32.ofInt 8)), (0, .ref 0), (1, .int (Int32.ofNat pa)), (2, .int (Int32.ofNat (pa + m)))] [] (zshM, I, Lg, P) :=
  zwG 8 (by decide) hH (fun h => hY (mtW_8.mpr h)) (fun h => hN (fun g => h (mtW_8.mp g)))
theorem zw9 {l : Launch} {Γ : zG} {d : Nat} {Kp : Option Value → zH → Prop} {I : zHI} {Lg : zHL} {P : zHP} {T : Nat → Int} {pa m : Nat} (hH : wH I P T pa m) (hY : mtW T pa m 9 → Kp (some (.int (Int32.ofInt 9))) (zshM, I, Lg, P))
    (hN : ¬ mtW T pa m 9 → zX l Γ false (d + 1) zh197 (zMQ' Γ false zh197 Kp) 0 0 5 [(4, .int (Int32.ofInt 48)), (3, .int (Int32.ofInt 10)), (0, .ref 0), (1, .int (Int32.ofNat pa)), (2, .int (Int32.ofNat (pa + m)))] [] (zshM, I, Lg, P)) : zX l Γ false (d + 1) zh197 (zMQ' Γ false zh197 Kp) 0 0 5 [(4, .int (Int32.ofInt 44)), (3, .int (Int32.ofInt 9)), (0, .ref 0), (1, .int (Int32.ofNat pa)), (2, .int (Int32.ofNat (pa + m)))] [] (zshM, I, Lg, P) :=
  zwG 9 (by decide) hH (fun h => hY (mtW_9.mpr h)) (fun h => hN (fun g => h (mtW_9.mp g)))
theorem zw10 {l : Launch} {Γ : zG} {d : Nat} {Kp : Option Value → zH → Prop} {I : zHI} {Lg : zHL} {P : zHP} {T : Nat → Int} {pa m : Nat} (hH : wH I P T pa m) (hY : mtW T pa m 10 → Kp (some (.int (Int32.ofInt 10))) (zshM, I, Lg, P))
    (hN : ¬ mtW T pa m 10 → zX l Γ false (d + 1) zh197 (zMQ' Γ false zh197 Kp) 0 0 5 [(4, .int (Int32.ofInt 53)), (3, .int (Int32.ofInt 11)), (0, .ref 0), (1, .int (Int32.ofNat pa)), (2, .int (Int32.ofNat (pa + m)))] [] (zshM, I, Lg, P)) : zX l Γ false (d + 1) zh197 (zMQ' Γ false zh197 Kp) 0 0 5 [(4, .int (Int32.ofInt 48)), (3, .int (Int32.ofInt 10)), (0, .ref 0), (1, .int (Int32.ofNat pa)), (2, .int (Int32.ofNat (pa + m)))] [] (zshM, I, Lg, P) :=
  zwG 10 (by decide) hH (fun h => hY (mtW_10.mpr h)) (fun h => hN (fun g => h (mtW_10.mp g)))
theorem zw11 {l : Launch} {Γ : zG} {d : Nat} {Kp : Option Value → zH → Prop} {I : zHI} {Lg : zHL} {P : zHP} {T : Nat → Int} {pa m : Nat} (hH : wH I P T pa m) (hY : mtW T pa m 11 → Kp (some (.int (Int32.ofInt 11))) (zshM, I, Lg, P))
    (hN : ¬ mtW T pa m 11 → zX l Γ false (d + 1) zh197 (zMQ' Γ false zh197 Kp) 0 0 5 [(4, .int (Int32.ofInt 57)), (3, .int (Int32.ofInt 12)), (0, .ref 0), (1, .int (Int32.ofNat pa)), (2, .int (Int32.ofNat (pa + m)))] [] (zshM, I, Lg, P)) : zX l Γ false (d + 1) zh197 (zMQ' Γ false zh197 Kp) 0 0 5 [(4, .int (Int32.ofInt 53)), (3, .int (Int32.ofInt 11)), (0, .ref 0), (1, .int (Int32.ofNat pa)), (2, .int (Int32.ofNat (pa + m)))] [] (zshM, I, Lg, P) :=
  zwG 11 (by decide) hH (fun h => hY (mtW_11.mpr h)) (fun h => hN (fun g => h (mtW_11.mp g)))
theorem zw12 {l : Launch} {Γ : zG} {d : Nat} {Kp : Option Value → zH → Prop} {I : zHI} {Lg : zHL} {P : zHP} {T : Nat → Int} {pa m : Nat} (hH : wH I P T pa m) (hY : mtW T pa m 12 → Kp (some (.int (Int32.ofInt 12))) (zshM, I, Lg, P))
    (hN : ¬ mtW T pa m 12 → zX l Γ false (d + 1) zh197 (zMQ' Γ false zh197 Kp) 0 0 5 [(4, .int (Int32.ofInt 60)), (3, .int (Int32.ofInt 13)), (0, .ref 0), (1, .int (Int32.ofNat pa)), (2, .int (Int32.ofNat (pa + m)))] [] (zshM, I, Lg, P)) : zX l Γ false (d + 1) zh197 (zMQ' Γ false zh197 Kp) 0 0 5 [(4, .int (Int32.ofInt 57)), (3, .int (Int32.ofInt 12)), (0, .ref 0), (1, .int (Int32.ofNat pa)), (2, .int (Int32.ofNat (pa + m)))] [] (zshM, I, Lg, P) :=
  zwG 12 (by decide) hH (fun h => hY (mtW_12.mpr h)) (fun h => hN (fun g => h (mtW_12.mp g)))
theorem zw13 {l : Launch} {Γ : zG} {d : Nat} {Kp : Option Value → zH → Prop} {I : zHI} {Lg : zHL} {P : zHP} {T : Nat → Int} {pa m : Nat} (hH : wH I P T pa m) (hY : mtW T pa m 13 → Kp (some (.int (Int32.ofInt 13))) (zshM, I, Lg, P))
    (hN : ¬ mtW T pa m 13 → zX l Γ false (d + 1) zh197 (zMQ' Γ false zh197 Kp) 0 0 5 [(4, .int (Int32.ofInt 64)), (3, .int (Int32.ofInt 14)), (0, .ref 0), (1, .int (Int32.ofNat pa)), (2, .int (Int32.ofNat (pa + m)))] [] (zshM, I, Lg, P)) : zX l Γ false (d + 1) zh197 (zMQ' Γ false zh197 Kp) 0 0 5 [(4, .int (Int32.ofInt 60)), (3, .int (Int32.ofInt 13)), (0, .ref 0), (1, .int (Int32.ofNat pa)), (2, .int (Int32.ofNat (pa + m)))] [] (zshM, I, Lg, P) :=
  zwG 13 (by decide) hH (fun h => hY (mtW_13.mpr h)) (fun h => hN (fun g => h (mtW_13.mp g)))
theorem zw14 {l : Launch} {Γ : zG} {d : Nat} {Kp : Option Value → zH → Prop} {I : zHI} {Lg : zHL} {P : zHP} {T : Nat → Int} {pa m : Nat} (hH : wH I P T pa m) (hY : mtW T pa m 14 → Kp (some (.int (Int32.ofInt 14))) (zshM, I, Lg, P))
    (hN : ¬ mtW T pa m 14 → zX l Γ false (d + 1) zh197 (zMQ' Γ false zh197 Kp) 0 0 5 [(4, .int (Int32.ofInt 70)), (3, .int (Int32.ofInt 15)), (0, .ref 0), (1, .int (Int32.ofNat pa)), (2, .int (Int32.ofNat (pa + m)))] [] (zshM, I, Lg, P)) : zX l Γ false (d + 1) zh197 (zMQ' Γ false zh197 Kp) 0 0 5 [(4, .int (Int32.ofInt 64)), (3, .int (Int32.ofInt 14)), (0, .ref 0), (1, .int (Int32.ofNat pa)), (2, .int (Int32.ofNat (pa + m)))] [] (zshM, I, Lg, P) :=
  zwG 14 (by decide) hH (fun h => hY (mtW_14.mpr h)) (fun h => hN (fun g => h (mtW_14.mp g)))
theorem zw15 {l : Launch} {Γ : zG} {d : Nat} {Kp : Option Value → zH → Prop} {I : zHI} {Lg : zHL} {P : zHP} {T : Nat → Int} {pa m : Nat} (hH : wH I P T pa m) (hY : mtW T pa m 15 → Kp (some (.int (Int32.ofInt 15))) (zshM, I, Lg, P))
    (hN : ¬ mtW T pa m 15 → zX l Γ false (d + 1) zh197 (zMQ' Γ false zh197 Kp) 0 0 5 [(4, .int (Int32.ofInt 76)), (3, .int (Int32.ofInt 16)), (0, .ref 0), (1, .int (Int32.ofNat pa)), (2, .int (Int32.ofNat (pa + m)))] [] (zshM, I, Lg, P)) : zX l Γ false (d + 1) zh197 (zMQ' Γ false zh197 Kp) 0 0 5 [(4, .int (Int32.ofInt 70)), (3, .int (Int32.ofInt 15)), (0, .ref 0), (1, .int (Int32.ofNat pa)), (2, .int (Int32.ofNat (pa + m)))] [] (zshM, I, Lg, P) :=
  zwG 15 (by decide) hH (fun h => hY (mtW_15.mpr h)) (fun h => hN (fun g => h (mtW_15.mp g)))
theorem zw16 {l : Launch} {Γ : zG} {d : Nat} {Kp : Option Value → zH → Prop} {I : zHI} {Lg : zHL} {P : zHP} {T : Nat → Int} {pa m : Nat} (hH : wH I P T pa m) (hY : mtW T pa m 16 → Kp (some (.int (Int32.ofInt 16))) (zshM, I, Lg, P))
    (hN : ¬ mtW T pa m 16 → zX l Γ false (d + 1) zh197 (zMQ' Γ false zh197 Kp) 0 0 5 [(4, .int (Int32.ofInt 81)), (3, .int (Int32.ofInt 17)), (0, .ref 0), (1, .int (Int32.ofNat pa)), (2, .int (Int32.ofNat (pa + m)))] [] (zshM, I, Lg, P)) : zX l Γ false (d + 1) zh197 (zMQ' Γ false zh197 Kp) 0 0 5 [(4, .int (Int32.ofInt 76)), (3, .int (Int32.ofInt 16)), (0, .ref 0), (1, .int (Int32.ofNat pa)), (2, .int (Int32.ofNat (pa + m)))] [] (zshM, I, Lg, P) :=
  zwG 16 (by decide) hH (fun h => hY (mtW_16.mpr h)) (fun h => hN (fun g => h (mtW_16.mp g)))
theorem zw17 {l : Launch} {Γ : zG} {d : Nat} {Kp : Option Value → zH → Prop} {I : zHI} {Lg : zHL} {P : zHP} {T : Nat → Int} {pa m : Nat} (hH : wH I P T pa m) (hY : mtW T pa m 17 → Kp (some (.int (Int32.ofInt 17))) (zshM, I, Lg, P))
    (hN : ¬ mtW T pa m 17 → zX l Γ false (d + 1) zh197 (zMQ' Γ false zh197 Kp) 0 0 5 [(4, .int (Int32.ofInt 88)), (3, .int (Int32.ofInt 18)), (0, .ref 0), (1, .int (Int32.ofNat pa)), (2, .int (Int32.ofNat (pa + m)))] [] (zshM, I, Lg, P)) : zX l Γ false (d + 1) zh197 (zMQ' Γ false zh197 Kp) 0 0 5 [(4, .int (Int32.ofInt 81)), (3, .int (Int32.ofInt 17)), (0, .ref 0), (1, .int (Int32.ofNat pa)), (2, .int (Int32.ofNat (pa + m)))] [] (zshM, I, Lg, P) :=
  zwG 17 (by decide) hH (fun h => hY (mtW_17.mpr h)) (fun h => hN (fun g => h (mtW_17.mp g)))
theorem zw18 {l : Launch} {Γ : zG} {d : Nat} {Kp : Option Value → zH → Prop} {I : zHI} {Lg : zHL} {P : zHP} {T : Nat → Int} {pa m : Nat} (hH : wH I P T pa m) (hY : mtW T pa m 18 → Kp (some (.int (Int32.ofInt 18))) (zshM, I, Lg, P))
    (hN : ¬ mtW T pa m 18 → zX l Γ false (d + 1) zh197 (zMQ' Γ false zh197 Kp) 0 0 5 [(4, .int (Int32.ofInt 92)), (3, .int (Int32.ofInt 19)), (0, .ref 0), (1, .int (Int32.ofNat pa)), (2, .int (Int32.ofNat (pa + m)))] [] (zshM, I, Lg, P)) : zX l Γ false (d + 1) zh197 (zMQ' Γ false zh197 Kp) 0 0 5 [(4, .int (Int32.ofInt 88)), (3, .int (Int32.ofInt 18)), (0, .ref 0), (1, .int (Int32.ofNat pa)), (2, .int (Int32.ofNat (pa + m)))] [] (zshM, I, Lg, P) :=
  zwG 18 (by decide) hH (fun h => hY (mtW_18.mpr h)) (fun h => hN (fun g => h (mtW_18.mp g)))
theorem zw19 {l : Launch} {Γ : zG} {d : Nat} {Kp : Option Value → zH → Prop} {I : zHI} {Lg : zHL} {P : zHP} {T : Nat → Int} {pa m : Nat} (hH : wH I P T pa m) (hY : mtW T pa m 19 → Kp (some (.int (Int32.ofInt 19))) (zshM, I, Lg, P))
    (hN : ¬ mtW T pa m 19 → zX l Γ false (d + 1) zh197 (zMQ' Γ false zh197 Kp) 0 0 5 [(4, .int (Int32.ofInt 97)), (3, .int (Int32.ofInt 20)), (0, .ref 0), (1, .int (Int32.ofNat pa)), (2, .int (Int32.ofNat (pa + m)))] [] (zshM, I, Lg, P)) : zX l Γ false (d + 1) zh197 (zMQ' Γ false zh197 Kp) 0 0 5 [(4, .int (Int32.ofInt 92)), (3, .int (Int32.ofInt 19)), (0, .ref 0), (1, .int (Int32.ofNat pa)), (2, .int (Int32.ofNat (pa + m)))] [] (zshM, I, Lg, P) :=
  zwG 19 (by decide) hH (fun h => hY (mtW_19.mpr h)) (fun h => hN (fun g => h (mtW_19.mp g)))
theorem zw20 {l : Launch} {Γ : zG} {d : Nat} {Kp : Option Value → zH → Prop} {I : zHI} {Lg : zHL} {P : zHP} {T : Nat → Int} {pa m : Nat} (hH : wH I P T pa m) (hY : mtW T pa m 20 → Kp (some (.int (Int32.ofInt 20))) (zshM, I, Lg, P))
    (hN : ¬ mtW T pa m 20 → zX l Γ false (d + 1) zh197 (zMQ' Γ false zh197 Kp) 0 0 5 [(4, .int (Int32.ofInt 104)), (3, .int (Int32.ofInt 21)), (0, .ref 0), (1, .int (Int32.ofNat pa)), (2, .int (Int32.ofNat (pa + m)))] [] (zshM, I, Lg, P)) : zX l Γ false (d + 1) zh197 (zMQ' Γ false zh197 Kp) 0 0 5 [(4, .int (Int32.ofInt 97)), (3, .int (Int32.ofInt 20)), (0, .ref 0), (1, .int (Int32.ofNat pa)), (2, .int (Int32.ofNat (pa + m)))] [] (zshM, I, Lg, P) :=
  zwG 20 (by decide) hH (fun h => hY (mtW_20.mpr h)) (fun h => hN (fun g => h (mtW_20.mp g)))
