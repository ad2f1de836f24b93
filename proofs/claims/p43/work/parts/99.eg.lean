/-! minutes, images, faults: what go, keep, back, fault answer, told by what is alike on both sides -/
theorem zRep_gh {Γ : zG} {al : Bool} {h : zH} {H : Heap} {q k : Nat} {x : Int32} (hq : h.1.length ≤ q) (hr : zRep Γ al h H) : zRep Γ al (zsI h q k x) H := by
  have e : zws Γ (zsI h q k x) = zws Γ h := by
    apply List.ext_getElem?
    intro j
    have e1 : (zsI h q k x).1 = h.1 := rfl
    simp only [zws, List.getElem?_mapIdx, e1]
    cases hs : h.1[j]? with
    | none => rfl
    | some s =>
      have hj : j < h.1.length := (List.getElem?_eq_some_iff.mp hs).1
      simp only [Option.map_some]
      rw [zcell_eq (h := h) (h' := zsI h q k x) (zu2_row (by omega)) rfl rfl]
  exact ⟨by rw [e]; exact hr.1, hr.2⟩
/-- a cell beyond the world may hold anything -/
theorem zSem_gh {l : Launch} {Γ : zG} {al : Bool} {d : Nat} {M : zHd} {args : List Value} {h : zH} {q k : Nat} {x : Int32} {K : Option Value → zH → Prop} (hq : h.1.length ≤ q) (hs : zSem l Γ al d M args (zsI h q k x) K) : zSem l Γ al d M args h K := by
  intro p e ha hc hcl s m args' below hf happ hP hK
  exact hs p e ha hc hcl s m args' below hf happ ⟨hP.1, hP.2.1, zRep_gh hq hP.2.2⟩ hK
/-! one minute of the reference: a cell beyond the world holds the minute before -/
def ctGA (d : Int) (b : Int) : sAs := ([(36, 0, (0, b)), (200, 0, (0, 8999))], [], [(36, 0, 200, 0, d), (200, 0, 36, 0, -d)], [])
def ctGm : sM := [(0, 56, 57), (0, 65, 66), (27, 0, 7), (28, 0, 64), (29, 0, 8), (30, 0, 8), (31, 0, 8), (32, 0, 8), (33, 0, 8), (34, 0, 10), (35, 0, 1), (36, 0, 1)]
def ctG : sCt := ([.inr (.inl 0), .inl (0, 0)], ctGA 0 8999, none, ctGA 1 9000, ctGm, 7)
def ctGc (pc : Nat) (most n : Int) (L : List (Nat × Nat × (Int × Int))) : sCut := (pc, [(0, .inr (.inl 0)), (1, .inl (0, 0)), (2, .inl (0, most))], (L ++ (ctGA 0 8999).1, [], (ctGA 0 8999).2.2.1, []), [(2, -1)], n, [], [])
theorem skG : schk swM sTM 4000 253 ctG [] [ctGc 2 10 48 [], ctGc 55 10 37 [(0, 14, (0, 10))], ctGc 105 8 26 [(0, 14, (0, 10)), (0, 15, (0, 10))], ctGc 150 8 17 [(0, 13, (0, 8)), (0, 14, (0, 10)), (0, 15, (0, 10))], ctGc 172 8 8 [(0, 13, (0, 8)), (0, 14, (0, 10)), (0, 15, (0, 10))]] = true := by decide +kernel
def mdG : sM := (200, 0, 1) :: ctGm
theorem zminG {l : Launch} {Γ : zG} {d : Nat} (hd : 7 ≤ d) {h : zH} (hi : sInv swM h) (h0 : 0 ≤ pI h 36 0) (h1 : pI h 36 0 ≤ 8999) {a : Int32} (ha : a.toInt = 0) : zSem l Γ false d (zhd 253) [.ref 0, .int a] h (fun r h' => r = none ∧ sInv swM h' ∧ sMd mdG h h' ∧ pI h' 36 0 = pI h 36 0 + 1) := by
  have hx : (h.2.1 36 0).toInt = pI h 36 0 := rfl
  have hig : sInv swM (zsI h 200 0 (h.2.1 36 0)) := by
    refine hi.set (a := 0) ?_ ?_ (by decide +kernel) (Nat.le_refl _)
    · rw [show sIv swM 200 0 = (-2147483648, 2147483647) from by decide +kernel]
      show -2147483648 ≤ (h.2.1 36 0).toInt
      omega
    · rw [show sIv swM 200 0 = (-2147483648, 2147483647) from by decide +kernel]
      show (h.2.1 36 0).toInt ≤ 2147483647
      omega
  have g1 : ((zsI h 200 0 (h.2.1 36 0)).2.1 36 0).toInt = pI h 36 0 := by
    show (zu2 h.2.1 200 0 (h.2.1 36 0) 36 0).toInt = _
    rw [zu2_ne (by decide)]
    rfl
  have g2 : ((zsI h 200 0 (h.2.1 36 0)).2.1 200 0).toInt = pI h 36 0 := by
    show (zu2 h.2.1 200 0 (h.2.1 36 0) 200 0).toInt = _
    rw [zu2_at]
    rfl
  refine zSem_gh (q := 200) (k := 0) (x := h.2.1 36 0) (by rw [hi.1]; decide +kernel) ?_
  refine (schk_ok (mi := 253) (ct := ctG) (T := sTM) (fun mi c hc _ => sTM_ok l Γ mi c hc) skG d hd [.ref 0, .int a] _ ⟨_, _, rfl, rfl, _, _, rfl, ⟨a, rfl, by show 0 ≤ a.toInt; omega, by show a.toInt ≤ 0; omega⟩, rfl⟩ hig ⟨?_, (fun _ h => nomatch h), ?_, Or.inl rfl⟩).mono ?_
  · refine sfm ⟨?_, ?_⟩ (sfm ⟨?_, ?_⟩ (fun _ h => nomatch h))
    · show 0 ≤ ((zsI h 200 0 (h.2.1 36 0)).2.1 36 0).toInt
      omega
    · show ((zsI h 200 0 (h.2.1 36 0)).2.1 36 0).toInt ≤ 8999
      omega
    · show 0 ≤ ((zsI h 200 0 (h.2.1 36 0)).2.1 200 0).toInt
      omega
    · show ((zsI h 200 0 (h.2.1 36 0)).2.1 200 0).toInt ≤ 8999
      omega
  · refine sfm ?_ (sfm ?_ (fun _ h => nomatch h))
    · show (0 : Int) ≤ ((zsI h 200 0 (h.2.1 36 0)).2.1 36 0).toInt - ((zsI h 200 0 (h.2.1 36 0)).2.1 200 0).toInt
      omega
    · show (-0 : Int) ≤ ((zsI h 200 0 (h.2.1 36 0)).2.1 200 0).toInt - ((zsI h 200 0 (h.2.1 36 0)).2.1 36 0).toInt
      omega
  · rintro r h' ⟨q1, q2, q3, q4⟩
    have d1 : (1 : Int) ≤ (h'.2.1 36 0).toInt - (h'.2.1 200 0).toInt := q4.2.2.1 (36, 0, 200, 0, 1) List.mem_cons_self
    have d2 : (-1 : Int) ≤ (h'.2.1 200 0).toInt - (h'.2.1 36 0).toInt := q4.2.2.1 (200, 0, 36, 0, -1) (List.mem_cons_of_mem _ List.mem_cons_self)
    have g3 : h'.2.1 200 0 = (zsI h 200 0 (h.2.1 36 0)).2.1 200 0 := (q3 200 0 (by decide +kernel)).1
    rw [g3, g2] at d1 d2
    refine ⟨q1, q2, fun q k hk => ?_, ?_⟩
    · have hk1 : ¬ (q = 200 ∧ k = 0) := fun e => by
        have : smem mdG q k = true := by rw [e.1, e.2]; rfl
        rw [this] at hk
        cases hk
      have hk2 : smem ctGm q k = false := by
        cases hc : smem ctGm q k with
        | false => rfl
        | true =>
          have : smem mdG q k = true := by
            simp only [smem, mdG, List.any_cons, Bool.or_eq_true] at hc ⊢
            exact Or.inr hc
          rw [this] at hk
          cases hk
      obtain ⟨p1, p2, p3⟩ := q3 q k hk2
      refine ⟨?_, p2, p3⟩
      rw [p1]
      show zu2 h.2.1 200 0 (h.2.1 36 0) q k = h.2.1 q k
      exact zu2_off hk1
    · show (h'.2.1 36 0).toInt = _
      omega
theorem mm1 {α : Type} {a b : α} {l : List α} : b ∈ a :: b :: l := List.mem_cons_of_mem _ List.mem_cons_self
theorem mm2 {α : Type} {a b c : α} {l : List α} : c ∈ a :: b :: c :: l := List.mem_cons_of_mem _ mm1
theorem mm3 {α : Type} {a b c e : α} {l : List α} : e ∈ a :: b :: c :: e :: l := List.mem_cons_of_mem _ mm2
/-! the class's pass -/
def psL : List (Nat × sT) := [(0, .inr (.inl 61)), (1, .inr (.inl 43)), (2, .inl (0, 200)), (3, .inl (0, 200))]
def psE : sEv := (2, [], psL, sA0, ([(43, (none, 0), ([(2, 1)], 1))], [], [(2, ([(0, 1)], 0)), (3, ([(1, 1)], 1))], [([(0, 1), (1, -1)], -1)]))
def psR : sRv := (none, sA0, ([(43, (none, 0), ([(2, 1)], 0))], [], [], [([(0, -1), (1, 1)], 0)]))
def psM : sM := [(24, 0, 7), (25, 0, 64), (41, 0, 7), (42, 0, 64), (43, 0, 4), (44, 0, 8), (45, 0, 8), (46, 0, 8), (47, 0, 8), (48, 0, 10), (77, 0, 7), (78, 0, 64)]
theorem ps_b : speB swC sTC psM 4000 4 100 psL [] sA0 [(43, (none, 0), (0, 9000))] 2 [psE] [psR] = true := by decide +kernel
def psF : sEv := (2, [], psL, sA0, ([(43, (none, 0), ([(1, 1)], 0))], [], [(2, ([(0, 1)], 0)), (3, ([], 0))], []))
theorem ps_0 : spfB swC sTC [] 100 4 100 [.inr (.inl 61), .inr (.inl 43), .inl (0, 200)] sA0 [(43, (none, 0), (0, 9000))] [psF] [] = true := by decide +kernel
theorem zpassL {l : Launch} {Γ : zG} {d : Nat} (hd : 4 ≤ d) {Kp : Option Value → zH → Prop} : ∀ (m : Nat) (lo : zL) (h : zH) (n k : Int32) (M0 : Int), zget lo 0 = some (.ref 61) → zget lo 1 = some (.ref 43) → zget lo 2 = some (.int n) → zget lo 3 = some (.int k) → n.toInt = k.toInt + (m : Int) → 0 ≤ k.toInt → n.toInt ≤ 200 → sInv swC h → pI h 43 0 = M0 → 0 ≤ M0 → M0 + (m : Int) ≤ 9000 → (∀ h', sInv swC h' → sMd psM h h' → pI h' 43 0 = M0 + (m : Int) → Kp none h') → zX l Γ false (d + 1) (zhd 100) (zMQ' Γ false (zhd 100) Kp) 0 0 2 lo [] h := by
  intro m
  induction m with
  | zero =>
    intro lo h n k M0 l0 l1 l2 l3 en k0 n2 hi hM M1 M2 hK
    refine spe_ok (mi := 100) (pc := 2) (fun i => [n.toInt, k.toInt, M0].getD i 0) ps_b (fun mi c hc _ => sTC_ok l Γ mi c hc) hd ⟨l0, l1, ⟨n, l2, rfl, by show 0 ≤ n.toInt; omega, by show n.toInt ≤ 200; omega⟩, ⟨k, l3, rfl, by show 0 ≤ k.toInt; omega, by show k.toInt ≤ 200; omega⟩, trivial⟩ rfl (sA0_ok _) ⟨⟨hM, by show 0 ≤ M0; omega, by show M0 ≤ 9000; omega⟩, trivial⟩ hi ?_ ?_
    · intro e he lo' st' h' hp hi' hm
      have he := List.mem_singleton.mp he
      subst he
      have g : 0 ≤ 1 * n.toInt + (-1 * k.toInt + 0) + -1 := hp.2.2.2.2.2.2 _ List.mem_cons_self
      omega
    · intro e he r' h' hp hi' hm
      have he := List.mem_singleton.mp he
      subst he
      obtain ⟨p1, -, p3⟩ := hp
      have p1 : r' = none := p1
      subst p1
      have g : pI h' 43 0 = 1 * M0 + 0 + 0 := p3.1 (43, (none, 0), ([(2, 1)], 0)) List.mem_cons_self
      exact hK h' hi' hm (by omega)
  | succ m ih =>
    intro lo h n k M0 l0 l1 l2 l3 en k0 n2 hi hM M1 M2 hK
    refine spe_ok (mi := 100) (pc := 2) (fun i => [n.toInt, k.toInt, M0].getD i 0) ps_b (fun mi c hc _ => sTC_ok l Γ mi c hc) hd ⟨l0, l1, ⟨n, l2, rfl, by show 0 ≤ n.toInt; omega, by show n.toInt ≤ 200; omega⟩, ⟨k, l3, rfl, by show 0 ≤ k.toInt; omega, by show k.toInt ≤ 200; omega⟩, trivial⟩ rfl (sA0_ok _) ⟨⟨hM, by show 0 ≤ M0; omega, by show M0 ≤ 9000; omega⟩, trivial⟩ hi ?_ ?_
    · intro e he lo' st' h' hp hi' hm
      have he := List.mem_singleton.mp he
      subst he
      obtain ⟨p1, p2, -, p4⟩ := hp
      have p1 : st' = [] := p1
      subst p1
      have g : pI h' 43 0 = 1 * M0 + 0 + 1 := p4.1 (43, (none, 0), ([(2, 1)], 1)) List.mem_cons_self
      obtain ⟨n', a2, b2⟩ := locI (p2 (2, .inl (0, 200)) mm2) (p4.2.2.1 (2, ([(0, 1)], 0)) List.mem_cons_self)
      obtain ⟨k', a3, b3⟩ := locI (p2 (3, .inl (0, 200)) mm3) (p4.2.2.1 (3, ([(1, 1)], 1)) (List.mem_cons_of_mem _ List.mem_cons_self))
      have b2 : n'.toInt = 1 * n.toInt + 0 + 0 := b2
      have b3 : k'.toInt = 1 * k.toInt + 0 + 1 := b3
      refine ih lo' h' n' k' (M0 + 1) (locR (p2 (0, .inr (.inl 61)) List.mem_cons_self)) (locR (p2 (1, .inr (.inl 43)) mm1)) a2 a3 (by omega) (by omega) (by omega) hi' (by omega) (by omega) (by omega) (fun h9 i9 m9 e9 => hK h9 i9 (hm.seq m9) (by omega))
    · intro e he r' h' hp hi' hm
      have he := List.mem_singleton.mp he
      subst he
      have g : 0 ≤ -1 * n.toInt + (1 * k.toInt + 0) + 0 := hp.2.2.2.2.2 _ List.mem_cons_self
      omega
theorem zpassC {l : Launch} {Γ : zG} {d : Nat} (hd : 4 ≤ d) {h : zH} {n : Int32} {M0 : Int} (hi : sInv swC h) (hM : pI h 43 0 = M0) (h0 : 0 ≤ M0) (n0 : 0 ≤ n.toInt) (n1 : n.toInt ≤ 200) (h1 : M0 + n.toInt ≤ 9000) : zSem l Γ false (d + 1) (zhd 100) [.ref 61, .ref 43, .int n] h (fun r h' => r = none ∧ sInv swC h' ∧ sMd psM h h' ∧ pI h' 43 0 = M0 + n.toInt) := by
  refine spf_ok (mi := 100) (fun i => [n.toInt, M0].getD i 0) ps_0 (fun mi c hc _ => sTC_ok l Γ mi c hc) hd ⟨_, _, rfl, rfl, _, _, rfl, rfl, _, _, rfl, ⟨n, rfl, n0, n1⟩, rfl⟩ ⟨rfl, rfl, ⟨n, rfl, rfl, n0, n1⟩, trivial⟩ (sA0_ok _) ⟨⟨hM, h0, by show M0 ≤ 9000; omega⟩, trivial⟩ hi ?_ (fun e he => nomatch he)
  intro e he lo' st' h' hp hi' hm
  have he := List.mem_singleton.mp he
  subst he
  obtain ⟨p1, p2, -, p4⟩ := hp
  have p1 : st' = [] := p1
  subst p1
  have g : pI h' 43 0 = 1 * M0 + 0 + 0 := p4.1 (43, (none, 0), ([(1, 1)], 0)) List.mem_cons_self
  obtain ⟨n', a2, b2⟩ := locI (p2 (2, .inl (0, 200)) mm2) (p4.2.2.1 (2, ([(0, 1)], 0)) List.mem_cons_self)
  obtain ⟨k', a3, b3⟩ := locI (p2 (3, .inl (0, 200)) mm3) (p4.2.2.1 (3, ([], 0)) (List.mem_cons_of_mem _ List.mem_cons_self))
  have b2 : n'.toInt = 1 * n.toInt + 0 + 0 := b2
  have b3 : k'.toInt = 0 + 0 := b3
  exact zpassL hd n.toInt.toNat lo' h' n' k' M0 (locR (p2 (0, .inr (.inl 61)) List.mem_cons_self)) (locR (p2 (1, .inr (.inl 43)) mm1)) a2 a3 (by omega) (by omega) (by omega) hi' (by omega) h0 (by omega) (fun h9 i9 m9 e9 => ⟨rfl, i9, (hm.sub (by decide +kernel)).seq m9, by omega⟩)
/-! go -/
def rK (v : Int) : sRv := (some (.inl (v, v)), sA0, ([], [], [], []))
theorem rK_ok {V : Nat → Int} {v : Int} {r : Option Value} {h : zH} (hp : sRvP V (rK v) r h) : r = some (.int (Int32.ofInt v)) := by
  obtain ⟨⟨w, rfl, x, rfl, x1, x2⟩, -⟩ := hp
  have e : x.toInt = v := Int.le_antisymm x2 x1
  rw [← e, Int32.ofInt_toInt]
def gcM : sM := [(61, 0, 5), (86, 4, 5)]
theorem gc_a : spfB swC sTC [] 400 5 98 [.inr (.inl 0), .inl (-2147483648, -1)] sA0 [] [] [rK (-1)] = true := by decide +kernel
theorem gc_b : spfB swC sTC [] 400 5 98 [.inr (.inl 0), .inl (201, 2147483647)] sA0 [] [] [rK (-1)] = true := by decide +kernel
def gcE : sEv := (59, [.inl (0, 200), .inr (.inl 43), .inr (.inl 61)], [(0, .inr (.inl 0))], sA0, ([(43, (none, 0), ([(1, 1)], 0))], [(0, ([(0, 1)], 0))], [], [([(0, -1), (1, -1)], 9000)]))
def gcR : sRv := (some (.inl (-1, -1)), sA0, ([], [], [], [([(0, 1), (1, 1)], -9001)]))
theorem gc_c : spfB swC sTC gcM 400 5 98 [.inr (.inl 0), .inl (0, 200)] sA0 [(43, (none, 0), (0, 9000))] [gcE] [gcR] = true := by decide +kernel
def gcT : sRv := (some (.inl (-2147483648, 2147483647)), sA0, ([], [(0, ([(0, 1)], 0))], [], []))
theorem gc_d : speB swC sTC [] 100 5 98 [(0, .inr (.inl 0))] [] sA0 [(43, (none, 0), (-2147483648, 2147483647))] 62 [] [gcT] = true := by decide +kernel
theorem zv_gc : zcvB 98 59 8 2 100 = true := by decide +kernel
def goC : sM := gcM ++ psM
theorem goC_s : ssubB gcM goC = true ∧ ssubB psM goC = true := by decide +kernel
/-- what go answers -/
def goA (m n : Int) : Int := if 0 ≤ n ∧ n ≤ 200 ∧ m + n ≤ 9000 then m + n else -1
def goN (m n : Int) : Int := if 0 ≤ n ∧ n ≤ 200 ∧ m + n ≤ 9000 then m + n else m
theorem zgoC {l : Launch} {Γ : zG} {h : zH} {n : Int32} {M0 : Int} (hi : sInv swC h) (hM : pI h 43 0 = M0) (h0 : 0 ≤ M0) (h1 : M0 ≤ 9000) : zSem l Γ false 10 (zhd 98) [.ref 0, .int n] h (fun r h' => r = some (.int (Int32.ofInt (goA M0 n.toInt))) ∧ sInv swC h' ∧ sMd goC h h' ∧ pI h' 43 0 = goN M0 n.toInt) := by
  have nb := i32bd n
  obtain ⟨s1, s2⟩ := goC_s
  by_cases hn : 0 ≤ n.toInt ∧ n.toInt ≤ 200
  · refine spf_ok (mi := 98) (d := 9) (fun i => [n.toInt, M0].getD i 0) gc_c (fun mi c hc _ => sTC_ok l Γ mi c hc) (by decide) ⟨_, _, rfl, rfl, _, _, rfl, ⟨n, rfl, hn.1, hn.2⟩, rfl⟩ ⟨rfl, ⟨n, rfl, rfl, hn.1, hn.2⟩, trivial⟩ (sA0_ok _) ⟨⟨hM, h0, h1⟩, trivial⟩ hi ?_ ?_
    · intro e he lo' st' h' hp hi' hm
      have he := List.mem_singleton.mp he
      subst he
      obtain ⟨p1, p2, -, p4⟩ := hp
      obtain ⟨_, _, rfl, ⟨x, rfl, -, -⟩, _, _, rfl, hr1, _, _, rfl, hr2, hr3⟩ := p1
      have hr1 : _ = Value.ref 43 := hr1
      subst hr1
      have hr2 : _ = Value.ref 61 := hr2
      subst hr2
      have hr3 : _ = [] := hr3
      subst hr3
      have g : pI h' 43 0 = 1 * M0 + 0 + 0 := p4.1 (43, (none, 0), ([(1, 1)], 0)) List.mem_cons_self
      obtain ⟨v, ev, hv⟩ := p4.2.1 (0, ([(0, 1)], 0)) List.mem_cons_self
      cases ev
      have hv : x.toInt = 1 * n.toInt + 0 + 0 := hv
      have gg : 0 ≤ -1 * n.toInt + (-1 * M0 + 0) + 9000 := p4.2.2.2 _ List.mem_cons_self
      refine zcallR (mi := 98) (as := [.int x, .ref 43]) (rest := []) (q0 := 61) zv_gc rfl (by decide) (by rw [hi'.1]; rfl) ?_
      refine (zpassC (d := 8) (M0 := M0) (by decide) hi' (by omega) h0 (by omega) (by omega) (by omega)).mono ?_
      rintro r h2 ⟨rfl, hi2, hm2, e2⟩
      refine spe_ok (mi := 98) (pc := 62) (fun i => [pI h2 43 0].getD i 0) gc_d (fun mi c hc _ => sTC_ok l Γ mi c hc) (by decide) ⟨locR (p2 (0, .inr (.inl 0)) List.mem_cons_self), trivial⟩ rfl (sA0_ok _) ⟨⟨rfl, i32bd _⟩, trivial⟩ hi2 (fun e he => nomatch he) ?_
      intro e he r' h3 hp hi3 hm3
      have he := List.mem_singleton.mp he
      subst he
      obtain ⟨y, er, ey⟩ := ansI hp.1 (hp.2.2.2.1 (0, ([(0, 1)], 0)) List.mem_cons_self)
      have ey : y.toInt = 1 * pI h2 43 0 + 0 + 0 := ey
      have ga : goA M0 n.toInt = M0 + n.toInt := if_pos ⟨hn.1, hn.2, by omega⟩
      have gn : goN M0 n.toInt = M0 + n.toInt := if_pos ⟨hn.1, hn.2, by omega⟩
      refine ⟨?_, hi3, ((hm.sub s1).seq (hm2.sub s2)).seq (hm3.sub rfl), ?_⟩
      · rw [er, ga, show M0 + n.toInt = y.toInt from by omega, Int32.ofInt_toInt]
      · rw [pI_md hm3 rfl, gn]
        omega
    · intro e he r' h' hp hi' hm
      have he := List.mem_singleton.mp he
      subst he
      obtain ⟨⟨w, rfl, x, rfl, x1, x2⟩, -, p3⟩ := hp
      have x1 : -1 ≤ x.toInt := x1
      have x2 : x.toInt ≤ -1 := x2
      have gg : 0 ≤ 1 * n.toInt + (1 * M0 + 0) + -9001 := p3.2.2.2 _ List.mem_cons_self
      have ga : goA M0 n.toInt = -1 := if_neg (by omega)
      have gn : goN M0 n.toInt = M0 := if_neg (by omega)
      refine ⟨?_, hi', hm.sub s1, ?_⟩
      · rw [ga, show (-1 : Int) = x.toInt from by omega, Int32.ofInt_toInt]
      · rw [pI_md hm (by decide +kernel), gn]
        exact hM
  · have ga : goA M0 n.toInt = -1 := if_neg (fun g => hn ⟨g.1, g.2.1⟩)
    have gn : goN M0 n.toInt = M0 := if_neg (fun g => hn ⟨g.1, g.2.1⟩)
    rw [ga, gn]
    by_cases hlt : n.toInt < 0
    · refine spf_ok (mi := 98) (d := 9) (fun i => [n.toInt].getD i 0) gc_a (fun mi c hc _ => sTC_ok l Γ mi c hc) (by decide) ⟨_, _, rfl, rfl, _, _, rfl, ⟨n, rfl, nb.1, by show n.toInt ≤ -1; omega⟩, rfl⟩ ⟨rfl, ⟨n, rfl, rfl, nb.1, by show n.toInt ≤ -1; omega⟩, trivial⟩ (sA0_ok _) trivial hi (fun e he => nomatch he) ?_
      intro e he r' h' hp hi' hm
      have he := List.mem_singleton.mp he
      subst he
      exact ⟨rK_ok hp, hi', hm.sub rfl, (pI_md hm rfl).trans hM⟩
    · refine spf_ok (mi := 98) (d := 9) (fun i => [n.toInt].getD i 0) gc_b (fun mi c hc _ => sTC_ok l Γ mi c hc) (by decide) ⟨_, _, rfl, rfl, _, _, rfl, ⟨n, rfl, by show 201 ≤ n.toInt; omega, nb.2⟩, rfl⟩ ⟨rfl, ⟨n, rfl, rfl, by show 201 ≤ n.toInt; omega, nb.2⟩, trivial⟩ (sA0_ok _) trivial hi (fun e he => nomatch he) ?_
      intro e he r' h' hp hi' hm
      have he := List.mem_singleton.mp he
      subst he
      exact ⟨rK_ok hp, hi', hm.sub rfl, (pI_md hm rfl).trans hM⟩
def gmM : sM := [(0, 2, 3), (0, 56, 57), (0, 65, 74), (0, 80, 81), (200, 0, 1)] ++ ctGm
theorem gm_a2 : spfB swM sTM [(0, 2, 3)] 400 5 252 [.inr (.inl 0), .inl (-2147483648, -1)] sA0 [] [] [rK (-1)] = true := by decide +kernel
theorem gm_b2 : spfB swM sTM [(0, 2, 3)] 400 5 252 [.inr (.inl 0), .inl (201, 2147483647)] sA0 [] [] [rK (-1)] = true := by decide +kernel
def gmL : List (Nat × sT) := [(0, .inr (.inl 0)), (1, .inl (0, 200)), (2, .inl (0, 200))]
def gmE : sEv := (43, [], gmL, sA0, ([(36, (none, 0), ([(1, 1)], 0))], [], [(1, ([(0, 1)], 0)), (2, ([], 0))], [([(0, -1), (1, -1)], 9000)]))
def gmR : sRv := (some (.inl (-1, -1)), sA0, ([(36, (none, 0), ([(1, 1)], 0))], [], [], [([(0, 1), (1, 1)], -9001)]))
theorem gm_c : spfB swM sTM [(0, 2, 3), (0, 56, 57), (0, 65, 74), (0, 80, 81)] 400 5 252 [.inr (.inl 0), .inl (0, 200)] sA0 [(36, (none, 0), (0, 9000))] [gmE] [gmR] = true := by decide +kernel
def gmC : sEv := (50, [.inl (0, 0), .inr (.inl 0)], gmL, sA0, ([(36, (none, 0), ([(2, 1)], 0))], [], [(1, ([(0, 1)], 0)), (2, ([(1, 1)], 0))], [([(0, 1), (1, -1)], -1)]))
def gmT : sRv := (some (.inl (0, 9000)), sA0, ([(36, (none, 0), ([(2, 1)], 0))], [(0, ([(2, 1)], 0))], [], [([(0, -1), (1, 1)], 0)]))
theorem gm_d : speB swM sTM [(0, 66, 74), (0, 80, 81)] 200 5 252 gmL [] sA0 [(36, (none, 0), (0, 9000))] 43 [gmC] [gmT] = true := by decide +kernel
def gmF : sEv := (43, [], gmL, sA0, ([(36, (none, 0), ([(2, 1)], 0))], [], [(1, ([(0, 1)], 0)), (2, ([(1, 1)], 1))], []))
theorem gm_e : speB swM sTM [] 100 5 252 [(0, .inr (.inl 0)), (1, .inl (0, 200)), (2, .inl (0, 199))] [] sA0 [(36, (none, 0), (0, 9000))] 53 [gmF] [] = true := by decide +kernel
theorem zv_gm : zcvB 252 50 12 1 253 = true := by decide +kernel
theorem gm_s : ssubB [(0, 66, 74), (0, 80, 81)] gmM = true ∧ ssubB mdG gmM = true ∧ ssubB [(0, 2, 3), (0, 56, 57), (0, 65, 74), (0, 80, 81)] gmM = true := by decide +kernel
theorem zgoL {l : Launch} {Γ : zG} {Kp : Option Value → zH → Prop} : ∀ (m : Nat) (lo : zL) (h : zH) (n k : Int32) (M0 : Int), zget lo 0 = some (.ref 0) → zget lo 1 = some (.int n) → zget lo 2 = some (.int k) → n.toInt = k.toInt + (m : Int) → 0 ≤ k.toInt → n.toInt ≤ 200 → sInv swM h → pI h 36 0 = M0 → 0 ≤ M0 → M0 + (m : Int) ≤ 9000 → (∀ (x : Int32) h', x.toInt = M0 + (m : Int) → sInv swM h' → sMd gmM h h' → pI h' 36 0 = M0 + (m : Int) → Kp (some (.int x)) h') → zX l Γ false 10 (zhd 252) (zMQ' Γ false (zhd 252) Kp) 0 0 43 lo [] h := by
  obtain ⟨s1, s2, s3⟩ := gm_s
  intro m
  induction m with
  | zero =>
    intro lo h n k M0 l0 l1 l2 en k0 n2 hi hM M1 M2 hK
    refine spe_ok (mi := 252) (pc := 43) (d := 9) (fun i => [n.toInt, k.toInt, M0].getD i 0) gm_d (fun mi c hc _ => sTM_ok l Γ mi c hc) (by decide) ⟨l0, ⟨n, l1, rfl, by show 0 ≤ n.toInt; omega, by show n.toInt ≤ 200; omega⟩, ⟨k, l2, rfl, by show 0 ≤ k.toInt; omega, by show k.toInt ≤ 200; omega⟩, trivial⟩ rfl (sA0_ok _) ⟨⟨hM, by show 0 ≤ M0; omega, by show M0 ≤ 9000; omega⟩, trivial⟩ hi ?_ ?_
    · intro e he lo' st' h' hp hi' hm
      have he := List.mem_singleton.mp he
      subst he
      have g : 0 ≤ 1 * n.toInt + (-1 * k.toInt + 0) + -1 := hp.2.2.2.2.2.2 _ List.mem_cons_self
      omega
    · intro e he r' h' hp hi' hm
      have he := List.mem_singleton.mp he
      subst he
      obtain ⟨y, rfl, ey⟩ := ansI hp.1 (hp.2.2.2.1 (0, ([(2, 1)], 0)) List.mem_cons_self)
      have ey : y.toInt = 1 * M0 + 0 + 0 := ey
      have g : pI h' 36 0 = 1 * M0 + 0 + 0 := hp.2.2.1 (36, (none, 0), ([(2, 1)], 0)) List.mem_cons_self
      exact hK y h' (by omega) hi' (hm.sub s1) (by omega)
  | succ m ih =>
    intro lo h n k M0 l0 l1 l2 en k0 n2 hi hM M1 M2 hK
    refine spe_ok (mi := 252) (pc := 43) (d := 9) (fun i => [n.toInt, k.toInt, M0].getD i 0) gm_d (fun mi c hc _ => sTM_ok l Γ mi c hc) (by decide) ⟨l0, ⟨n, l1, rfl, by show 0 ≤ n.toInt; omega, by show n.toInt ≤ 200; omega⟩, ⟨k, l2, rfl, by show 0 ≤ k.toInt; omega, by show k.toInt ≤ 200; omega⟩, trivial⟩ rfl (sA0_ok _) ⟨⟨hM, by show 0 ≤ M0; omega, by show M0 ≤ 9000; omega⟩, trivial⟩ hi ?_ ?_
    · intro e he lo' st' h' hp hi' hm
      have he := List.mem_singleton.mp he
      subst he
      obtain ⟨p1, p2, -, p4⟩ := hp
      obtain ⟨_, _, rfl, ⟨x, rfl, x1, x2⟩, _, _, rfl, hr1, hr2⟩ := p1
      have x1 : 0 ≤ x.toInt := x1
      have x2 : x.toInt ≤ 0 := x2
      have hr1 : _ = Value.ref 0 := hr1
      subst hr1
      have hr2 : _ = [] := hr2
      subst hr2
      have g : pI h' 36 0 = 1 * M0 + 0 + 0 := p4.1 (36, (none, 0), ([(2, 1)], 0)) List.mem_cons_self
      obtain ⟨n', a2, b2⟩ := locI (p2 (1, .inl (0, 200)) mm1) (p4.2.2.1 (1, ([(0, 1)], 0)) List.mem_cons_self)
      obtain ⟨k', a3, b3⟩ := locI (p2 (2, .inl (0, 200)) mm2) (p4.2.2.1 (2, ([(1, 1)], 0)) (List.mem_cons_of_mem _ List.mem_cons_self))
      have b2 : n'.toInt = 1 * n.toInt + 0 + 0 := b2
      have b3 : k'.toInt = 1 * k.toInt + 0 + 0 := b3
      refine zcallV (mi := 252) (as := [.int x]) zv_gm rfl (by rw [hi'.1]; rfl) ?_
      refine (zminG (d := 9) (by decide) hi' (by omega) (by omega) (by omega)).mono ?_
      rintro r h2 ⟨rfl, hi2, hm2, e2⟩
      refine spe_ok (mi := 252) (pc := 53) (d := 9) (fun i => [n'.toInt, k'.toInt, pI h2 36 0].getD i 0) gm_e (fun mi c hc _ => sTM_ok l Γ mi c hc) (by decide) ⟨locR (p2 (0, .inr (.inl 0)) List.mem_cons_self), ⟨n', a2, rfl, by show 0 ≤ n'.toInt; omega, by show n'.toInt ≤ 200; omega⟩, ⟨k', a3, rfl, by show 0 ≤ k'.toInt; omega, by show k'.toInt ≤ 199; omega⟩, trivial⟩ rfl (sA0_ok _) ⟨⟨rfl, by show 0 ≤ pI h2 36 0; omega, by show pI h2 36 0 ≤ 9000; omega⟩, trivial⟩ hi2 ?_ (fun e he => nomatch he)
      intro e he lo3 st3 h3 hp hi3 hm3
      have he := List.mem_singleton.mp he
      subst he
      obtain ⟨p1, p2, -, p4⟩ := hp
      have p1 : st3 = [] := p1
      subst p1
      have g3 : pI h3 36 0 = 1 * pI h2 36 0 + 0 + 0 := p4.1 (36, (none, 0), ([(2, 1)], 0)) List.mem_cons_self
      obtain ⟨n3, a23, b23⟩ := locI (p2 (1, .inl (0, 200)) mm1) (p4.2.2.1 (1, ([(0, 1)], 0)) List.mem_cons_self)
      obtain ⟨k3, a33, b33⟩ := locI (p2 (2, .inl (0, 200)) mm2) (p4.2.2.1 (2, ([(1, 1)], 1)) (List.mem_cons_of_mem _ List.mem_cons_self))
      have b23 : n3.toInt = 1 * n'.toInt + 0 + 0 := b23
      have b33 : k3.toInt = 1 * k'.toInt + 0 + 1 := b33
      exact ih lo3 h3 n3 k3 (M0 + 1) (locR (p2 (0, .inr (.inl 0)) List.mem_cons_self)) a23 a33 (by omega) (by omega) (by omega) hi3 (by omega) (by omega) (by omega) (fun y h9 ey i9 m9 e9 => hK y h9 (by omega) i9 ((((hm.sub s1).seq (hm2.sub s2)).seq (hm3.sub rfl)).seq m9) (by omega))
    · intro e he r' h' hp hi' hm
      have he := List.mem_singleton.mp he
      subst he
      have g : 0 ≤ -1 * n.toInt + (1 * k.toInt + 0) + 0 := hp.2.2.2.2.2 _ List.mem_cons_self
      omega
theorem zgoM {l : Launch} {Γ : zG} {h : zH} {n : Int32} {M0 : Int} (hi : sInv swM h) (hM : pI h 36 0 = M0) (h0 : 0 ≤ M0) (h1 : M0 ≤ 9000) : zSem l Γ false 10 (zhd 252) [.ref 0, .int n] h (fun r h' => r = some (.int (Int32.ofInt (goA M0 n.toInt))) ∧ sInv swM h' ∧ sMd gmM h h' ∧ pI h' 36 0 = goN M0 n.toInt) := by
  have nb := i32bd n
  obtain ⟨s1, s2, s3⟩ := gm_s
  by_cases hn : 0 ≤ n.toInt ∧ n.toInt ≤ 200
  · refine spf_ok (mi := 252) (d := 9) (fun i => [n.toInt, M0].getD i 0) gm_c (fun mi c hc _ => sTM_ok l Γ mi c hc) (by decide) ⟨_, _, rfl, rfl, _, _, rfl, ⟨n, rfl, hn.1, hn.2⟩, rfl⟩ ⟨rfl, ⟨n, rfl, rfl, hn.1, hn.2⟩, trivial⟩ (sA0_ok _) ⟨⟨hM, h0, h1⟩, trivial⟩ hi ?_ ?_
    · intro e he lo' st' h' hp hi' hm
      have he := List.mem_singleton.mp he
      subst he
      obtain ⟨p1, p2, -, p4⟩ := hp
      have p1 : st' = [] := p1
      subst p1
      have g : pI h' 36 0 = 1 * M0 + 0 + 0 := p4.1 (36, (none, 0), ([(1, 1)], 0)) List.mem_cons_self
      have gg : 0 ≤ -1 * n.toInt + (-1 * M0 + 0) + 9000 := p4.2.2.2 _ List.mem_cons_self
      obtain ⟨n', a2, b2⟩ := locI (p2 (1, .inl (0, 200)) mm1) (p4.2.2.1 (1, ([(0, 1)], 0)) List.mem_cons_self)
      obtain ⟨k', a3, b3⟩ := locI (p2 (2, .inl (0, 200)) mm2) (p4.2.2.1 (2, ([], 0)) (List.mem_cons_of_mem _ List.mem_cons_self))
      have b2 : n'.toInt = 1 * n.toInt + 0 + 0 := b2
      have b3 : k'.toInt = 0 + 0 := b3
      have ga : goA M0 n.toInt = M0 + n.toInt := if_pos ⟨hn.1, hn.2, by omega⟩
      have gn : goN M0 n.toInt = M0 + n.toInt := if_pos ⟨hn.1, hn.2, by omega⟩
      refine zgoL n.toInt.toNat lo' h' n' k' M0 (locR (p2 (0, .inr (.inl 0)) List.mem_cons_self)) a2 a3 (by omega) (by omega) (by omega) hi' (by omega) h0 (by omega) (fun y h9 ey i9 m9 e9 => ⟨?_, i9, (hm.sub s3).seq m9, by omega⟩)
      rw [ga, show M0 + n.toInt = y.toInt from by omega, Int32.ofInt_toInt]
    · intro e he r' h' hp hi' hm
      have he := List.mem_singleton.mp he
      subst he
      obtain ⟨⟨w, rfl, x, rfl, x1, x2⟩, -, p3⟩ := hp
      have x1 : -1 ≤ x.toInt := x1
      have x2 : x.toInt ≤ -1 := x2
      have g : pI h' 36 0 = 1 * M0 + 0 + 0 := p3.1 (36, (none, 0), ([(1, 1)], 0)) List.mem_cons_self
      have gg : 0 ≤ 1 * n.toInt + (1 * M0 + 0) + -9001 := p3.2.2.2 _ List.mem_cons_self
      have ga : goA M0 n.toInt = -1 := if_neg (by omega)
      have gn : goN M0 n.toInt = M0 := if_neg (by omega)
      refine ⟨?_, hi', hm.sub s3, by omega⟩
      rw [ga, show (-1 : Int) = x.toInt from by omega, Int32.ofInt_toInt]
  · have ga : goA M0 n.toInt = -1 := if_neg (fun g => hn ⟨g.1, g.2.1⟩)
    have gn : goN M0 n.toInt = M0 := if_neg (fun g => hn ⟨g.1, g.2.1⟩)
    rw [ga, gn]
    by_cases hlt : n.toInt < 0
    · refine spf_ok (mi := 252) (d := 9) (fun i => [n.toInt].getD i 0) gm_a2 (fun mi c hc _ => sTM_ok l Γ mi c hc) (by decide) ⟨_, _, rfl, rfl, _, _, rfl, ⟨n, rfl, nb.1, by show n.toInt ≤ -1; omega⟩, rfl⟩ ⟨rfl, ⟨n, rfl, rfl, nb.1, by show n.toInt ≤ -1; omega⟩, trivial⟩ (sA0_ok _) trivial hi (fun e he => nomatch he) ?_
      intro e he r' h' hp hi' hm
      have he := List.mem_singleton.mp he
      subst he
      exact ⟨rK_ok hp, hi', hm.sub (by decide +kernel), (pI_md hm rfl).trans hM⟩
    · refine spf_ok (mi := 252) (d := 9) (fun i => [n.toInt].getD i 0) gm_b2 (fun mi c hc _ => sTM_ok l Γ mi c hc) (by decide) ⟨_, _, rfl, rfl, _, _, rfl, ⟨n, rfl, by show 201 ≤ n.toInt; omega, nb.2⟩, rfl⟩ ⟨rfl, ⟨n, rfl, rfl, by show 201 ≤ n.toInt; omega, nb.2⟩, trivial⟩ (sA0_ok _) trivial hi (fun e he => nomatch he) ?_
      intro e he r' h' hp hi' hm
      have he := List.mem_singleton.mp he
      subst he
      exact ⟨rK_ok hp, hi', hm.sub (by decide +kernel), (pI_md hm rfl).trans hM⟩
