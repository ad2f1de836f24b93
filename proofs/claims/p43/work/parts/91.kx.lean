/-! keepText to the letter: what was read becomes what is told -/
def kxC : List (Nat × Nat) := [(4, 2), (5, 5), (6, 8), (7, 8), (8, 8), (9, 8), (10, 8), (11, 8), (12, 10), (13, 10), (14, 10), (15, 10), (16, 10), (17, 10), (18, 6)]
def kxF : List (Nat × Nat × Nat) := [(0, 18, 12), (0, 19, 13), (0, 20, 14), (0, 21, 15), (0, 22, 16), (0, 23, 17)] ++ kxC.flatMap (fun t => (List.range t.2).map (fun i => (t.1, t.2 + i, i)))
def kxP : List sP0 := kxF.map (fun t => (t.1, (none, (t.2.1 : Int)), sIv swMt t.1 t.2.1))
def kxG : List (Nat × Nat × Nat) → Nat → List (Nat × (Option Nat × Int) × sLn)
  | [], _ => []
  | t :: L, i => (t.1, (none, (t.2.2 : Int)), ([(i, 1)], 0)) :: kxG L (i + 1)
def kxE : sEf := (kxG kxF 0, [], [], [])
theorem kxB : spfB swMt sT0 kMd 20000 1 188 [sr0] sA0 kxP [(181, [], lL, sA0, kxE)] [] = true := by decide +kernel
def kxV (h : zH) (i : Nat) : Int := match kxF[i]? with
  | some t => pI h t.1 t.2.1
  | none => 0
theorem kxOk {h : zH} (hi : sInv swMt h) : ∀ (L : List (Nat × Nat × Nat)) (i : Nat), (∀ n, kxF[i + n]? = L[n]?) → sPok (kxV h) h (L.map (fun t => (t.1, (none, (t.2.1 : Int)), sIv swMt t.1 t.2.1))) i
  | [], _, _ => trivial
  | t :: L, i, hL => by
    have e0 : kxF[i]? = some t := hL 0
    have ev : kxV h i = pI h t.1 t.2.1 := by
      unfold kxV
      rw [e0]
    refine ⟨⟨?_, ?_, ?_⟩, kxOk hi L (i + 1) (fun n => by rw [show i + 1 + n = i + (n + 1) from by omega]; exact hL (n + 1))⟩
    · rw [ev]
      rfl
    · rw [ev]
      exact (hi.2.2.1 t.1 t.2.1).1
    · rw [ev]
      exact (hi.2.2.1 t.1 t.2.1).2
theorem kxG_m : ∀ (L : List (Nat × Nat × Nat)) (i n : Nat) (t : Nat × Nat × Nat), L[n]? = some t → (t.1, ((none, (t.2.2 : Int)) : Option Nat × Int), (([(i + n, 1)], 0) : sLn)) ∈ kxG L i
  | [], _, _, _, e => by cases e
  | u :: L, i, 0, t, e => by
    cases e
    exact List.mem_cons_self
  | u :: L, i, n + 1, t, e => by
    have g := kxG_m L (i + 1) n t e
    rw [show i + 1 + n = i + (n + 1) from by omega] at g
    exact List.mem_cons_of_mem _ g
/-- what the first part of keepText does -/
theorem zkpA {l : Launch} {Γ : zG} {d : Nat} {h : zH} (hi : sInv swMt h) {Kp : Option Value → zH → Prop} (hK : ∀ lo' h', (∃ v, zget lo' 0 = some v ∧ sTok sr0 v) → sInv swMt h' → sMd kMd h h' → (∀ t ∈ kxF, pI h' t.1 t.2.2 = pI h t.1 t.2.1) → zX l Γ false (d + 2) (zhd 188) (zMQ' Γ false (zhd 188) Kp) 0 0 181 lo' [] h') : zSem l Γ false (d + 2) (zhd 188) [.ref 0] h Kp := by
  refine spf_ok (d := d + 1) (kxV h) kxB (fun mi c h => nomatch h) (by omega) ⟨_, _, rfl, rfl, rfl⟩ ⟨rfl, trivial⟩ (sA0_ok _) (kxOk hi kxF 0 (fun n => by rw [Nat.zero_add])) hi ?_ (fun e he => nomatch he)
  intro e he lo' st' h' hp hi' hm'
  have he := List.mem_singleton.mp he
  subst he
  obtain ⟨p1, p2, p3, p4⟩ := hp
  have hs : st' = [] := p1
  subst hs
  refine hK lo' h' (p2 (0, sr0) List.mem_cons_self) hi' hm' (fun t ht => ?_)
  obtain ⟨n, en⟩ := List.mem_iff_getElem?.mp ht
  have g := p4.1 _ (kxG_m kxF 0 n t en)
  have ev : kxV h n = pI h t.1 t.2.1 := by
    unfold kxV
    rw [en]
  have g : pI h' t.1 t.2.2 = 1 * kxV h (0 + n) + 0 + 0 := g
  rw [g, Nat.zero_add, ev]
  omega
/-- the laws told, in the reference's heap -/
def LwT (N : zN) (S : zS) (h : zH) : Prop := S 10 ≤ 64 ∧ ∀ j, j < 3 → pI h 19 j = (S (7 + j) : Int) ∧ (S (7 + j) ≠ 0 → pI h 20 j = (S (14 + j) : Int) ∧ pI h 21 j = ((S (14 + j) + S (11 + j) : Nat) : Int) ∧ S (14 + j) + S (11 + j) ≤ S 10 ∧ kR (pI h 22) (pI h 23) (pI h 24) (S (14 + j)) (lsF (N (20 + j)) (S (11 + j))) ∧ (ixs (S (14 + j)) (lsF (N (20 + j)) (S (11 + j)))).length = 1)
theorem LwT.kept {N : zN} {S : zS} {h h' : zH} (hL : LwT N S h) (k : ∀ q j, (19 ≤ q ∧ q ≤ 21 ∧ j < 3) ∨ (22 ≤ q ∧ q ≤ 24 ∧ j < 64) → pI h' q j = pI h q j) : LwT N S h' := ⟨hL.1, fun j hj => ⟨(k _ _ (by omega)).trans (hL.2 j hj).1, fun h0 => by
  obtain ⟨a1, a2, a3, a4⟩ := (hL.2 j hj).2 h0
  have s10 := hL.1
  exact ⟨(k _ _ (by omega)).trans a1, (k _ _ (by omega)).trans a2, a3, kR_eq (fun i _ h2 => by
    rw [lsF_len] at h2
    exact ⟨k _ _ (by omega), k _ _ (by omega), k _ _ (by omega)⟩) a4.1, a4.2⟩⟩⟩
/-- what is told, in the reference's heap -/
def TM (N : zN) (S : zS) (h : zH) : Prop := (∀ j, j < 5 → pI h 0 (12 + j) = (S j : Int)) ∧ pI h 0 17 = (S 10 : Int) ∧ (∀ t ∈ colsA, ∀ i, i < S t.2.2.2 → pI h t.2.1 i = N t.1 i) ∧ (pI h 4 0 = N 14 0 ∧ pI h 4 1 = N 14 1) ∧ LwT N S h
theorem kxF_c : colsA.all (fun t => (List.range t.2.2.1).all (fun i => kxF.contains (t.2.1, t.2.2.1 + i, i))) = true := by decide +kernel
theorem kxF_n : (List.range 6).all (fun j => kxF.contains (0, 18 + j, 12 + j)) = true := by decide +kernel
theorem kxF_o : kxF.contains (4, 2, 0) = true ∧ kxF.contains (4, 3, 1) = true := by decide +kernel
def kxN (j : Nat) : Nat := if j = 0 then 5 else if j = 1 then 8 else if j = 4 then 6 else 10
theorem kxF_b : colsA.all (fun t => decide (kxN t.2.2.2 ≤ t.2.2.1) && decide (t.2.2.2 < 5)) = true := by decide +kernel
theorem RM.told {N : zN} {S : zS} {h h' : zH} (hi : sInv swM h) (hR : RM N S h) (k : ∀ t ∈ kxF, pI h' t.1 t.2.2 = pI h t.1 t.2.1) (kl : ∀ j, j < 3 → pI h' 19 j = pI h 19 (3 + j) ∧ pI h' 20 j = pI h 20 (3 + j) ∧ pI h' 21 j = pI h 21 (3 + j)) (kk : ∀ q i, q = 22 ∨ q = 23 ∨ q = 24 → i < 64 → pI h' q i = pI h q (64 + i)) : TM N S h' := by
  have kc : ∀ {t : Nat × Nat × Nat}, kxF.contains t = true → pI h' t.1 t.2.2 = pI h t.1 t.2.1 := fun hc => k _ (List.contains_iff_mem.mp hc)
  have n6 : ∀ j, j < 6 → pI h' 0 (12 + j) = pI h 0 (18 + j) := fun j hj => kc (List.all_eq_true.mp kxF_n j (List.mem_range.mpr hj))
  have s5 : ∀ j, j < 5 → pI h 0 (18 + j) = (S j : Int) := fun j hj => by
    have g := hR.1 j (by omega)
    have e : j = 0 ∨ j = 1 ∨ j = 2 ∨ j = 3 ∨ j = 4 := by omega
    rcases e with rfl | rfl | rfl | rfl | rfl <;> exact g
  have b5 : ∀ j, j < 5 → S j ≤ kxN j := fun j hj => by
    have g := hi.2.2.1 0 (18 + j)
    have g2 : pI h 0 (18 + j) ≤ (sIv swM 0 (18 + j)).2 := g.2
    rw [s5 j hj] at g2
    have e : j = 0 ∨ j = 1 ∨ j = 2 ∨ j = 3 ∨ j = 4 := by omega
    rcases e with rfl | rfl | rfl | rfl | rfl
    · rw [show (sIv swM 0 (18 + 0)).2 = 5 from by decide +kernel] at g2
      exact Int.ofNat_le.mp g2
    · rw [show (sIv swM 0 (18 + 1)).2 = 8 from by decide +kernel] at g2
      exact Int.ofNat_le.mp g2
    · rw [show (sIv swM 0 (18 + 2)).2 = 10 from by decide +kernel] at g2
      exact Int.ofNat_le.mp g2
    · rw [show (sIv swM 0 (18 + 3)).2 = 10 from by decide +kernel] at g2
      exact Int.ofNat_le.mp g2
    · rw [show (sIv swM 0 (18 + 4)).2 = 6 from by decide +kernel] at g2
      exact Int.ofNat_le.mp g2
  have s10 : S 10 ≤ 64 := by
    have g2 : pI h 0 51 = (S 10 : Int) := hR.1 10 (by decide)
    have b : 0 ≤ pI h 0 51 ∧ pI h 0 51 ≤ 64 := pbd (iv := (0, 64)) hi (by decide +kernel)
    omega
  refine ⟨fun j hj => (n6 j (by omega)).trans (s5 j hj), ?_, fun t ht i hlt => ?_, ⟨?_, ?_⟩, s10, fun j hj => ⟨?_, fun h0 => ?_⟩⟩
  · have g := n6 5 (by decide)
    have g2 : pI h 0 51 = (S 10 : Int) := hR.1 10 (by decide)
    have g3 := hR.2.2.2.1
    show pI h' 0 17 = _
    rw [← g2, ← g3]
    exact g
  · have hb := List.all_eq_true.mp kxF_b t ht
    simp only [Bool.and_eq_true, decide_eq_true_eq] at hb
    have hl := b5 t.2.2.2 hb.2
    have g := kc (List.all_eq_true.mp (List.all_eq_true.mp kxF_c t ht) i (List.mem_range.mpr (by omega)))
    exact g.trans (hR.2.1 t ht i hlt)
  · exact (kc kxF_o.1).trans hR.2.2.1.1
  · exact (kc kxF_o.2).trans hR.2.2.1.2
  · rw [(kl j hj).1]
    have hj' : j = 0 ∨ j = 1 ∨ j = 2 := by omega
    rcases hj' with rfl | rfl | rfl
    · exact hR.1 7 (by decide)
    · exact hR.1 8 (by decide)
    · exact hR.1 9 (by decide)
  · obtain ⟨a1, a2, a3, a4⟩ := hR.2.2.2.2.2 j hj h0
    rw [(kl j hj).2.1, (kl j hj).2.2]
    refine ⟨a1, a2, a3, kR_eq (fun i _ h2 => ?_) a4.1, a4.2⟩
    rw [lsF_len] at h2
    exact ⟨kk 22 i (by omega) (by omega), kk 23 i (by omega) (by omega), kk 24 i (by omega) (by omega)⟩
