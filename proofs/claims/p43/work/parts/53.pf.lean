/-! the reference's lineRead, keepText, text -/
def lnMd : sM := [(0, 4, 6), (0, 7, 12), (0, 18, 24), (0, 48, 54), (3, 0, 2), (4, 2, 4), (5, 5, 10), (6, 8, 16), (7, 8, 16), (8, 8, 16), (9, 8, 16), (10, 8, 16), (11, 8, 16), (12, 10, 20), (13, 10, 20), (14, 10, 20), (15, 10, 20), (16, 10, 20), (17, 10, 20), (18, 6, 12), (19, 3, 6), (20, 3, 6), (21, 3, 6), (22, 64, 128), (23, 64, 128), (24, 64, 128), (25, 0, 96), (26, 0, 96)]
/-- lines so far -/
def pU (h : zH) : Int := pI h 0 18 + pI h 0 19 + pI h 0 20 + pI h 0 21 + pI h 0 22 + pI h 3 0 + pI h 3 1 + pI h 19 3 + pI h 19 4 + pI h 19 5
def pN (h0 : zH) (r : Option Value) (h' : zH) : Prop := ∃ x : Int32, r = some (.int x) ∧ sInv swM h' ∧ sMd lnMd h0 h' ∧ (x.toInt = 0 ∨ (x.toInt = 1 ∧ sAok tkK h' ∧ pI h' 0 23 = pI h' 0 51 ∧ (∀ j, 3 ≤ j → j < 6 → pLaw h' j) ∧ pU h' = pU h0 + 1))
def nV (h : zH) : Nat → Int
  | 0 => pI h 0 18
  | 1 => pI h 0 19
  | 2 => pI h 0 20
  | 3 => pI h 0 21
  | 4 => pI h 0 22
  | 5 => pI h 3 0
  | 6 => pI h 3 1
  | 7 => pI h 19 3
  | 8 => pI h 19 4
  | _ => pI h 19 5
theorem nRl_ok {h h' : zH} {i : Nat} (hr : srlP (nV h) h' (nRl i)) : pI h' 0 18 = pI h 0 18 + (if i = 0 then 1 else 0) ∧ pI h' 0 19 = pI h 0 19 + (if i = 1 then 1 else 0) ∧ pI h' 0 20 = pI h 0 20 + (if i = 2 then 1 else 0) ∧ pI h' 0 21 = pI h 0 21 + (if i = 3 then 1 else 0) ∧ pI h' 0 22 = pI h 0 22 + (if i = 4 then 1 else 0) ∧ pI h' 3 0 = pI h 3 0 + (if i = 5 then 1 else 0) ∧ pI h' 3 1 = pI h 3 1 + (if i = 6 then 1 else 0) ∧ pI h' 19 3 = pI h 19 3 + (if i = 7 then 1 else 0) ∧ pI h' 19 4 = pI h 19 4 + (if i = 8 then 1 else 0) ∧ pI h' 19 5 = pI h 19 5 + (if i = 9 then 1 else 0) := by
  have key : ∀ t ∈ nRl i, pI h' t.1 t.2.1 = nV h t.2.2.1 + t.2.2.2 := hr
  simp only [nRl, List.forall_mem_cons] at key
  obtain ⟨a0, a1, a2, a3, a4, a5, a6, a7, a8, a9, -⟩ := key
  exact ⟨a0, a1, a2, a3, a4, a5, a6, a7, a8, a9⟩
theorem zline {l : Launch} {Γ : zG} {d : Nat} (hd : 4 ≤ d) {h : zH} (hi : sInv swM h) (hK : sAok tkK h) (he : pI h 0 23 = pI h 0 51) (hl : ∀ j, 3 ≤ j → j < 6 → pLaw h j) : zSem l Γ false (d + 1) (zhd 201) [.ref 0] h (pN h) := by
  obtain ⟨d1, rfl⟩ : ∃ d1, d = d1 + 1 := ⟨d - 1, by omega⟩
  have b : ∀ {q k : Nat} {iv : Int × Int}, sIv swM q k = iv → iv.1 ≤ pI h q k ∧ pI h q k ≤ iv.2 := fun e => pbd hi e
  have law : ∀ {k : Nat} {h1 : zH} {lo' : zL} (i : Nat), k ∈ [3, 4, 5] → k = i - 4 → (∀ q ∈ nL (k : Int), ∃ v, zget lo' q.1 = some v ∧ sTok q.2 v) → sInv swM h1 → sMd nMd h h1 → sAok tkK h1 → srlP (nV h) h1 (nRl i) → zX l Γ false (d1 + 1 + 1) (zhd 201) (zMQ' Γ false (zhd 201) (pN h)) 0 0 213 lo' ([] ++ [.ref 0]) h1 := by
    intro k h1 lo' i hk hki hL hi1 hm1 hK1 hr
    obtain ⟨a0, a1, a2, a3, a4, a5, a6, a7, a8, a9⟩ := nRl_ok hr
    have f23 : pI h1 0 23 = pI h 0 23 := pI_md hm1 rfl
    have f51 : pI h1 0 51 = pI h 0 51 := pI_md hm1 rfl
    refine zcallV (as := []) zv_n rfl (by rw [hi1.1]; rfl) ?_
    refine (zsum (d := d1) (by omega) hi1 hK1 (by omega)).mono ?_
    rintro rr h2 ⟨x, rfl, hi2, hm2, hx | ⟨hx, hK2, e2, g2⟩⟩
    · refine spq_ok (pc := 216) (fun _ => 0) (List.all_eq_true.mp nB1_ok k hk) (sTPd l Γ 2) (by omega) hL (sA0_ok _) trivial hi2 ⟨x, [], rfl, hx, rfl⟩ (fun e he => nomatch he) ?_
      intro e he r' h3 hp hi3 hm3
      have e := List.mem_singleton.mp he
      subst e
      obtain ⟨v, er, y, rfl, y1, y2⟩ := hp.1
      have y1 : 0 ≤ y.toInt := y1
      have y2 : y.toInt ≤ 0 := y2
      exact ⟨y, er, hi3, ((hm1.sub rfl).seq (hm2.sub rfl)).seq (hm3.sub rfl), Or.inl (by omega)⟩
    · have hk3 : 3 ≤ k ∧ k < 6 := by
        simp only [List.mem_cons, List.not_mem_nil, or_false] at hk
        omega
      have b23 : 0 ≤ pI h2 0 23 ∧ pI h2 0 23 ≤ 64 := pbd (iv := (0, 64)) hi2 (by decide +kernel)
      have sb : ∀ q j, smem [(21, k, k + 1), (0, 4, 6), (0, 7, 11)] q j = true → smem lnMd q j = true := by
        have hk' := hk
        simp only [List.mem_cons, List.not_mem_nil, or_false] at hk'
        rcases hk' with rfl | rfl | rfl <;> exact smd_sub rfl
      have off : ∀ j, j ≠ k → smem [(21, k, k + 1), (0, 4, 6), (0, 7, 11)] 21 j = false := fun j hj => by
        cases hc : smem [(21, k, k + 1), (0, 4, 6), (0, 7, 11)] 21 j with
        | false => rfl
        | true =>
          simp only [smem, List.any_cons, List.any_nil, Bool.or_eq_true, Bool.and_eq_true, beq_iff_eq, decide_eq_true_eq, Bool.or_false] at hc
          omega
      refine spq_ok (pc := 216) (fun _ => 0) (List.all_eq_true.mp nB2_ok k hk) (sTPd l Γ 2) (by omega) hL (hK2.add (sfm ⟨by show 1 ≤ pI h2 0 23; omega, by show pI h2 0 23 ≤ 64; omega⟩ (fun _ h => nomatch h))) trivial hi2 ⟨x, [], rfl, hx, rfl⟩ (fun e he => nomatch he) ?_
      intro e he r' h3 hp hi3 hm3
      have md3 : sMd lnMd h h3 := ((hm1.sub rfl).seq (hm2.sub rfl)).tr hm3 sb
      simp only [List.mem_cons, List.not_mem_nil, or_false] at he
      rcases he with rfl | rfl
      · obtain ⟨v, er, y, rfl, y1, y2⟩ := hp.1
        have y1 : 0 ≤ y.toInt := y1
        have y2 : y.toInt ≤ 0 := y2
        exact ⟨y, er, hi3, md3, Or.inl (by omega)⟩
      · obtain ⟨v, er, y, rfl, y1, y2⟩ := hp.1
        have y1 : 1 ≤ y.toInt := y1
        have y2 : y.toInt ≤ 1 := y2
        obtain ⟨t1, t2⟩ := hp.2.1.rest
        have tk : 1 ≤ pI h3 21 k ∧ pI h3 21 k ≤ 64 := t1 (21, k, (1, 64)) List.mem_cons_self
        have g : ∀ q j, q = 3 ∨ q = 19 → pI h3 q j = pI h1 q j := fun q j hq => by
          rcases hq with rfl | rfl
          · exact (pI_md hm3 (smem_q rfl j)).trans (pI_md hm2 (smem_q rfl j))
          · exact (pI_md hm3 (smem_q rfl j)).trans (pI_md hm2 (smem_q rfl j))
        have n18 : pI h3 0 18 = pI h1 0 18 := (pI_md hm3 rfl).trans (pI_md hm2 rfl)
        have n19 : pI h3 0 19 = pI h1 0 19 := (pI_md hm3 rfl).trans (pI_md hm2 rfl)
        have n20 : pI h3 0 20 = pI h1 0 20 := (pI_md hm3 rfl).trans (pI_md hm2 rfl)
        have n21 : pI h3 0 21 = pI h1 0 21 := (pI_md hm3 rfl).trans (pI_md hm2 rfl)
        have n22 : pI h3 0 22 = pI h1 0 22 := (pI_md hm3 rfl).trans (pI_md hm2 rfl)
        have n23 : pI h3 0 23 = pI h2 0 23 := pI_md hm3 rfl
        have n51 : pI h3 0 51 = pI h2 0 51 := pI_md hm3 rfl
        refine ⟨y, er, hi3, md3, Or.inr ⟨by omega, t2, by omega, fun j j3 j6 => ?_, ?_⟩⟩
        · by_cases ej : j = k
          · subst ej
            exact fun _ => tk
          · refine (hl j j3 j6).congr ((g 19 j (Or.inr rfl)).trans ?_) ((pI_md hm3 (off j ej)).trans ((pI_md hm2 (smem_q rfl j)).trans (pI_md hm1 (smem_q rfl j))))
            have j345 : j = 3 ∨ j = 4 ∨ j = 5 := by omega
            rcases j345 with rfl | rfl | rfl
            · rw [a7, if_neg (by omega)]
              omega
            · rw [a8, if_neg (by omega)]
              omega
            · rw [a9, if_neg (by omega)]
              omega
        · unfold pU
          rw [n18, n19, n20, n21, n22, g 3 0 (Or.inl rfl), g 3 1 (Or.inl rfl), g 19 3 (Or.inr rfl), g 19 4 (Or.inr rfl), g 19 5 (Or.inr rfl), a0, a1, a2, a3, a4, a5, a6, a7, a8, a9]
          have i789 : i = 7 ∨ i = 8 ∨ i = 9 := by omega
          rcases i789 with rfl | rfl | rfl <;> simp <;> omega
  have other : ∀ (i : Nat), i < 7 → ∀ r' h', sRp (nV h) (nR i) r' h' → sInv swM h' → sMd nMd h h' → pN h r' h' := by
    intro i hi7 r' h' hp hi' hm
    obtain ⟨v, er, y, rfl, y1, y2⟩ := hp.1
    have y1 : 1 ≤ y.toInt := y1
    have y2 : y.toInt ≤ 1 := y2
    obtain ⟨a0, a1, a2, a3, a4, a5, a6, a7, a8, a9⟩ := nRl_ok hp.2.2
    have f23 : pI h' 0 23 = pI h 0 23 := pI_md hm rfl
    have f51 : pI h' 0 51 = pI h 0 51 := pI_md hm rfl
    refine ⟨y, er, hi', hm.sub rfl, Or.inr ⟨by omega, hp.2.1, by omega, fun j j3 j6 => ?_, ?_⟩⟩
    · refine (hl j j3 j6).congr ?_ (pI_md hm (smem_q rfl j))
      have j345 : j = 3 ∨ j = 4 ∨ j = 5 := by omega
      rcases j345 with rfl | rfl | rfl
      · rw [a7, if_neg (by omega)]
        omega
      · rw [a8, if_neg (by omega)]
        omega
      · rw [a9, if_neg (by omega)]
        omega
    · unfold pU
      rw [a0, a1, a2, a3, a4, a5, a6, a7, a8, a9]
      have i7 : i = 0 ∨ i = 1 ∨ i = 2 ∨ i = 3 ∨ i = 4 ∨ i = 5 ∨ i = 6 := by omega
      rcases i7 with rfl | rfl | rfl | rfl | rfl | rfl | rfl <;> simp <;> omega
  refine spm_ok (nV h) nB0 (sTPd l Γ 4) hd ⟨_, _, rfl, rfl, rfl⟩ hK ⟨⟨rfl, b (iv := (0, 5)) (by decide +kernel)⟩, ⟨rfl, b (iv := (0, 8)) (by decide +kernel)⟩, ⟨rfl, b (iv := (0, 10)) (by decide +kernel)⟩, ⟨rfl, b (iv := (0, 10)) (by decide +kernel)⟩, ⟨rfl, b (iv := (0, 6)) (by decide +kernel)⟩, ⟨rfl, b (iv := (0, 1)) (by decide +kernel)⟩, ⟨rfl, b (iv := (0, 1)) (by decide +kernel)⟩, ⟨rfl, b (iv := (0, 1)) (by decide +kernel)⟩, ⟨rfl, b (iv := (0, 1)) (by decide +kernel)⟩, ⟨rfl, b (iv := (0, 1)) (by decide +kernel)⟩, trivial⟩ hi ?_ ?_
  · intro e he lo' st' h1 hp hi1 hm1
    simp only [List.mem_cons, List.not_mem_nil, or_false] at he
    obtain ⟨p1, p2, p3, p4, p5⟩ := hp
    rcases he with rfl | rfl | rfl
    · obtain ⟨vr, _, rfl, hr, hn⟩ := p1
      have hr : vr = .ref 0 := hr
      subst hr
      have hn : _ = [] := hn
      subst hn
      exact law (k := 3) 7 (by decide) rfl p2 hi1 hm1 p3 p4
    · obtain ⟨vr, _, rfl, hr, hn⟩ := p1
      have hr : vr = .ref 0 := hr
      subst hr
      have hn : _ = [] := hn
      subst hn
      exact law (k := 4) 8 (by decide) rfl p2 hi1 hm1 p3 p4
    · obtain ⟨vr, _, rfl, hr, hn⟩ := p1
      have hr : vr = .ref 0 := hr
      subst hr
      have hn : _ = [] := hn
      subst hn
      exact law (k := 5) 9 (by decide) rfl p2 hi1 hm1 p3 p4
  · intro e he r' h' hp hi' hm
    simp only [List.mem_cons, List.not_mem_nil, or_false] at he
    rcases he with rfl | rfl | rfl | rfl | rfl | rfl | rfl | rfl
    · obtain ⟨v, er, y, rfl, y1, y2⟩ := hp.1
      have y1 : 0 ≤ y.toInt := y1
      have y2 : y.toInt ≤ 0 := y2
      exact ⟨y, er, hi', hm.sub rfl, Or.inl (by omega)⟩
    · exact other 0 (by decide) r' h' hp hi' hm
    · exact other 1 (by decide) r' h' hp hi' hm
    · exact other 2 (by decide) r' h' hp hi' hm
    · exact other 3 (by decide) r' h' hp hi' hm
    · exact other 4 (by decide) r' h' hp hi' hm
    · exact other 5 (by decide) r' h' hp hi' hm
    · exact other 6 (by decide) r' h' hp hi' hm
/-! copies of knots -/
theorem zcopyL {l : Launch} {Γ : zG} {d q : Nat} (hq : q ∈ [22, 23, 24]) {h0 : zH} {K : Option Value → zH → Prop} (hK : ∀ h', sInv swMt h' → sMd [(q, 0, 64)] h0 h' → (∀ i, i < 64 → pI h' q i = pI h0 q (64 + i)) → K none h') : ∀ (n k : Nat), k + n = 64 → ∀ (h : zH) (lo : zL), (∀ t ∈ cL q (k : Int), ∃ v, zget lo t.1 = some v ∧ sTok t.2 v) → sInv swMt h → sMd [(q, 0, 64)] h0 h → (∀ i, i < k → pI h q i = pI h0 q (64 + i)) → zX l Γ false (d + 1) (zhd 189) (zMQ' Γ false (zhd 189) K) 0 0 2 lo [] h
  | 0, k, hk, h, lo, hL, hi, hm, hc => by
    have e : k = 64 := by omega
    subst e
    refine spq_ok (fun _ => 0) (List.all_eq_true.mp cB1_ok q hq) (fun mi c h => nomatch h) (Nat.zero_le _) hL (sA0_ok _) trivial hi rfl (fun e he => nomatch he) ?_
    intro e he r' h' hp hi' hm'
    have e := List.mem_singleton.mp he
    subst e
    have hr : r' = none := hp.1
    subst hr
    exact hK h' hi' (hm.seq (hm'.sub rfl)) (fun i hlt => (pI_md hm' rfl).trans (hc i hlt))
  | n + 1, k, hk, h, lo, hL, hi, hm, hc => by
    have hk64 : k < 64 := by omega
    have off : ∀ j, j ≠ k → smem [(q, k, k + 1)] q j = false := fun j hj => by
      cases hc : smem [(q, k, k + 1)] q j with
      | false => rfl
      | true =>
        simp only [smem, List.any_cons, List.any_nil, Bool.and_eq_true, beq_iff_eq, decide_eq_true_eq, Bool.or_false] at hc
        omega
    have up : ∀ j, 64 ≤ j → smem [(q, 0, 64)] q j = false := fun j hj => by
      cases hc : smem [(q, 0, 64)] q j with
      | false => rfl
      | true =>
        simp only [smem, List.any_cons, List.any_nil, Bool.and_eq_true, beq_iff_eq, decide_eq_true_eq, Bool.or_false] at hc
        omega
    refine spq_ok (fun _ => pI h q (64 + k)) (List.all_eq_true.mp (List.all_eq_true.mp cB_ok q hq) k (List.mem_range.mpr hk64)) (fun mi c h => nomatch h) (Nat.zero_le _) hL (sA0_ok _) ⟨⟨?_, ?_⟩, trivial⟩ hi rfl ?_ (fun e he => nomatch he)
    · show (h.2.1 q (64 + (k : Int)).toNat).toInt = pI h q (64 + k)
      have e : (64 + (k : Int)).toNat = 64 + k := by omega
      rw [e]
      rfl
    · have hb := hi.2.2.1 q (64 + k)
      simp only [List.mem_cons, List.not_mem_nil, or_false] at hq
      rcases hq with rfl | rfl | rfl
      · have e : sIv swMt 22 (64 + k) = (0, 14) := by
          show sgAt [(128, 0, 14)] (64 + k) = (0, 14)
          simp only [sgAt]
          rw [if_pos (by omega)]
        rw [e] at hb
        exact hb
      · have e : sIv swMt 23 (64 + k) = (0, 9999) := by
          show sgAt [(128, 0, 9999)] (64 + k) = (0, 9999)
          simp only [sgAt]
          rw [if_pos (by omega)]
        rw [e] at hb
        exact hb
      · have e : sIv swMt 24 (64 + k) = (-1, 63) := by
          show sgAt [(128, -1, 63)] (64 + k) = (-1, 63)
          simp only [sgAt]
          rw [if_pos (by omega)]
        rw [e] at hb
        exact hb
    · intro e he lo' st' h' hp hi' hm'
      have e := List.mem_singleton.mp he
      subst e
      have hs : st' = [] := hp.1
      subst hs
      have r1 : pI h' q k = pI h q (64 + k) + 0 := hp.2.2.2.1 (q, k, 0, 0) List.mem_cons_self
      refine zcopyL hq hK n (k + 1) (by omega) h' lo' ?_ hi' (hm.tr hm' (fun q' j hj => ?_)) (fun i hlt => ?_)
      · have e : ((k + 1 : Nat) : Int) = (k : Int) + 1 := by omega
        rw [e]
        exact hp.2.1
      · simp only [smem, List.any_cons, List.any_nil, Bool.and_eq_true, beq_iff_eq, decide_eq_true_eq, Bool.or_false] at hj ⊢
        omega
      · by_cases e : i = k
        · subst e
          have : pI h q (64 + i) = pI h0 q (64 + i) := pI_md hm (up _ (by omega))
          omega
        · rw [pI_md hm' (off i e)]
          exact hc i (by omega)
theorem zcopies {l : Launch} {Γ : zG} {d q : Nat} (hq : q ∈ [22, 23, 24]) {x : Int32} (hx : x.toInt = 64) {h : zH} (hi : sInv swMt h) : zSem l Γ false (d + 1) (zhd 189) [.ref q, .int x] h (fun r h' => r = none ∧ sInv swMt h' ∧ sMd [(q, 0, 64)] h h' ∧ ∀ i, i < 64 → pI h' q i = pI h q (64 + i)) := by
  refine spm_ok (fun _ => 0) (List.all_eq_true.mp cB0_ok q hq) (fun mi c h => nomatch h) (Nat.zero_le _) ⟨_, _, rfl, rfl, _, _, rfl, ⟨x, rfl, by show 64 ≤ x.toInt; omega, by show x.toInt ≤ 64; omega⟩, rfl⟩ (sA0_ok _) trivial hi ?_ (fun e he => nomatch he)
  intro e he lo' st' h1 hp hi1 hm1
  have e := List.mem_singleton.mp he
  subst e
  have hs : st' = [] := hp.1
  subst hs
  have w : ∀ q j, pI h1 q j = pI h q j := fun q j => pI_md hm1 rfl
  refine zcopyL hq (h0 := h1) (fun h' a1 a2 a3 => ⟨rfl, a1, sMd.seq (hm1.sub rfl) a2, fun i hlt => (a3 i hlt).trans (w q _)⟩) 64 0 rfl h1 lo' hp.2.1 hi1 sMd.rf (fun i hlt => absurd hlt (Nat.not_lt_zero _))
theorem sTMd (l : Launch) (Γ : zG) (dep : Nat) : ∀ mi, ∀ c ∈ sTM mi, c.2.2.2.2.2 ≤ dep → sCon l Γ swM mi c := fun mi c hc _ => sTM_ok l Γ mi c hc
theorem kTd (l : Launch) (Γ : zG) (dep : Nat) : ∀ mi, ∀ c ∈ kT mi, c.2.2.2.2.2 ≤ dep → sCon l Γ swMt mi c := fun mi c hc _ => by
  unfold kT at hc
  split at hc
  · rename_i e
    subst e
    obtain ⟨t, ht, rfl⟩ := List.mem_map.mp hc
    exact schk_ok (T := sT0) (fun _ _ h => nomatch h) (List.all_eq_true.mp kCs_ok t ht)
  · cases hc
theorem zkeep {l : Launch} {Γ : zG} {d : Nat} (hd : 8 ≤ d) {h : zH} (hi : sInv swM h) (hl : ∀ j, 3 ≤ j → j < 6 → pLaw h j) : zSem l Γ false (d + 1) (zhd 188) [.ref 0] h (fun r h' => r = none ∧ sInv swM h' ∧ sMd aMd h h') := by
  obtain ⟨d1, rfl⟩ : ∃ d1, d = d1 + 1 := ⟨d - 1, by omega⟩
  obtain ⟨hit, hrow, hlaw⟩ := sto hi
  have b19 : ∀ j, j < 6 → pI h 19 j = 0 ∨ pI h 19 j = 1 := fun j hj => by
    have e : sIv swM 19 j = (0, 1) := by
      show sgAt [(6, 0, 1)] j = (0, 1)
      simp only [sgAt]
      rw [if_pos hj]
    have := pbd hi e
    simp only at this
    omega
  have b21 : ∀ j, j < 6 → 0 ≤ pI h 21 j ∧ pI h 21 j ≤ 64 := fun j hj => by
    have e : sIv swM 21 j = (0, 64) := by
      show sgAt [(6, 0, 64)] j = (0, 64)
      simp only [sgAt]
      rw [if_pos hj]
    exact pbd hi e
  have kiv : ∀ j, 3 ≤ j → j < 6 → (kIv (pI h 19 j)).1 ≤ pI h 21 j ∧ pI h 21 j ≤ (kIv (pI h 19 j)).2 := fun j j3 j6 => by
    unfold kIv
    split
    · rename_i e
      exact hl j j3 j6 e
    · exact b21 j j6
  have hkB : kB (pI h 19 3) (pI h 19 4) (pI h 19 5) = true := by
    have m : ∀ j, j < 6 → pI h 19 j ∈ ([0, 1] : List Int) := fun j hj => by
      rcases b19 j hj with e | e <;> rw [e] <;> decide
    exact List.all_eq_true.mp (List.all_eq_true.mp (List.all_eq_true.mp kB_ok _ (m 3 (by decide))) _ (m 4 (by decide))) _ (m 5 (by decide))
  refine spm_ok (fun _ => 0) kB_0 (kTd l Γ 1) (by omega) ⟨_, _, rfl, rfl, rfl⟩ (sA0_ok _) trivial hit ?_ (fun e he => nomatch he)
  intro e he lo0 st0 h9 hp hi9 hm9
  have e := List.mem_singleton.mp he
  subst e
  obtain ⟨p1, p2, p3, p4, p5⟩ := hp
  have hs : st0 = [] := p1
  subst hs
  have n19 : ∀ j, pI h9 19 j = pI h 19 j := fun j => pI_md hm9 (smem_q rfl j)
  have n21 : ∀ j, pI h9 21 j = pI h 21 j := fun j => pI_md hm9 (smem_q rfl j)
  have c19 : ∀ j, sPlP h9 (19, j, (pI h 19 j, pI h 19 j)) := fun j => ⟨by show pI h 19 j ≤ pI h9 19 j; rw [n19]; exact Int.le_refl _, by show pI h9 19 j ≤ pI h 19 j; rw [n19]; exact Int.le_refl _⟩
  have c21 : ∀ j, 3 ≤ j → j < 6 → sPlP h9 (21, j, kIv (pI h 19 j)) := fun j a b => ⟨by show _ ≤ pI h9 21 j; rw [n21]; exact (kiv j a b).1, by show pI h9 21 j ≤ _; rw [n21]; exact (kiv j a b).2⟩
  refine spq_ok (fun _ => 0) hkB (kTd l Γ 1) (by omega) p2 (sAok.of (sfm (c19 3) (sfm (c19 4) (sfm (c19 5) (sfm (c21 3 (by decide) (by decide)) (sfm (c21 4 (by decide) (by decide)) (sfm (c21 5 (by decide) (by decide)) (fun _ h => nomatch h)))))))) trivial hi9 rfl ?_ (fun e he => nomatch he)
  intro e he lo' st' h1 hp hi1 hm1
  have e := List.mem_singleton.mp he
  subst e
  obtain ⟨p1, p2, p3, p4, p5⟩ := hp
  obtain ⟨_, _, rfl, ⟨x, rfl, hx1, hx2⟩, vr, _, rfl, hr, hn⟩ := p1
  have hx1 : 64 ≤ x.toInt := hx1
  have hx2 : x.toInt ≤ 64 := hx2
  have hr : vr = .ref 22 := hr
  subst hr
  have hn : _ = [] := hn
  subst hn
  -- what laws are told
  have t0 : pI h 19 3 ≤ pI h1 19 0 ∧ pI h1 19 0 ≤ pI h 19 3 := p3.1 (19, 0, (pI h 19 3, pI h 19 3)) List.mem_cons_self
  have t1 : pI h 19 4 ≤ pI h1 19 1 ∧ pI h1 19 1 ≤ pI h 19 4 := p3.1 (19, 1, (pI h 19 4, pI h 19 4)) (List.mem_cons_of_mem _ List.mem_cons_self)
  have t2 : pI h 19 5 ≤ pI h1 19 2 ∧ pI h1 19 2 ≤ pI h 19 5 := p3.1 (19, 2, (pI h 19 5, pI h 19 5)) (List.mem_cons_of_mem _ (List.mem_cons_of_mem _ List.mem_cons_self))
  have s0 : (kIv (pI h 19 3)).1 ≤ pI h1 21 0 ∧ pI h1 21 0 ≤ (kIv (pI h 19 3)).2 := p3.1 (21, 0, kIv (pI h 19 3)) (List.mem_cons_of_mem _ (List.mem_cons_of_mem _ (List.mem_cons_of_mem _ List.mem_cons_self)))
  have s1 : (kIv (pI h 19 4)).1 ≤ pI h1 21 1 ∧ pI h1 21 1 ≤ (kIv (pI h 19 4)).2 := p3.1 (21, 1, kIv (pI h 19 4)) (List.mem_cons_of_mem _ (List.mem_cons_of_mem _ (List.mem_cons_of_mem _ (List.mem_cons_of_mem _ List.mem_cons_self))))
  have s2 : (kIv (pI h 19 5)).1 ≤ pI h1 21 2 ∧ pI h1 21 2 ≤ (kIv (pI h 19 5)).2 := p3.1 (21, 2, kIv (pI h 19 5)) (List.mem_cons_of_mem _ (List.mem_cons_of_mem _ (List.mem_cons_of_mem _ (List.mem_cons_of_mem _ (List.mem_cons_of_mem _ List.mem_cons_self)))))
  have L1 : ∀ j, j < 3 → pLaw h1 j := by
    have key : ∀ (t : Int) (j : Nat), (t ≤ pI h1 19 j ∧ pI h1 19 j ≤ t) → ((kIv t).1 ≤ pI h1 21 j ∧ pI h1 21 j ≤ (kIv t).2) → pLaw h1 j := fun t j ht hk e => by
      have et : t = 1 := by omega
      rw [et] at hk
      exact hk
    intro j hj
    have j3 : j = 0 ∨ j = 1 ∨ j = 2 := by omega
    rcases j3 with rfl | rfl | rfl
    · exact key _ 0 t0 s0
    · exact key _ 1 t1 s1
    · exact key _ 2 t2 s2
  have q1 : ∀ q i, q = 22 ∨ q = 23 ∨ q = 24 → pI h1 q i = pI h q i := fun q i hq => by
    rcases hq with rfl | rfl | rfl <;> exact (pI_md hm1 (smem_q rfl i)).trans (pI_md hm9 (smem_q rfl i))
  refine zcallS (as := [.int x, .ref 22]) zv_k0 rfl ?_
  refine (zcopies (by decide) (by omega) hi1).mono ?_
  rintro rr h2 ⟨rfl, hi2, hm2, c2⟩
  refine spq_ok (pc := 233) (fun _ => 0) kB1 (fun mi c h => nomatch h) (Nat.zero_le _) p2 (sA0_ok _) trivial hi2 rfl ?_ (fun e he => nomatch he)
  intro e he lo3 st3 h3 hp hi3 hm3
  have e := List.mem_singleton.mp he
  subst e
  obtain ⟨p1, p2, p3, p4, p5⟩ := hp
  obtain ⟨_, _, rfl, ⟨x3, rfl, hx1, hx2⟩, vr, _, rfl, hr, hn⟩ := p1
  have hx1 : 64 ≤ x3.toInt := hx1
  have hx2 : x3.toInt ≤ 64 := hx2
  have hr : vr = .ref 23 := hr
  subst hr
  have hn : _ = [] := hn
  subst hn
  refine zcallS (as := [.int x3, .ref 23]) zv_k1 rfl ?_
  refine (zcopies (by decide) (by omega) hi3).mono ?_
  rintro rr h4 ⟨rfl, hi4, hm4, c4⟩
  refine spq_ok (pc := 242) (fun _ => 0) kB2 (fun mi c h => nomatch h) (Nat.zero_le _) p2 (sA0_ok _) trivial hi4 rfl ?_ (fun e he => nomatch he)
  intro e he lo5 st5 h5 hp hi5 hm5
  have e := List.mem_singleton.mp he
  subst e
  obtain ⟨p1, p2, p3, p4, p5⟩ := hp
  obtain ⟨_, _, rfl, ⟨x5, rfl, hx1, hx2⟩, vr, _, rfl, hr, hn⟩ := p1
  have hx1 : 64 ≤ x5.toInt := hx1
  have hx2 : x5.toInt ≤ 64 := hx2
  have hr : vr = .ref 24 := hr
  subst hr
  have hn : _ = [] := hn
  subst hn
  refine zcallS (as := [.int x5, .ref 24]) zv_k2 rfl ?_
  refine (zcopies (by decide) (by omega) hi5).mono ?_
  rintro rr h6 ⟨rfl, hi6, hm6, c6⟩
  have w3 : ∀ q j, pI h3 q j = pI h2 q j := fun q j => pI_md hm3 rfl
  have w5 : ∀ q j, pI h5 q j = pI h4 q j := fun q j => pI_md hm5 rfl
  have up : ∀ q j, 64 ≤ j → smem [(q, 0, 64)] q j = false := fun q j hj => by
    cases hc : smem [(q, 0, 64)] q j with
    | false => rfl
    | true =>
      simp only [smem, List.any_cons, List.any_nil, Bool.and_eq_true, beq_iff_eq, decide_eq_true_eq, Bool.or_false] at hc
      omega
  have r22 : ∀ i, pI h6 22 i = pI h2 22 i := fun i => (pI_md hm6 (smem_q rfl i)).trans ((w5 22 i).trans ((pI_md hm4 (smem_q rfl i)).trans (w3 22 i)))
  have r23 : ∀ i, pI h6 23 i = pI h4 23 i := fun i => (pI_md hm6 (smem_q rfl i)).trans (w5 23 i)
  have o23 : ∀ i, pI h3 23 i = pI h 23 i := fun i => (w3 23 i).trans ((pI_md hm2 (smem_q rfl i)).trans (q1 23 i (by omega)))
  have o24 : ∀ i, pI h5 24 i = pI h 24 i := fun i => (w5 24 i).trans ((pI_md hm4 (smem_q rfl i)).trans ((w3 24 i).trans ((pI_md hm2 (smem_q rfl i)).trans (q1 24 i (by omega)))))
  have hi6' : sInv swM h6 := by
    refine sof hi6 (fun i hlt => ?_) (fun j hlt => ?_)
    · by_cases h64 : i < 64
      · refine (hrow (64 + i) (by omega)).congr ?_ ?_ ?_
        · rw [r22, c2 i h64, q1 22 _ (by omega)]
        · rw [r23, c4 i h64, o23]
        · rw [c6 i h64, o24]
      · refine (hrow i hlt).congr ?_ ?_ ?_
        · rw [r22, pI_md hm2 (up 22 i (by omega)), q1 22 _ (by omega)]
        · rw [r23, pI_md hm4 (up 23 i (by omega)), o23]
        · rw [pI_md hm6 (up 24 i (by omega)), o24]
    · have a : ∀ q j, q = 19 ∨ q = 21 → pI h6 q j = pI h1 q j := fun q j hq => by
        rcases hq with rfl | rfl
        · exact (pI_md hm6 (smem_q rfl j)).trans ((w5 19 j).trans ((pI_md hm4 (smem_q rfl j)).trans ((w3 19 j).trans (pI_md hm2 (smem_q rfl j)))))
        · exact (pI_md hm6 (smem_q rfl j)).trans ((w5 21 j).trans ((pI_md hm4 (smem_q rfl j)).trans ((w3 21 j).trans (pI_md hm2 (smem_q rfl j)))))
      exact (L1 j hlt).congr (a 19 j (Or.inl rfl)) (a 21 j (Or.inr rfl))
  refine spq_ok (pc := 251) (fun _ => 0) kB3 (sTMd l Γ 8) (by omega) p2 (sA0_ok _) trivial hi6' rfl (fun e he => nomatch he) ?_
  intro e he r' h7 hp hi7 hm7
  have e := List.mem_singleton.mp he
  subst e
  exact ⟨hp.1, hi7, ((((((hm9.sub (by decide +kernel)).seq (hm1.sub (by decide +kernel))).seq (hm2.sub (by decide +kernel))).seq (hm3.sub (by decide +kernel))).seq (hm4.sub (by decide +kernel))).seq (hm5.sub (by decide +kernel))).seq ((hm6.sub (by decide +kernel)).seq hm7)⟩
/-! text -/
def stM (v : Int) : sCt := ([.inr (.inl 0), .inl (0, v)], ([(0, 1, (v, v))], [], [], []), some (.inl sf32), ([(0, 1, (0, 0))], [], [], []), (0, 1, 2) :: aMd, 10)
def pX (h0 : zH) (r : Option Value) (h' : zH) : Prop := sTO (some (.inl sf32)) r ∧ sInv swM h' ∧ sMd aMd h0 h'
theorem i32bd (x : Int32) : (-2147483648 : Int) ≤ x.toInt ∧ x.toInt ≤ 2147483647 := ⟨Int32.le_toInt x, by have := Int32.toInt_lt x; omega⟩
theorem ztextL {l : Launch} {Γ : zG} {d : Nat} (hd : 9 ≤ d) {h0 : zH} {K : Option Value → zH → Prop} (hKK : ∀ r h', pX h0 r h' → K r h') : ∀ (N : Nat) (h : zH) (lo : zL), (∀ q ∈ xL, ∃ v, zget lo q.1 = some v ∧ sTok q.2 v) → sInv swM h → sMd aMd h0 h → sAok tkK h → pI h 0 23 = pI h 0 51 → (∀ j, 3 ≤ j → j < 6 → pLaw h j) → 44 - pU h < N → zX l Γ false (d + 1) (zhd 194) (zMQ' Γ false (zhd 194) K) 0 0 55 lo [] h
  | 0, h, lo, hL, hi, hm, hK, he, hl, hlt => by
    have b : ∀ {q k : Nat} {iv : Int × Int}, sIv swM q k = iv → iv.1 ≤ pI h q k ∧ pI h q k ≤ iv.2 := fun e => pbd hi e
    have b0 := b (q := 0) (k := 18) (iv := (0, 5)) (by decide +kernel)
    have b1 := b (q := 0) (k := 19) (iv := (0, 8)) (by decide +kernel)
    have b2 := b (q := 0) (k := 20) (iv := (0, 10)) (by decide +kernel)
    have b3 := b (q := 0) (k := 21) (iv := (0, 10)) (by decide +kernel)
    have b4 := b (q := 0) (k := 22) (iv := (0, 6)) (by decide +kernel)
    have b5 := b (q := 3) (k := 0) (iv := (0, 1)) (by decide +kernel)
    have b6 := b (q := 3) (k := 1) (iv := (0, 1)) (by decide +kernel)
    have b7 := b (q := 19) (k := 3) (iv := (0, 1)) (by decide +kernel)
    have b8 := b (q := 19) (k := 4) (iv := (0, 1)) (by decide +kernel)
    have b9 := b (q := 19) (k := 5) (iv := (0, 1)) (by decide +kernel)
    simp only at b0 b1 b2 b3 b4 b5 b6 b7 b8 b9
    unfold pU at hlt
    omega
  | N + 1, h, lo, hL, hi, hm, hK, he, hl, hlt => by
    obtain ⟨d1, rfl⟩ : ∃ d1, d = d1 + 1 := ⟨d - 1, by omega⟩
    refine spq_ok (fun _ => 0) xB1 (fun mi c h => nomatch h) (by omega) hL hK trivial hi rfl ?_ (fun e he => nomatch he)
    intro e hmem lo1 st1 h1 hp hi1 hm1
    have w : ∀ q j, pI h1 q j = pI h q j := fun q j => pI_md hm1 rfl
    have m1 : sMd aMd h0 h1 := hm.seq (hm1.sub (by decide +kernel))
    have l1 : ∀ j, 3 ≤ j → j < 6 → pLaw h1 j := fun j a b => (hl j a b).congr (w 19 j) (w 21 j)
    simp only [List.mem_cons, List.not_mem_nil, or_false] at hmem
    obtain ⟨p1, p2, p3, p4, p5⟩ := hp
    rcases hmem with rfl | rfl
    · obtain ⟨vr, _, rfl, hr, hn⟩ := p1
      have hr : vr = .ref 0 := hr
      subst hr
      have hn : _ = [] := hn
      subst hn
      refine zcallV (as := []) zv_x0 rfl (by rw [hi1.1]; rfl) ?_
      refine (zline (d := d1) (by omega) hi1 p3 (by rw [w, w]; exact he) l1).mono ?_
      rintro rr h2 ⟨x, rfl, hi2, hm2, hx | ⟨hx, hK2, e2, l2, u2⟩⟩
      · refine spq_ok (pc := 66) (fun _ => 0) xB2 (fun mi c h => nomatch h) (by omega) p2 (sA0_ok _) trivial hi2 ⟨x, [], rfl, hx, rfl⟩ (fun e he => nomatch he) ?_
        intro e he r' h3 hp hi3 hm3
        have e := List.mem_singleton.mp he
        subst e
        obtain ⟨v, er, y, rfl, y1, y2⟩ := hp.1
        exact hKK _ _ ⟨⟨_, er, y, rfl, i32bd y⟩, hi3, (m1.seq (hm2.sub (by decide +kernel))).seq (hm3.sub (by decide +kernel))⟩
      · refine spq_ok (pc := 66) (fun _ => 0) xB3 (fun mi c h => nomatch h) (by omega) p2 (sA0_ok _) trivial hi2 ⟨x, [], rfl, hx, rfl⟩ ?_ (fun e he => nomatch he)
        intro e he3 lo3 st3 h3 hp hi3 hm3
        have e := List.mem_singleton.mp he3
        subst e
        have hs3 : st3 = [] := hp.1
        subst hs3
        have w3 : ∀ q j, pI h3 q j = pI h2 q j := fun q j => pI_md hm3 rfl
        refine ztextL hd hKK N h3 lo3 hp.2.1 hi3 ((m1.seq (hm2.sub (by decide +kernel))).seq (hm3.sub (by decide +kernel))) (hK2.md hm3 rfl) (by rw [w3, w3]; exact e2) (fun j a b => (l2 j a b).congr (w3 19 j) (w3 21 j)) ?_
        have u3 : pU h3 = pU h2 := by
          unfold pU
          simp only [w3]
        have u1 : pU h1 = pU h := by
          unfold pU
          simp only [w]
        omega
    · obtain ⟨vr, _, rfl, hr, hn⟩ := p1
      have hr : vr = .ref 0 := hr
      subst hr
      have hn : _ = [] := hn
      subst hn
      refine zcallV (as := []) zv_x1 rfl (by rw [hi1.1]; rfl) ?_
      refine (zkeep (d := d1) (by omega) hi1 l1).mono ?_
      rintro rr h2 ⟨rfl, hi2, hm2⟩
      refine spq_ok (pc := 81) (fun _ => 0) xB4 (fun mi c h => nomatch h) (by omega) p2 (sA0_ok _) trivial hi2 rfl (fun e he => nomatch he) ?_
      intro e he r' h3 hp hi3 hm3
      have e := List.mem_singleton.mp he
      subst e
      exact hKK _ _ ⟨hp.1, hi3, (m1.seq hm2).seq (hm3.sub (by decide +kernel))⟩
theorem ztext (l : Launch) (Γ : zG) : ∀ i : Nat, i < 36 → sCon l Γ swM 194 (stM (20 * (i : Int))) := by
  intro i hlt d hd args h ha hi hA
  have hd : 10 ≤ d := hd
  obtain ⟨d1, rfl⟩ : ∃ d1, d = d1 + 1 := ⟨d - 1, by omega⟩
  refine spm_ok (fun _ => 0) (List.all_eq_true.mp xA0_ok i (List.mem_range.mpr hlt)) (fun mi c h => nomatch h) (Nat.zero_le _) ha hA trivial hi ?_ (fun e he => nomatch he)
  intro e he lo0 st0 h9 hp hi9 hm9
  have e := List.mem_singleton.mp he
  subst e
  have hs : st0 = [] := hp.1
  subst hs
  refine spq_ok (fun _ => 0) xB0 (sTPd l Γ 2) (by omega) hp.2.1 (sA0_ok _) trivial hi9 rfl ?_ (fun e he => nomatch he)
  intro e he lo1 st1 h1 hp hi1 hm1
  have e := List.mem_singleton.mp he
  subst e
  obtain ⟨p1, p2, p3, p4, p5⟩ := hp
  have hs : st1 = [] := p1
  subst hs
  obtain ⟨s1, s2⟩ := p3.rest
  have t1 : 0 ≤ pI h1 0 1 ∧ pI h1 0 1 ≤ 0 := s1 (0, 1, (0, 0)) List.mem_cons_self
  have t23 : 0 ≤ pI h1 0 23 ∧ pI h1 0 23 ≤ 0 := s1 (0, 23, (0, 0)) (by decide)
  have t51 : 0 ≤ pI h1 0 51 ∧ pI h1 0 51 ≤ 0 := s1 (0, 51, (0, 0)) (by decide)
  have a3 : 0 ≤ pI h1 19 3 ∧ pI h1 19 3 ≤ 0 := s1 (19, 3, (0, 0)) (by decide)
  have a4 : 0 ≤ pI h1 19 4 ∧ pI h1 19 4 ≤ 0 := s1 (19, 4, (0, 0)) (by decide)
  have a5 : 0 ≤ pI h1 19 5 ∧ pI h1 19 5 ≤ 0 := s1 (19, 5, (0, 0)) (by decide)
  refine ztextL (d := d1) (by omega) (h0 := h1) ?_ ((44 - pU h1).toNat + 1) h1 lo1 p2 hi1 sMd.rf s2 (by omega) (fun j j3 j6 => by
    have j345 : j = 3 ∨ j = 4 ∨ j = 5 := by omega
    rcases j345 with rfl | rfl | rfl <;> (intro e; omega)) (by omega)
  rintro r h' ⟨q1, q2, q3⟩
  have hmd : sMd ((0, 1, 2) :: aMd) h h' := ((hm9.sub (by decide +kernel)).seq (hm1.sub (by decide +kernel))).seq (q3.sub (by decide +kernel))
  refine ⟨q1, q2, hmd, sAok.of (sfm ?_ (fun _ h => nomatch h))⟩
  have : pI h' 0 1 = pI h1 0 1 := pI_md q3 (by decide +kernel)
  exact ⟨by show 0 ≤ pI h' 0 1; omega, by show pI h' 0 1 ≤ 0; omega⟩
