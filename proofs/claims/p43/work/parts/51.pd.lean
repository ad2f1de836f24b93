/-! the reference's bind -/
def bMd : sM := [(0, 23, 24), (0, 48, 50), (22, 64, 128), (23, 64, 128), (24, 64, 128), (26, 0, 96)]
theorem gMd_sub {r : Nat} (hr : r < 64) : ∀ q k, smem (gMd r) q k = true → smem bMd q k = true := fun q k hq => by
  simp only [smem, gMd, bMd, List.any_cons, List.any_nil, Bool.or_eq_true, Bool.and_eq_true, beq_iff_eq, decide_eq_true_eq, Bool.or_false] at hq ⊢
  omega
theorem zbstep {l : Launch} {Γ : zG} {d : Nat} (hd : 1 ≤ d) {a b : Int} {iv vb : Int × Int} {lo dl : Int} {rl : List sRt} (hb : bB a b iv lo dl [bE a b iv vb dl] rl = true) (h6 : spqB swM sT0 [] 100 1 223 (bL a b) sA0 [] [] 73 [bE0 a b] [] = true) (hrl : rl = [] ∨ (rl = [bR] ∧ a ≠ 1)) (hcl : (iv, (0, 63), vb) ∈ gCl) (hdl : (iv = (2, 2) ∧ dl = -1 ∧ lo = 1) ∨ (iv = (3, 14) ∧ dl = -2 ∧ lo = 2)) {K : Option Value → zH → Prop} {c : Nat} {h : zH} {lo1 : zL} (hL : ∀ q ∈ bL a b, ∃ v, zget lo1 q.1 = some v ∧ sTok q.2 v) (hi : sInv swM h) (hJ : pJ h (c + 1)) (hw : pI h 0 52 = 0) (hx : iv.1 ≤ pI h 25 c ∧ pI h 25 c ≤ iv.2)
    (hK : ∀ c' h', sInv swM h' → pJ h' c' → sMd bMd h h' → (a = 1 → c' = 0 ∨ pI h' 25 (c' - 1) = 0) → K none h')
    (ih : ∀ h' lo', (∀ q ∈ bL a b, ∃ v, zget lo' q.1 = some v ∧ sTok q.2 v) → sInv swM h' → pJ h' c → pI h' 0 52 = 0 → sMd bMd h h' → zX l Γ false (d + 1) (zhd 223) (zMQ' Γ false (zhd 223) K) 0 0 0 lo' [] h') : zX l Γ false (d + 1) (zhd 223) (zMQ' Γ false (zhd 223) K) 0 0 0 lo1 [] h := by
  obtain ⟨d1, rfl⟩ : ∃ d1, d = d1 + 1 := ⟨d - 1, by omega⟩
  have bd := hJ.bd hi
  obtain ⟨j1, j2, j3, j4, j5, j6⟩ := id hJ
  have hx3 : 2 ≤ pI h 25 c := by
    rcases hdl with ⟨e, _, _⟩ | ⟨e, _, _⟩
    · rw [e] at hx
      exact hx.1
    · rw [e] at hx
      have := hx.1
      simp only at this
      omega
  have zz : pZ (pI h 25) (c + 1) = pZ (pI h 25) c := by
    simp only [pZ]
    rw [if_neg (by omega)]
    omega
  have bb : pB (pI h 25) (c + 1) = pB (pI h 25) c - (dl + 1) := by
    simp only [pB]
    rcases hdl with ⟨e, e2, _⟩ | ⟨e, e2, _⟩
    · rw [e] at hx
      have h1 : pI h 25 c ≤ 2 := hx.2
      rw [if_pos (by omega), e2]
      omega
    · rw [e] at hx
      have h1 : 3 ≤ pI h 25 c := hx.1
      rw [if_neg (by omega), e2]
      omega
  have zb := pZ_bd (pI h 25) c
  have nb := pB_bd (pI h 25) c
  have hlo : lo ≤ pI h 0 49 := by
    rcases hdl with ⟨_, e2, e3⟩ | ⟨_, e2, e3⟩ <;> omega
  have hdd : -2 ≤ dl ∧ dl ≤ -1 := by
    rcases hdl with ⟨_, e2, _⟩ | ⟨_, e2, _⟩ <;> omega
  refine spq_ok (fun i => match i with
    | 0 => pI h 0 48
    | 1 => pI h 25 c
    | _ => pI h 0 49) hb (fun mi c h => nomatch h) hd hL (sA0_ok h) ⟨⟨rfl, by show 1 ≤ pI h 0 48; omega, by show pI h 0 48 ≤ 72; omega⟩, ⟨?_, hx⟩, ⟨rfl, hlo, by show pI h 0 49 ≤ 95; omega⟩, trivial⟩ hi rfl ?_ ?_
  · show (h.2.1 25 (pI h 0 48 + -1).toNat).toInt = pI h 25 c
    have e : pI h 0 48 + -1 = (c : Int) := by omega
    rw [e, Int.toNat_natCast]
    rfl
  · intro e he lo' st' h1 hp hi1 hm1
    have e := List.mem_singleton.mp he
    subst e
    obtain ⟨p1, p2, p3, p4, p5⟩ := hp
    obtain ⟨_, _, rfl, ⟨vb', rfl, hvb⟩, _, _, rfl, ⟨va', rfl, hva⟩, _, _, rfl, ⟨vk, rfl, hvk⟩, vr, _, rfl, hr, hn⟩ := p1
    have hr : vr = .ref 0 := hr
    subst hr
    have hn : _ = [] := hn
    subst hn
    have g48 : pI h1 0 48 = pI h 0 48 + -1 := p4 (0, 48, 0, -1) List.mem_cons_self
    have g49 : pI h1 0 49 = pI h 0 49 + dl := p4 (0, 49, 2, dl) (List.mem_cons_of_mem _ List.mem_cons_self)
    have g23 : pI h1 0 23 = pI h 0 23 := pI_md hm1 rfl
    have hr64 : (pI h 0 23).toNat < 64 := by omega
    have hrn : ((pI h 0 23).toNat : Int) = pI h 0 23 := Int.toNat_of_nonneg (by omega)
    refine zcallV (as := [.int vb', .int va', .int vk]) zv_b rfl (by rw [hi1.1]; rfl) ?_
    show zSem l Γ false (d1 + 1) (zhd 221) [.ref 0, .int vk, .int va', .int vb'] h1 _
    refine (zgrow hi1 (r := (pI h 0 23).toNat) hr64 (by omega) (by omega) (by omega) hcl hvk hva hvb).mono ?_
    rintro rr h2 ⟨rfl, hi2, hm2, g1, g2⟩
    refine spq_ok (pc := 73) (fun _ => 0) h6 (fun mi c h => nomatch h) hd p2 (sA0_ok _) trivial hi2 rfl ?_ (fun e he => nomatch he)
    intro e he lo'' st'' h3 hp3 hi3 hm3
    have e := List.mem_singleton.mp he
    subst e
    have hs3 : st'' = [] := hp3.1
    subst hs3
    have w3 : ∀ q j, pI h3 q j = pI h2 q j := fun q j => pI_md hm3 rfl
    have f25 : ∀ i, pI h3 25 i = pI h 25 i := fun i => (w3 25 i).trans ((pI_md hm2 (smem_q rfl i)).trans (pI_md hm1 (smem_q rfl i)))
    have k48 : pI h3 0 48 = pI h1 0 48 := (w3 0 48).trans (pI_md hm2 rfl)
    have k49 : pI h3 0 49 = pI h1 0 49 + 1 := (w3 0 49).trans g2
    have k23 : pI h3 0 23 = ((pI h 0 23).toNat : Int) + 1 := (w3 0 23).trans g1
    have k50 : pI h3 0 50 = pI h 0 50 := (w3 0 50).trans ((pI_md hm2 rfl).trans (pI_md hm1 rfl))
    have k51 : pI h3 0 51 = pI h 0 51 := (w3 0 51).trans ((pI_md hm2 rfl).trans (pI_md hm1 rfl))
    have k52 : pI h3 0 52 = pI h 0 52 := (w3 0 52).trans ((pI_md hm2 rfl).trans (pI_md hm1 rfl))
    refine ih h3 lo'' hp3.2.1 hi3 ⟨by omega, ?_, ?_, by omega, by omega, fun i hlt => ?_⟩ (by omega) (((hm1.sub rfl).tr hm2 (gMd_sub hr64)).seq (hm3.sub rfl))
    · rw [pZ_eq c (fun i _ => f25 i)]
      omega
    · rw [pB_eq c (fun i _ => f25 i)]
      omega
    · rw [f25 i]
      exact j6 i (by omega)
  · intro e he r' h' hp hi' hm
    rcases hrl with e0 | ⟨e0, ha⟩
    · rw [e0] at he
      cases he
    · rw [e0] at he
      have e := List.mem_singleton.mp he
      subst e
      have hr : r' = none := hp.1
      subst hr
      have g48 : pI h' 0 48 = pI h 0 48 + 0 := hp.2.2 (0, 48, 0, 0) List.mem_cons_self
      have g49 : pI h' 0 49 = pI h 0 49 + 0 := hp.2.2 (0, 49, 2, 0) (List.mem_cons_of_mem _ List.mem_cons_self)
      have k23 : pI h' 0 23 = pI h 0 23 := pI_md hm rfl
      have k50 : pI h' 0 50 = pI h 0 50 := pI_md hm rfl
      have k51 : pI h' 0 51 = pI h 0 51 := pI_md hm rfl
      have k52 : pI h' 0 52 = pI h 0 52 := pI_md hm rfl
      exact hK (c + 1) h' hi' (hJ.same (fun i _ => pI_md hm (smem_q rfl i)) (by omega) k50 (by omega) (by omega) (by omega)) (hm.sub rfl) (fun e => absurd e ha)
theorem bLw {a b : Int} (hab : 1 ≤ a ∧ b ≤ 6) {lo : zL} (hL : ∀ q ∈ bL a b, ∃ v, zget lo q.1 = some v ∧ sTok q.2 v) : ∀ q ∈ bL 1 6, ∃ v, zget lo q.1 = some v ∧ sTok q.2 v := by
  refine sfm (hL (0, sr0) List.mem_cons_self) (sfm ?_ (fun _ h => nomatch h))
  obtain ⟨v, e, x, rfl, h1, h2⟩ := hL (1, sI1 a b) (List.mem_cons_of_mem _ List.mem_cons_self)
  exact ⟨_, e, x, rfl, Int.le_trans hab.1 h1, Int.le_trans h2 hab.2⟩
theorem zbind {l : Launch} {Γ : zG} {d : Nat} (hd : 1 ≤ d) {a b : Int} (hab : (a = 1 ∧ b = 1) ∨ (a = 2 ∧ b = 6)) {K : Option Value → zH → Prop} : ∀ (c : Nat) (h : zH) (lo1 : zL), (∀ q ∈ bL a b, ∃ v, zget lo1 q.1 = some v ∧ sTok q.2 v) → sInv swM h → pJ h c → pI h 0 52 = 0 →
    (∀ c' h', sInv swM h' → pJ h' c' → sMd bMd h h' → (a = 1 → c' = 0 ∨ pI h' 25 (c' - 1) = 0) → K none h') → zX l Γ false (d + 1) (zhd 223) (zMQ' Γ false (zhd 223) K) 0 0 0 lo1 [] h
  | 0, h, lo1, hL, hi, hJ, hw, hK => by
    refine spq_ok (fun _ => 0) bB0 (fun mi c h => nomatch h) hd (bLw (by omega) hL) (sAok.of (sfm ⟨by show 0 ≤ pI h 0 48; rw [hJ.1]; exact Int.le_refl _, by show pI h 0 48 ≤ 0; rw [hJ.1]; exact Int.le_refl _⟩ (fun _ h => nomatch h))) trivial hi rfl (fun e he => nomatch he) ?_
    intro e he r' h' hp hi' hm
    have e := List.mem_singleton.mp he
    subst e
    have hr : r' = none := hp.1
    subst hr
    have w : ∀ q j, pI h' q j = pI h q j := fun q j => pI_md hm rfl
    exact hK 0 h' hi' (hJ.same (fun i _ => w 25 i) (w 0 48) (w 0 50) (by rw [w, w]) (by rw [w, w]) (by rw [w, w]; exact hJ.2.2.2.2.1)) (hm.sub rfl) (fun _ => Or.inl rfl)
  | c + 1, h, lo1, hL, hi, hJ, hw, hK => by
    have bd := hJ.bd hi
    have hx := pwt hi (i := c) (by omega)
    have hx1 := hJ.2.2.2.2.2 c (by omega)
    have ih : ∀ h' lo', (∀ q ∈ bL a b, ∃ v, zget lo' q.1 = some v ∧ sTok q.2 v) → sInv swM h' → pJ h' c → pI h' 0 52 = 0 → sMd bMd h h' → zX l Γ false (d + 1) (zhd 223) (zMQ' Γ false (zhd 223) K) 0 0 0 lo' [] h' := fun h' lo' hL' hi' hJ' hw' hm' => zbind hd hab c h' lo' hL' hi' hJ' hw' (fun c2 h2 hi2 hJ2 hm2 ht => hK c2 h2 hi2 hJ2 (hm'.seq hm2) ht)
    by_cases e0 : pI h 25 c = 0
    · refine spq_ok (fun i => match i with
        | 0 => pI h 0 48
        | 1 => pI h 25 c
        | _ => pI h 0 49) bB1 (fun mi c h => nomatch h) hd (bLw (by omega) hL) (sA0_ok h) ⟨⟨rfl, by show 1 ≤ pI h 0 48; rw [hJ.1]; omega, by show pI h 0 48 ≤ 72; rw [hJ.1]; omega⟩, ⟨?_, by show 0 ≤ pI h 25 c; omega, by show pI h 25 c ≤ 1; omega⟩, ⟨rfl, by show 0 ≤ pI h 0 49; omega, by show pI h 0 49 ≤ 95; omega⟩, trivial⟩ hi rfl (fun e he => nomatch he) ?_
      · show (h.2.1 25 (pI h 0 48 + -1).toNat).toInt = pI h 25 c
        have e : pI h 0 48 + -1 = (c : Int) := by
          rw [hJ.1]
          omega
        rw [e, Int.toNat_natCast]
        rfl
      · intro e he r' h' hp hi' hm
        have e := List.mem_singleton.mp he
        subst e
        have hr : r' = none := hp.1
        subst hr
        have g48 : pI h' 0 48 = pI h 0 48 + 0 := hp.2.2 (0, 48, 0, 0) List.mem_cons_self
        have g49 : pI h' 0 49 = pI h 0 49 + 0 := hp.2.2 (0, 49, 2, 0) (List.mem_cons_of_mem _ List.mem_cons_self)
        have k23 : pI h' 0 23 = pI h 0 23 := pI_md hm rfl
        have k50 : pI h' 0 50 = pI h 0 50 := pI_md hm rfl
        have k51 : pI h' 0 51 = pI h 0 51 := pI_md hm rfl
        have k52 : pI h' 0 52 = pI h 0 52 := pI_md hm rfl
        have j5 := hJ.2.2.2.2.1
        refine hK (c + 1) h' hi' (hJ.same (fun i _ => pI_md hm (smem_q rfl i)) (by omega) k50 (by omega) (by omega) (by omega)) (hm.sub rfl) (fun _ => Or.inr ?_)
        have e2 : pI h' 25 c = pI h 25 c := pI_md hm (smem_q rfl c)
        show pI h' 25 c = 0
        rw [e2]
        exact e0
    · by_cases e2 : pI h 25 c = 2
      · rcases hab with ⟨rfl, rfl⟩ | ⟨rfl, rfl⟩
        · exact zbstep hd bB2 bB6 (Or.inl rfl) (by decide) (Or.inl ⟨rfl, rfl, rfl⟩) hL hi hJ hw ⟨by show 2 ≤ pI h 25 c; omega, by show pI h 25 c ≤ 2; omega⟩ hK ih
        · exact zbstep hd bB4 bB7 (Or.inr ⟨rfl, by decide⟩) (by decide) (Or.inl ⟨rfl, rfl, rfl⟩) hL hi hJ hw ⟨by show 2 ≤ pI h 25 c; omega, by show pI h 25 c ≤ 2; omega⟩ hK ih
      · rcases hab with ⟨rfl, rfl⟩ | ⟨rfl, rfl⟩
        · exact zbstep hd bB3 bB6 (Or.inl rfl) (by decide) (Or.inr ⟨rfl, rfl, rfl⟩) hL hi hJ hw ⟨by show 3 ≤ pI h 25 c; omega, hx.2⟩ hK ih
        · exact zbstep hd bB5 bB7 (Or.inr ⟨rfl, by decide⟩) (by decide) (Or.inr ⟨rfl, rfl, rfl⟩) hL hi hJ hw ⟨by show 3 ≤ pI h 25 c; omega, hx.2⟩ hK ih
theorem zbindS {l : Launch} {Γ : zG} {d : Nat} (hd : 1 ≤ d) {c : Nat} {h : zH} (hi : sInv swM h) (hJ : pJ h c) (hw : pI h 0 52 = 0) {x : Int32} (hx : 1 ≤ x.toInt ∧ x.toInt ≤ 6) : zSem l Γ false (d + 1) (zhd 223) [.ref 0, .int x] h (fun r h' => r = none ∧ sInv swM h' ∧ sMd bMd h h' ∧ ∃ c', pJ h' c' ∧ (x.toInt = 1 → c' = 0 ∨ pI h' 25 (c' - 1) = 0)) := by
  obtain ⟨q1, q2⟩ := zallP_get _ zCodes_ok 223
  have c1 : (zCodes.get 223).1 = 223 := by decide +kernel
  rw [c1] at q1 q2
  have key : ∀ a b : Int, a ≤ x.toInt → x.toInt ≤ b → sTL [sr0, sI1 a b] [.ref 0, .int x] := fun a b h1 h2 => ⟨_, _, rfl, rfl, _, _, rfl, ⟨x, rfl, h1, h2⟩, rfl⟩
  refine zbody q2 (by rw [sslen_ok _ _ (key 1 6 hx.1 hx.2)]; decide +kernel) ?_
  by_cases e : x.toInt = 1
  · exact zbind hd (Or.inl ⟨rfl, rfl⟩) c h _ (sslot_ok 0 _ _ (key 1 1 (by omega) (by omega))) hi hJ hw (fun c' h' a1 a2 a3 a4 => ⟨rfl, a1, a3, c', a2, fun _ => a4 rfl⟩)
  · exact zbind hd (Or.inr ⟨rfl, rfl⟩) c h _ (sslot_ok 0 _ _ (key 2 6 (by omega) (by omega))) hi hJ hw (fun c' h' a1 a2 a3 a4 => ⟨rfl, a1, a3, c', a2, fun e' => absurd e' e⟩)
