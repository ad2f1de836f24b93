/-! the reference's E: what waits, as a list -/
def cm (k : Int) : Int := if k = 0 then 5 else if k = 2 then 28 else if k = 3 then 29 else if k = 4 then 30 else if k ≤ 10 then k + 30 else k + 20
def rk (k : Int) : Int := if 13 ≤ k then 6 else if 11 ≤ k then 5 else if 5 ≤ k then 4 else if k = 2 then 3 else if k = 3 then 2 else if k = 4 then 1 else 0
def kL : List Int := [0, 2, 3, 4, 5, 6, 7, 8, 9, 10, 11, 12, 13, 14]
def aL : List Int := [1, 2, 3, 4, 5, 6]
theorem kL_in {k : Int} (h : 0 ≤ k ∧ k ≤ 14) (h1 : k ≠ 1) : k ∈ kL := by
  simp only [kL, List.mem_cons, List.not_mem_nil, or_false]
  omega
theorem cm_rk : kL.all (fun k => decide (tgt (cm k) = rk k) && (decide (cm k = 5 ↔ k = 0) && decide (0 ≤ rk k ∧ rk k ≤ 6 ∧ (k = 0 ∨ 1 ≤ rk k)))) = true := by decide +kernel
theorem cm_ok {k : Int} (h : k ∈ kL) : tgt (cm k) = rk k ∧ (cm k = 5 ↔ k = 0) ∧ 0 ≤ rk k ∧ rk k ≤ 6 ∧ (k = 0 ∨ 1 ≤ rk k) := by
  have := List.all_eq_true.mp cm_rk k h
  simp only [Bool.and_eq_true, decide_eq_true_eq] at this
  exact this
def stR (f : Nat → Int) : Nat → List Int
  | 0 => []
  | c + 1 => cm (f c) :: stR f c
theorem stR_eq {f g : Nat → Int} : ∀ c, (∀ i, i < c → f i = g i) → stR f c = stR g c
  | 0, _ => rfl
  | c + 1, h => by
    simp only [stR]
    rw [h c (by omega), stR_eq c (fun i hi => h i (by omega))]
theorem pop_st {f : Nat → Int} {a : Int} (ha : 1 ≤ a) : ∀ (c c' : Nat), c' ≤ c → (∀ i, i < c → f i ∈ kL) → (∀ i, c' ≤ i → i < c → a ≤ rk (f i)) → (c' = 0 ∨ rk (f (c' - 1)) < a) → wPop a (stR f c) = stR f c'
  | 0, c', h0, _, _, _ => by
    have : c' = 0 := by omega
    subst this
    rfl
  | c + 1, c', h0, hk, hp, ht => by
    obtain ⟨k1, k2, k3, k4, k5⟩ := cm_ok (hk c (by omega))
    simp only [stR, wPop]
    by_cases e : c' = c + 1
    · subst e
      have ht : rk (f c) < a := ht.elim (fun e => absurd e (Nat.succ_ne_zero _)) (fun e => e)
      rw [if_neg (by rw [k1]; omega)]
      rfl
    · have := hp c (by omega) (by omega)
      rw [if_pos (by rw [k1]; exact ⟨fun g => by have := k2.mp g; rw [this] at *; simp only [rk] at *; omega, this⟩)]
      exact pop_st ha c c' (by omega) (fun i hi => hk i (by omega)) (fun i h1 h2 => hp i h1 (by omega)) ht
theorem pop_0 {f : Nat → Int} : ∀ (c : Nat), (∀ i, i < c → f i ∈ kL) → wPop 0 (stR f c) = wPop 1 (stR f c)
  | 0, _ => rfl
  | c + 1, hk => by
    obtain ⟨k1, k2, k3, k4, k5⟩ := cm_ok (hk c (by omega))
    simp only [stR, wPop]
    by_cases e : f c = 0
    · rw [if_neg (fun g => g.1 (k2.mpr e)), if_neg (fun g => g.1 (k2.mpr e))]
    · rw [if_pos ⟨fun g => e (k2.mp g), by omega⟩, if_pos ⟨fun g => e (k2.mp g), by omega⟩]
      exact pop_0 c (fun i hi => hk i (by omega))
/-! bind -/
def bBk (a k lo : Int) (e : List sEd) (r : List sRt) : Bool := spqB swM sT0 bMd0 200 1 223 (bL a a) sA0 [(0, (none, 48), (1, 72)), (25, (some 0, -1), (k, k)), (0, (none, 49), (lo, 95))] [] 0 e r
def bKo (a k : Int) : Bool := if rk k < a then bBk a k 0 [] [bR] else if k = 2 then bBk a k 1 [bE a a (2, 2) (-1, -1) (-1)] [] else bBk a k 2 [bE a a (3, 14) (0, 63) (-2)] []
theorem bK_ok : aL.all (fun a => kL.all (fun k => bKo a k)) = true := by decide +kernel
theorem bK6 : aL.all (fun a => spqB swM sT0 [] 100 1 223 (bL a a) sA0 [] [] 73 [bE0 a a] []) = true := by decide +kernel
theorem zbstepF {l : Launch} {Γ : zG} {d : Nat} (hd : 1 ≤ d) {a k : Int} {iv vb : Int × Int} {lo dl : Int} (hb : bBk a k lo [bE a a iv vb dl] [] = true) (h6 : spqB swM sT0 [] 100 1 223 (bL a a) sA0 [] [] 73 [bE0 a a] [] = true) (hcl : (iv, (0, 63), vb) ∈ gCl) (hdl : (iv = (2, 2) ∧ dl = -1 ∧ lo = 1) ∨ (iv = (3, 14) ∧ dl = -2 ∧ lo = 2)) {K : Option Value → zH → Prop} {c : Nat} {h : zH} {lo1 : zL} (hL : ∀ q ∈ bL a a, ∃ v, zget lo1 q.1 = some v ∧ sTok q.2 v) (hi : sInv swM h) (hJ : pJ h (c + 1)) (hw : pI h 0 52 = 0) (hk : pI h 25 c = k) (hx0 : iv.1 ≤ k ∧ k ≤ iv.2)
    (ih : ∀ h' lo', (∀ q ∈ bL a a, ∃ v, zget lo' q.1 = some v ∧ sTok q.2 v) → sInv swM h' → pJ h' c → pI h' 0 52 = 0 → sMd bMd h h' → zX l Γ false (d + 1) (zhd 223) (zMQ' Γ false (zhd 223) K) 0 0 0 lo' [] h') : zX l Γ false (d + 1) (zhd 223) (zMQ' Γ false (zhd 223) K) 0 0 0 lo1 [] h := by
  have hx : iv.1 ≤ pI h 25 c ∧ pI h 25 c ≤ iv.2 := by rw [hk]; exact hx0
  obtain ⟨d1, rfl⟩ : ∃ d1, d = d1 + 1 := ⟨d - 1, by omega⟩
  have bd := hJ.bd hi
  obtain ⟨j1, j2, j3, j4, j5, j6⟩ := id hJ
  have hx3 : 2 ≤ pI h 25 c := by
    rcases hdl with ⟨e, _, _⟩ | ⟨e, _, _⟩
    · rw [e] at hx
      exact hx.1
    · rw [e] at hx
      have := hx.1
      simp only at this
      omega
  have zz : pZ (pI h 25) (c + 1) = pZ (pI h 25) c := by
    simp only [pZ]
    rw [if_neg (by omega)]
    omega
  have bb : pB (pI h 25) (c + 1) = pB (pI h 25) c - (dl + 1) := by
    simp only [pB]
    rcases hdl with ⟨e, e2, _⟩ | ⟨e, e2, _⟩
    · rw [e] at hx
      have h1 : pI h 25 c ≤ 2 := hx.2
      rw [if_pos (by omega), e2]
      omega
    · rw [e] at hx
      have h1 : 3 ≤ pI h 25 c := hx.1
      rw [if_neg (by omega), e2]
      omega
  have zb := pZ_bd (pI h 25) c
  have nb := pB_bd (pI h 25) c
  have hlo : lo ≤ pI h 0 49 := by
    rcases hdl with ⟨_, e2, e3⟩ | ⟨_, e2, e3⟩ <;> omega
  have hdd : -2 ≤ dl ∧ dl ≤ -1 := by
    rcases hdl with ⟨_, e2, _⟩ | ⟨_, e2, _⟩ <;> omega
  refine spq_ok (fun i => match i with
    | 0 => pI h 0 48
    | 1 => pI h 25 c
    | _ => pI h 0 49) hb (fun mi c h => nomatch h) hd hL (sA0_ok h) ⟨⟨rfl, by show 1 ≤ pI h 0 48; omega, by show pI h 0 48 ≤ 72; omega⟩, ⟨?_, by show k ≤ pI h 25 c; omega, by show pI h 25 c ≤ k; omega⟩, ⟨rfl, hlo, by show pI h 0 49 ≤ 95; omega⟩, trivial⟩ hi rfl ?_ (fun e he => nomatch he)
  · show (h.2.1 25 (pI h 0 48 + -1).toNat).toInt = pI h 25 c
    have e : pI h 0 48 + -1 = (c : Int) := by omega
    rw [e, Int.toNat_natCast]
    rfl
  · intro e he lo' st' h1 hp hi1 hm1
    have e := List.mem_singleton.mp he
    subst e
    obtain ⟨p1, p2, p3, p4, p5⟩ := hp
    obtain ⟨_, _, rfl, ⟨vb', rfl, hvb⟩, _, _, rfl, ⟨va', rfl, hva⟩, _, _, rfl, ⟨vk, rfl, hvk⟩, vr, _, rfl, hr, hn⟩ := p1
    have hr : vr = .ref 0 := hr
    subst hr
    have hn : _ = [] := hn
    subst hn
    have g48 : pI h1 0 48 = pI h 0 48 + -1 := p4 (0, 48, 0, -1) List.mem_cons_self
    have g49 : pI h1 0 49 = pI h 0 49 + dl := p4 (0, 49, 2, dl) (List.mem_cons_of_mem _ List.mem_cons_self)
    have g23 : pI h1 0 23 = pI h 0 23 := pI_md hm1 rfl
    have hr64 : (pI h 0 23).toNat < 64 := by omega
    have hrn : ((pI h 0 23).toNat : Int) = pI h 0 23 := Int.toNat_of_nonneg (by omega)
    refine zcallV (as := [.int vb', .int va', .int vk]) zv_b rfl (by rw [hi1.1]; rfl) ?_
    show zSem l Γ false (d1 + 1) (zhd 221) [.ref 0, .int vk, .int va', .int vb'] h1 _
    refine (zgrow hi1 (r := (pI h 0 23).toNat) hr64 (by omega) (by omega) (by omega) hcl hvk hva hvb).mono ?_
    rintro rr h2 ⟨rfl, hi2, hm2, g1, g2⟩
    refine spq_ok (pc := 73) (fun _ => 0) h6 (fun mi c h => nomatch h) hd p2 (sA0_ok _) trivial hi2 rfl ?_ (fun e he => nomatch he)
    intro e he lo'' st'' h3 hp3 hi3 hm3
    have e := List.mem_singleton.mp he
    subst e
    have hs3 : st'' = [] := hp3.1
    subst hs3
    have w3 : ∀ q j, pI h3 q j = pI h2 q j := fun q j => pI_md hm3 rfl
    have f25 : ∀ i, pI h3 25 i = pI h 25 i := fun i => (w3 25 i).trans ((pI_md hm2 (smem_q rfl i)).trans (pI_md hm1 (smem_q rfl i)))
    have k48 : pI h3 0 48 = pI h1 0 48 := (w3 0 48).trans (pI_md hm2 rfl)
    have k49 : pI h3 0 49 = pI h1 0 49 + 1 := (w3 0 49).trans g2
    have k23 : pI h3 0 23 = ((pI h 0 23).toNat : Int) + 1 := (w3 0 23).trans g1
    have k50 : pI h3 0 50 = pI h 0 50 := (w3 0 50).trans ((pI_md hm2 rfl).trans (pI_md hm1 rfl))
    have k51 : pI h3 0 51 = pI h 0 51 := (w3 0 51).trans ((pI_md hm2 rfl).trans (pI_md hm1 rfl))
    have k52 : pI h3 0 52 = pI h 0 52 := (w3 0 52).trans ((pI_md hm2 rfl).trans (pI_md hm1 rfl))
    refine ih h3 lo'' hp3.2.1 hi3 ⟨by omega, ?_, ?_, by omega, by omega, fun i hlt => ?_⟩ (by omega) (((hm1.sub rfl).tr hm2 (gMd_sub hr64)).seq (hm3.sub rfl))
    · rw [pZ_eq c (fun i _ => f25 i)]
      omega
    · rw [pB_eq c (fun i _ => f25 i)]
      omega
    · rw [f25 i]
      exact j6 i (by omega)
theorem zbindF {l : Launch} {Γ : zG} {d : Nat} (hd : 1 ≤ d) {a : Int} (ha : a ∈ aL) {K : Option Value → zH → Prop} : ∀ (c : Nat) (h : zH) (lo1 : zL), (∀ q ∈ bL a a, ∃ v, zget lo1 q.1 = some v ∧ sTok q.2 v) → sInv swM h → pJ h c → pI h 0 52 = 0 →
    (∀ c' h', sInv swM h' → pJ h' c' → sMd bMd h h' → c' ≤ c → (∀ i, c' ≤ i → i < c → a ≤ rk (pI h 25 i)) → (c' = 0 ∨ rk (pI h 25 (c' - 1)) < a) → K none h') → zX l Γ false (d + 1) (zhd 223) (zMQ' Γ false (zhd 223) K) 0 0 0 lo1 [] h
  | 0, h, lo1, hL, hi, hJ, hw, hK => by
    have hab : 1 ≤ a ∧ a ≤ 6 := by
      simp only [aL, List.mem_cons, List.not_mem_nil, or_false] at ha
      omega
    refine spq_ok (fun _ => 0) bB0 (fun mi c h => nomatch h) hd (bLw hab hL) (sAok.of (sfm ⟨by show 0 ≤ pI h 0 48; rw [hJ.1]; exact Int.le_refl _, by show pI h 0 48 ≤ 0; rw [hJ.1]; exact Int.le_refl _⟩ (fun _ h => nomatch h))) trivial hi rfl (fun e he => nomatch he) ?_
    intro e he r' h' hp hi' hm
    have e := List.mem_singleton.mp he
    subst e
    have hr : r' = none := hp.1
    subst hr
    have w : ∀ q j, pI h' q j = pI h q j := fun q j => pI_md hm rfl
    exact hK 0 h' hi' (hJ.same (fun i _ => w 25 i) (w 0 48) (w 0 50) (by rw [w, w]) (by rw [w, w]) (by rw [w, w]; exact hJ.2.2.2.2.1)) (hm.sub rfl) (Nat.le_refl _) (fun i _ h => absurd h (Nat.not_lt_zero _)) (Or.inl rfl)
  | c + 1, h, lo1, hL, hi, hJ, hw, hK => by
    have bd := hJ.bd hi
    have hx := pwt hi (i := c) (by omega)
    have hx1 := hJ.2.2.2.2.2 c (by omega)
    have B := List.all_eq_true.mp (List.all_eq_true.mp bK_ok a ha) _ (kL_in hx hx1)
    have B6 := List.all_eq_true.mp bK6 a ha
    have ih : ¬ rk (pI h 25 c) < a → ∀ h' lo', (∀ q ∈ bL a a, ∃ v, zget lo' q.1 = some v ∧ sTok q.2 v) → sInv swM h' → pJ h' c → pI h' 0 52 = 0 → sMd bMd h h' → zX l Γ false (d + 1) (zhd 223) (zMQ' Γ false (zhd 223) K) 0 0 0 lo' [] h' := fun hr h' lo' hL' hi' hJ' hw' hm' => zbindF hd ha c h' lo' hL' hi' hJ' hw' (fun c2 h2 hi2 hJ2 hm2 l2 p2 t2 => by
      have f : ∀ i, pI h' 25 i = pI h 25 i := fun i => pI_md hm' (smem_q rfl i)
      refine hK c2 h2 hi2 hJ2 (hm'.seq hm2) (by omega) (fun i h1 h3 => ?_) ?_
      · by_cases e : i = c
        · subst e
          omega
        · rw [← f i]
          exact p2 i h1 (by omega)
      · rw [← f (c2 - 1)]
        exact t2)
    unfold bKo at B
    by_cases hr : rk (pI h 25 c) < a
    · rw [if_pos hr] at B
      unfold bBk at B
      refine spq_ok (fun i => match i with
        | 0 => pI h 0 48
        | 1 => pI h 25 c
        | _ => pI h 0 49) B (fun mi c h => nomatch h) hd hL (sA0_ok h) ⟨⟨rfl, by show 1 ≤ pI h 0 48; rw [hJ.1]; omega, by show pI h 0 48 ≤ 72; rw [hJ.1]; omega⟩, ⟨?_, Int.le_refl _, Int.le_refl _⟩, ⟨rfl, by show 0 ≤ pI h 0 49; omega, by show pI h 0 49 ≤ 95; omega⟩, trivial⟩ hi rfl (fun e he => nomatch he) ?_
      · show (h.2.1 25 (pI h 0 48 + -1).toNat).toInt = pI h 25 c
        have e : pI h 0 48 + -1 = (c : Int) := by
          rw [hJ.1]
          omega
        rw [e, Int.toNat_natCast]
        rfl
      · intro e he r' h' hp hi' hm
        have e := List.mem_singleton.mp he
        subst e
        have hr' : r' = none := hp.1
        subst hr'
        have g48 : pI h' 0 48 = pI h 0 48 + 0 := hp.2.2 (0, 48, 0, 0) List.mem_cons_self
        have g49 : pI h' 0 49 = pI h 0 49 + 0 := hp.2.2 (0, 49, 2, 0) (List.mem_cons_of_mem _ List.mem_cons_self)
        have k23 : pI h' 0 23 = pI h 0 23 := pI_md hm rfl
        have k50 : pI h' 0 50 = pI h 0 50 := pI_md hm rfl
        have k51 : pI h' 0 51 = pI h 0 51 := pI_md hm rfl
        have k52 : pI h' 0 52 = pI h 0 52 := pI_md hm rfl
        have j5 := hJ.2.2.2.2.1
        exact hK (c + 1) h' hi' (hJ.same (fun i _ => pI_md hm (smem_q rfl i)) (by omega) k50 (by omega) (by omega) (by omega)) (hm.sub rfl) (Nat.le_refl _) (fun i a b => by omega) (Or.inr hr)
    · rw [if_neg hr] at B
      by_cases e2 : pI h 25 c = 2
      · rw [if_pos e2] at B
        exact zbstepF hd B B6 (by decide) (Or.inl ⟨rfl, rfl, rfl⟩) hL hi hJ hw rfl ⟨by show 2 ≤ pI h 25 c; omega, by show pI h 25 c ≤ 2; omega⟩ (ih hr)
      · rw [if_neg e2] at B
        have e0 : pI h 25 c ≠ 0 := fun e => hr (by
          rw [e]
          have hab : 1 ≤ a := by
            simp only [aL, List.mem_cons, List.not_mem_nil, or_false] at ha
            omega
          show (0 : Int) < a
          omega)
        exact zbstepF hd B B6 (by decide) (Or.inr ⟨rfl, rfl, rfl⟩) hL hi hJ hw rfl ⟨by show 3 ≤ pI h 25 c; omega, hx.2⟩ (ih hr)
theorem zbindSF {l : Launch} {Γ : zG} {d : Nat} (hd : 1 ≤ d) {c : Nat} {h : zH} (hi : sInv swM h) (hJ : pJ h c) (hw : pI h 0 52 = 0) {a : Int} (ha : a ∈ aL) {x : Int32} (hx : x.toInt = a) : zSem l Γ false (d + 1) (zhd 223) [.ref 0, .int x] h (fun r h' => r = none ∧ sInv swM h' ∧ sMd bMd h h' ∧ ∃ c', pJ h' c' ∧ c' ≤ c ∧ stR (pI h' 25) c' = wPop a (stR (pI h 25) c) ∧ (c' = 0 ∨ rk (pI h' 25 (c' - 1)) < a)) := by
  obtain ⟨q1, q2⟩ := zallP_get _ zCodes_ok 223
  have c1 : (zCodes.get 223).1 = 223 := by decide +kernel
  rw [c1] at q1 q2
  have hab : 1 ≤ a ∧ a ≤ 6 := by
    simp only [aL, List.mem_cons, List.not_mem_nil, or_false] at ha
    omega
  have bd := hJ.bd hi
  have key : sTL [sr0, sI1 a a] [.ref 0, .int x] := ⟨_, _, rfl, rfl, _, _, rfl, ⟨x, rfl, by show a ≤ _; omega, by show _ ≤ a; omega⟩, rfl⟩
  refine zbody q2 (by rw [sslen_ok _ _ key]; show 2 ≤ (zhd 223).2.2.1; decide +kernel) ?_
  refine zbindF hd ha c h _ (sslot_ok 0 _ _ key) hi hJ hw (fun c' h' a1 a2 a3 a4 a5 a6 => ⟨rfl, a1, a3, c', a2, a4, ?_, ?_⟩)
  · rw [pop_st hab.1 c c' a4 (fun i hlt => kL_in (pwt hi (by omega)) (hJ.2.2.2.2.2 i hlt)) a5 a6]
    exact stR_eq c' (fun i _ => pI_md a3 (smem_q rfl i))
  · rw [pI_md a3 (smem_q rfl (c' - 1))]
    exact a6
theorem wB2_ok : (List.range 96).all (fun c => kL.all (fun k => wB c (k, k))) = true := by decide +kernel
theorem zwaitF {l : Launch} {Γ : zG} {d : Nat} {h : zH} (hi : sInv swM h) {c : Nat} (hr : c < 96) (e : pI h 0 48 = c) {k : Int32} {v : Int} (hv : v ∈ kL) (hk : k.toInt = v) :
    zSem l Γ false (d + 1) (zhd 217) [.ref 0, .int k] h (fun rr h' => rr = none ∧ sInv swM h' ∧ sMd (wMd c) h h' ∧ pI h' 0 48 = c + 1 ∧ pI h' 25 c = v) := by
  have hb0 := List.all_eq_true.mp (List.all_eq_true.mp wB2_ok c (List.mem_range.mpr hr)) v hv
  refine spm_ok (fun _ => 0) hb0 (fun mi c h => nomatch h) (Nat.zero_le _) ⟨_, _, rfl, rfl, _, _, rfl, ⟨k, rfl, by show v ≤ _; omega, by show _ ≤ v; omega⟩, rfl⟩ (sAok.of (sfm ⟨by show (c : Int) ≤ pI h 0 48; omega, by show pI h 0 48 ≤ (c : Int); omega⟩ (fun _ h => nomatch h))) trivial hi (fun e he => nomatch he) ?_
  intro e' he r' h' hp hi' hm
  have e' := List.mem_singleton.mp he
  subst e'
  obtain ⟨p1, p2, p3⟩ := hp
  have q1 : (c : Int) + 1 ≤ pI h' 0 48 ∧ pI h' 0 48 ≤ (c : Int) + 1 := p2.1 (0, 48, ((c : Int) + 1, (c : Int) + 1)) List.mem_cons_self
  have q2 : v ≤ pI h' 25 c ∧ pI h' 25 c ≤ v := p2.1 (25, c, (v, v)) (List.mem_cons_of_mem _ List.mem_cons_self)
  exact ⟨p1, hi', hm, by omega, by omega⟩
/-! where an E stands -/
def bN (b : Bool) : Int := if b = true then 1 else 0
def LSt (s : List Int) (o : Nat) (due nm : Bool) (cN : Nat) (h : zH) : Prop := pI h 0 50 = (o : Int) ∧ pI h 0 52 = bN due ∧ pI h 0 53 = bN nm ∧ pI h 0 51 = (cN : Int) ∧ ∃ c, pJ h c ∧ s = stR (pI h 25) c
theorem LSt.md {s : List Int} {o cN : Nat} {due nm : Bool} {h h' : zH} {md : sM} (hS : LSt s o due nm cN h) (hm : sMd md h h') (h23 : smem md 0 23 = false) (h48 : smem md 0 48 = false) (h49 : smem md 0 49 = false) (h50 : smem md 0 50 = false) (h51 : smem md 0 51 = false) (h52 : smem md 0 52 = false) (h53 : smem md 0 53 = false) (h25 : md.all (fun t => !(t.1 == 25)) = true) : LSt s o due nm cN h' := by
  obtain ⟨a1, a2, a3, a4, c, J, e⟩ := hS
  have k25 : ∀ i, pI h' 25 i = pI h 25 i := fun i => pI_md hm (smem_q h25 i)
  have j5 := J.2.2.2.2.1
  refine ⟨(pI_md hm h50).trans a1, (pI_md hm h52).trans a2, (pI_md hm h53).trans a3, (pI_md hm h51).trans a4, c, J.same (fun i _ => k25 i) (pI_md hm h48) (pI_md hm h50) (by rw [pI_md hm h49, pI_md hm h52]) (by rw [pI_md hm h23, pI_md hm h51]) (by rw [pI_md hm h49, pI_md hm h23]; exact j5), ?_⟩
  rw [e]
  exact (stR_eq c (fun i _ => k25 i)).symm
/-- what comes of a step of an E -/
def LO (D : zD) (h0 : zH) (s : List Int) (o : Nat) (due nm : Bool) (cN q : Nat) (r : Option Value) (h' : zH) : Prop := sInv swM h' ∧ sMd uMd h0 h' ∧ ∃ x : Int32, r = some (.int x) ∧ ∀ m KF KO, wSum D (m + 1) s o due nm cN q KF KO → (∃ c p, KF c p ∧ x.toInt = 0 ∧ fM c p h') ∨ (∃ s' o' due' nm' cN' q', wSum D m s' o' due' nm' cN' q' KF KO ∧ x.toInt = 1 ∧ tTk D q' h' ∧ LSt s' o' due' nm' cN' h' ∧ q < q')
theorem zflt {l : Launch} {Γ : zG} {d mi : Nat} {D : zD} {h : zH} {s : List Int} {o cN q : Nat} {due nm : Bool} {A : sAs} {c0 : Int} (hb : spmB swM sT0 [(0, 4, 6)] 200 2 mi [] [sr0] A fP [] [fR c0] = true) (hi : sInv swM h) (hT : tTk D q h) (hA : sAok A h) (hw : ∀ m KF KO, wSum D (m + 1) s o due nm cN q KF KO → KF c0 q) : zSem l Γ false (d + 4) (zhd mi) [.ref 0] h (LO D h s o due nm cN q) :=
  spm_f hb (by omega) ⟨_, _, rfl, rfl, rfl⟩ hA hi (fun x h' hx hi' hm' hf => ⟨hi', hm'.sub rfl, x, rfl, fun m KF KO g => Or.inl ⟨c0, q, hw m KF KO g, hx, by rw [← hT.2.2.1]; exact hf⟩⟩)
/-! the token behind a step -/
def teL : List (Nat × Nat) := [(216, 45), (216, 81), (216, 170), (222, 42), (222, 254)]
theorem teB : teL.all (fun t => spqB swM sT0 [] 100 1 t.1 lL sA0 [] [] (t.2 + 3) [] [rI 1 sA0 []] && zcvB t.1 t.2 12 0 195) = true := by decide +kernel
theorem zte {l : Launch} {Γ : zG} {d : Nat} {D : zD} {h h3 : zH} {s s' : List Int} {o cN q o' cN' : Nat} {due nm due' nm' : Bool} {t : Nat × Nat} (ht : t ∈ teL) {lo : zL} (hL : ∀ q ∈ lL, ∃ v, zget lo q.1 = some v ∧ sTok q.2 v) (hi : sInv swM h3) (hm : sMd uMd h h3) (hT : tTk D q h3) (hS : LSt s' o' due' nm' cN' h3) (hq : kF D q ≠ 0) (hw : ∀ m KF KO, wSum D (m + 1) s o due nm cN q KF KO → wSum D m s' o' due' nm' cN' (qF D q) KF KO) : zX l Γ false (d + 4) (zhd t.1) (zMQ' Γ false (zhd t.1) (LO D h s o due nm cN q)) 0 0 t.2 lo [.ref 0] h3 := by
  have B := List.all_eq_true.mp teB t ht
  simp only [Bool.and_eq_true] at B
  refine zcallV (as := []) B.2 rfl (by rw [hi.1]; rfl) ?_
  refine (ztokR (d := d + 1) hi hT.1).mono ?_
  rintro r4 h4 ⟨rfl, hi4, T4, hm4⟩
  refine spq_r (pc := t.2 + 3) (fun _ => 0) B.1 (by omega) hL (sA0_ok _) trivial hi4 rfl ?_
  intro x h5 hx hi5 hm5 _ _
  have k0 := kF_0 hT.2.1
  have qb := qF_bd hT.2.1
  exact ⟨hi5, (hm.seq (hm4.sub rfl)).seq (hm5.sub rfl), x, rfl, fun m KF KO g => Or.inr ⟨_, _, _, _, _, _, hw m KF KO g, hx, T4.md hm5 rfl, (hS.md hm4 rfl rfl rfl rfl rfl rfl rfl rfl).md hm5 rfl rfl rfl rfl rfl rfl rfl rfl, qb.2.2 (by
    have := hT.2.1
    omega)⟩⟩
