/-! the reference: numbers and names -/
theorem wKc_iv : (List.range 21).all (fun kk => decide ((kk ≤ 10 ∧ wKc.getD kk 0 = 10 + kk) ∨ (kk = 11 ∧ wKc.getD kk 0 = 29) ∨ (kk = 12 ∧ wKc.getD kk 0 = 30) ∨ (kk = 13 ∧ wKc.getD kk 0 = 28) ∨ (14 ≤ kk ∧ wKc.getD kk 0 = 7 + kk))) = true := by decide +kernel
theorem tkB_f {k w kc ls vl : Int} (h : tkB k w kc ls vl) : (k = 0 ∧ kc = 0) ∨ (k = 1 ∧ 0 ≤ w ∧ w ≤ 20 ∧ ((w ≤ 10 ∧ kc = 10 + w) ∨ (w = 11 ∧ kc = 29) ∨ (w = 12 ∧ kc = 30) ∨ (w = 13 ∧ kc = 28) ∨ (14 ≤ w ∧ kc = 7 + w))) ∨ (k = 2 ∧ kc = 2 ∧ ls = w) ∨ (k = 3 ∧ kc = 3 ∧ (vl = w ∨ (99999 < w ∧ 99999 < vl))) ∨ (k = 4 ∧ ((w = 59 ∧ kc = 4) ∨ (w = 40 ∧ kc = 5) ∨ (w = 41 ∧ kc = 6) ∨ (w = 43 ∧ kc = 31) ∨ (w = 45 ∧ kc = 32) ∨ (w = 42 ∧ kc = 33) ∨ (w = 47 ∧ kc = 34) ∨ (w = 37 ∧ kc = 1))) ∨ (k = 5 ∧ 0 ≤ w ∧ w ≤ 5 ∧ kc = 35 + w) ∨ (k = 6 ∧ kc = 1) := by
  rcases h with h | ⟨kk, h1, h2, h3, h4⟩ | h | h | h | h | h
  · exact Or.inl h
  · have g := of_decide_eq_true (List.all_eq_true.mp wKc_iv kk (List.mem_range.mpr h1))
    rw [← h4] at g
    exact Or.inr (Or.inl ⟨h2, by omega, by omega, by omega⟩)
  · exact Or.inr (Or.inr (Or.inl h))
  · exact Or.inr (Or.inr (Or.inr (Or.inl h)))
  · exact Or.inr (Or.inr (Or.inr (Or.inr (Or.inl h))))
  · exact Or.inr (Or.inr (Or.inr (Or.inr (Or.inr (Or.inl h)))))
  · exact Or.inr (Or.inr (Or.inr (Or.inr (Or.inr (Or.inr h)))))
/-- a fault and its place -/
def fM (c p : Int) (h : zH) : Prop := pI h 0 4 = c ∧ pI h 0 5 = p
def fP : List sP0 := [(0, (none, 10), (0, 700))]
def fR (c : Int) : sRt := (some (sI1 0 0), ([(0, 4, (c, c))], [], [], []), [(0, 5, 0, 0)])
theorem fR_ok {h h' : zH} {c : Int} {r : Option Value} (hp : sRp (fun _ => pI h 0 10) (fR c) r h') : ∃ x : Int32, r = some (.int x) ∧ x.toInt = 0 ∧ fM c (pI h 0 10) h' := by
  obtain ⟨p1, p2, p3⟩ := hp
  obtain ⟨v, er, x, rfl, x1, x2⟩ := p1
  have x1 : 0 ≤ x.toInt := x1
  have x2 : x.toInt ≤ 0 := x2
  have q1 : c ≤ pI h' 0 4 ∧ pI h' 0 4 ≤ c := p2.1 (0, 4, (c, c)) List.mem_cons_self
  have q2 : pI h' 0 5 = pI h 0 10 + 0 := p3 (0, 5, 0, 0) List.mem_cons_self
  exact ⟨x, er, by omega, by omega, by omega⟩
theorem fP_ok {h : zH} (hi : sInv swM h) : sPok (fun _ => pI h 0 10) h fP 0 := by
  have a : 0 ≤ pI h 0 10 ∧ pI h 0 10 ≤ 700 := pbd (iv := (0, 700)) hi (by decide +kernel)
  exact ⟨⟨rfl, a.1, a.2⟩, trivial⟩
theorem spq_f {l : Launch} {Γ : zG} {n dep d mi pc : Nat} {L0 : List (Nat × sT)} {A0 : sAs} {st0 : List Int} {c : Int} {Kp : Option Value → zH → Prop} (hb : spqB swM sT0 [(0, 4, 6)] n dep mi L0 A0 fP st0 pc [] [fR c] = true) (hd : dep ≤ d) {lo : zL} {st : List Value} {h : zH}
    (hL : ∀ q ∈ L0, ∃ v, zget lo q.1 = some v ∧ sTok q.2 v) (hA : sAok A0 h) (hi : sInv swM h) (hst : sIts st0 st) (hK : ∀ (x : Int32) h', x.toInt = 0 → sInv swM h' → sMd [(0, 4, 6)] h h' → fM c (pI h 0 10) h' → Kp (some (.int x)) h') : zX l Γ false (d + 1) (zhd mi) (zMQ' Γ false (zhd mi) Kp) 0 0 pc lo st h := by
  refine spq_ok (fun _ => pI h 0 10) hb (fun mi c h => nomatch h) hd hL hA (fP_ok hi) hi hst (fun e he => nomatch he) ?_
  intro e he r' h' hp hi' hm
  have e := List.mem_singleton.mp he
  subst e
  obtain ⟨x, rfl, hx, hf⟩ := fR_ok hp
  exact hK x h' hx hi' hm hf
theorem spm_f {l : Launch} {Γ : zG} {n dep d mi : Nat} {as : List sT} {A0 : sAs} {c : Int} {Kp : Option Value → zH → Prop} (hb : spmB swM sT0 [(0, 4, 6)] n dep mi [] as A0 fP [] [fR c] = true) (hd : dep ≤ d) {args : List Value} {h : zH}
    (ha : sTL as args) (hA : sAok A0 h) (hi : sInv swM h) (hK : ∀ (x : Int32) h', x.toInt = 0 → sInv swM h' → sMd [(0, 4, 6)] h h' → fM c (pI h 0 10) h' → Kp (some (.int x)) h') : zSem l Γ false (d + 1) (zhd mi) args h Kp := by
  refine spm_ok (fun _ => pI h 0 10) hb (fun mi c h => nomatch h) hd ha hA (fP_ok hi) hi (fun e he => nomatch he) ?_
  intro e he r' h' hp hi' hm
  have e := List.mem_singleton.mp he
  subst e
  obtain ⟨x, rfl, hx, hf⟩ := fR_ok hp
  exact hK x h' hx hi' hm hf
/-- a piece that ends with an answer -/
def rI (v : Int) (A : sAs) (R : List (Nat × Nat × Nat × Int)) : sRt := (some (sI1 v v), A, R)
theorem spq_r {l : Launch} {Γ : zG} {w : sW} {md : sM} {n dep d mi pc : Nat} {L0 : List (Nat × sT)} {A0 A1 : sAs} {P0 : List sP0} {R : List (Nat × Nat × Nat × Int)} {st0 : List Int} {v : Int} {Kp : Option Value → zH → Prop} (V : Nat → Int) (hb : spqB w sT0 md n dep mi L0 A0 P0 st0 pc [] [rI v A1 R] = true) (hd : dep ≤ d) {lo : zL} {st : List Value} {h : zH}
    (hL : ∀ q ∈ L0, ∃ v, zget lo q.1 = some v ∧ sTok q.2 v) (hA : sAok A0 h) (hP : sPok V h P0 0) (hi : sInv w h) (hst : sIts st0 st) (hK : ∀ (x : Int32) h', x.toInt = v → sInv w h' → sMd md h h' → sAok A1 h' → srlP V h' R → Kp (some (.int x)) h') : zX l Γ false (d + 1) (zhd mi) (zMQ' Γ false (zhd mi) Kp) 0 0 pc lo st h := by
  refine spq_ok V hb (fun mi c h => nomatch h) hd hL hA hP hi hst (fun e he => nomatch he) ?_
  intro e he r' h' hp hi' hm
  have e := List.mem_singleton.mp he
  subst e
  obtain ⟨p1, p2, p3⟩ := hp
  obtain ⟨y, er, x, rfl, x1, x2⟩ := p1
  subst er
  have x1 : v ≤ x.toInt := x1
  have x2 : x.toInt ≤ v := x2
  exact hK x h' (by omega) hi' hm p2 p3
/-- a piece that ends at one place -/
theorem spq_c {l : Launch} {Γ : zG} {w : sW} {md : sM} {n dep d mi pc : Nat} {L0 : List (Nat × sT)} {A0 : sAs} {P0 : List sP0} {st0 : List Int} {e : sEd} {Kp : Option Value → zH → Prop} (V : Nat → Int) (hb : spqB w sT0 md n dep mi L0 A0 P0 st0 pc [e] [] = true) (hd : dep ≤ d) {lo : zL} {st : List Value} {h : zH}
    (hL : ∀ q ∈ L0, ∃ v, zget lo q.1 = some v ∧ sTok q.2 v) (hA : sAok A0 h) (hP : sPok V h P0 0) (hi : sInv w h) (hst : sIts st0 st) (hE : ∀ lo' st' h', sEp V e lo' st' h' → sInv w h' → sMd md h h' → zX l Γ false (d + 1) (zhd mi) (zMQ' Γ false (zhd mi) Kp) 0 0 e.1 lo' st' h') : zX l Γ false (d + 1) (zhd mi) (zMQ' Γ false (zhd mi) Kp) 0 0 pc lo st h := by
  refine spq_ok V hb (fun mi c h => nomatch h) hd hL hA hP hi hst ?_ (fun e he => nomatch he)
  intro e' he lo' st' h' hp hi' hm
  have e' := List.mem_singleton.mp he
  subst e'
  exact hE lo' st' h' hp hi' hm
theorem spm_c {l : Launch} {Γ : zG} {w : sW} {md : sM} {n dep d mi : Nat} {as : List sT} {A0 : sAs} {P0 : List sP0} {e : sEd} {Kp : Option Value → zH → Prop} (V : Nat → Int) (hb : spmB w sT0 md n dep mi [] as A0 P0 [e] [] = true) (hd : dep ≤ d) {args : List Value} {h : zH}
    (ha : sTL as args) (hA : sAok A0 h) (hP : sPok V h P0 0) (hi : sInv w h) (hE : ∀ lo' st' h', sEp V e lo' st' h' → sInv w h' → sMd md h h' → zX l Γ false (d + 1) (zhd mi) (zMQ' Γ false (zhd mi) Kp) 0 0 e.1 lo' st' h') : zSem l Γ false (d + 1) (zhd mi) args h Kp := by
  refine spm_ok V hb (fun mi c h => nomatch h) hd ha hA hP hi ?_ (fun e he => nomatch he)
  intro e' he lo' st' h' hp hi' hm
  have e' := List.mem_singleton.mp he
  subst e'
  exact hE lo' st' h' hp hi' hm
theorem iB {h : zH} {q j : Nat} {a b : Int} (h1 : a ≤ pI h q j) (h2 : pI h q j ≤ b) {L : List (Nat × Nat × (Int × Int))} (hL : ∀ t ∈ L, sPlP h t) : ∀ t ∈ (q, j, (a, b)) :: L, sPlP h t := sfm ⟨h1, h2⟩ hL
theorem iE {h : zH} : ∀ t ∈ ([] : List (Nat × Nat × (Int × Int))), sPlP h t := fun _ h => nomatch h
/-! what stays of a token -/
def tfB (md : sM) : Bool := md.all (fun t => !(t.1 == 1)) && (!smem md 0 6 && (!(smem md 0 7 || (smem md 0 4 || smem md 0 5)) && (!smem md 0 8 && (!smem md 0 9 && !smem md 0 10))))
theorem tA.md {D : zD} {p : Nat} {h h' : zH} {md : sM} (hA : tA D p h) (hm : sMd md h h') (h1 : md.all (fun t => !(t.1 == 1)) = true) (h6 : smem md 0 6 = false) (h7 : (smem md 0 7 || (smem md 0 4 || smem md 0 5)) = false) : tA D p h' := by
  simp only [Bool.or_eq_false_iff] at h7
  obtain ⟨h7, h74, h75⟩ := h7
  obtain ⟨a1, a2, a3, a4, a5, a6, a7⟩ := hA
  exact ⟨fun j hj => (pI_md hm (smem_q h1 j)).trans (a1 j hj), (pI_md hm h6).trans a2, (pI_md hm h7).trans a3, a4, a5, (pI_md hm h74).trans a6, (pI_md hm h75).trans a7⟩
theorem tTk.md {D : zD} {q : Nat} {h h' : zH} {md : sM} (hA : tTk D q h) (hm : sMd md h h') (hb : tfB md = true) : tTk D q h' := by
  simp only [tfB, Bool.and_eq_true, Bool.not_eq_true'] at hb
  obtain ⟨b1, b6, b7, b8, b9, b10⟩ := hb
  obtain ⟨a1, a2, a3, a4⟩ := hA
  refine ⟨a1.md hm b1 b6 b7, a2, (pI_md hm b10).trans a3, ?_⟩
  rw [pI_md hm b8, pI_md hm b9]
  exact a4
/-! number -/
def nML : List (Int × Int) := [(0, 99), (1, 9), (1, 99), (0, 100), (0, 99999)]
def nMA (t : Int × Int) : List sT := [sr0, .inl (t.1, t.1), .inl (t.2, t.2)]
def nMS : List (Nat × sT) := [(0, sr0)]
theorem nM1 : nML.all (fun t => spmB swM sT0 [(0, 4, 6)] 100 1 208 [] (nMA t) ([(0, 8, (0, 2))], [], [], []) fP [] [fR 1] && spmB swM sT0 [(0, 4, 6)] 100 1 208 [] (nMA t) ([(0, 8, (4, 6))], [], [], []) fP [] [fR 1]) = true := by decide +kernel
theorem nM2 : nML.all (fun t => spmB swM sT0 [(0, 4, 6)] 100 1 208 [] (nMA t) ([(0, 8, (3, 3)), (0, 9, (-2147483648, t.1 - 1))], [], [], []) fP [] [fR 2] && spmB swM sT0 [(0, 4, 6)] 100 1 208 [] (nMA t) ([(0, 8, (3, 3)), (0, 9, (t.2 + 1, 2147483647))], [], [], []) fP [] [fR 2]) = true := by decide +kernel
def nME : sEd := (41, [sr0], nMS, sA0, [(0, 11, 0, 0)], [])
theorem nM3 : nML.all (fun t => spmB swM sT0 [(0, 11, 12)] 100 1 208 [] (nMA t) ([(0, 8, (3, 3))], [], [], []) [(0, (none, 9), t)] [nME] []) = true := by decide +kernel
theorem nM4 : spqB swM sT0 [] 100 1 208 nMS sA0 [] [] 44 [] [rI 1 sA0 []] = true := by decide +kernel
theorem zv_nM : zcvB 208 41 12 0 195 = true := by decide +kernel
def nMd1 : sM := [(0, 4, 6), (0, 7, 12)]
theorem zNumR {l : Launch} {Γ : zG} {d : Nat} {D : zD} {q : Nat} {h : zH} (hi : sInv swM h) (hT : tTk D q h) {a b : Int32} {L H : Int} (ha : a.toInt = L) (hb : b.toInt = H) (hm : (L, H) ∈ nML) : zSem l Γ false (d + 3) (zhd 208) [.ref 0, .int a, .int b] h (fun r h' => sInv swM h' ∧ sMd nMd1 h h' ∧ ∃ x : Int32, r = some (.int x) ∧ ∀ KF KO, wNum D L H q KF KO → (∃ c p, KF c p ∧ x.toInt = 0 ∧ fM c p h') ∨ (∃ v q', KO v q' ∧ x.toInt = 1 ∧ tTk D q' h' ∧ pI h' 0 11 = v ∧ L ≤ v ∧ v ≤ H)) := by
  have hs : sTL (nMA (L, H)) [.ref 0, .int a, .int b] := ⟨_, _, rfl, rfl, _, _, rfl, ⟨a, rfl, by show L ≤ _; omega, by show _ ≤ L; omega⟩, _, _, rfl, ⟨b, rfl, by show H ≤ _; omega, by show _ ≤ H; omega⟩, rfl⟩
  have f := tkB_f hT.2.2.2
  have e10 := hT.2.2.1
  have w9 := i32bd (h.2.1 0 9)
  have w9 : -2147483648 ≤ pI h 0 9 ∧ pI h 0 9 ≤ 2147483647 := w9
  have hH : H ≤ 99999 := by
    simp only [nML, List.mem_cons, List.not_mem_nil, or_false, Prod.mk.injEq] at hm
    omega
  have b1 := List.all_eq_true.mp nM1 _ hm
  have b2 := List.all_eq_true.mp nM2 _ hm
  have b3 := List.all_eq_true.mp nM3 _ hm
  simp only [Bool.and_eq_true] at b1 b2
  by_cases h3 : kF D q = 3
  · by_cases hin : L ≤ vF D q ∧ vF D q ≤ H
    · refine spm_c (fun _ => pI h 0 9) b3 (by omega) hs (sAok.of (iB (a := 3) (b := 3) (by omega) (by omega) iE)) ⟨⟨rfl, by show L ≤ pI h 0 9; omega, by show pI h 0 9 ≤ H; omega⟩, trivial⟩ hi ?_
      intro lo' st' h1 hp hi1 hm1
      obtain ⟨p1, p2, p3, p4, p5⟩ := hp
      obtain ⟨vr, _, rfl, hr, hn⟩ := p1
      have hr : vr = .ref 0 := hr
      subst hr
      have hn : _ = [] := hn
      subst hn
      have g11 : pI h1 0 11 = pI h 0 9 + 0 := p4 (0, 11, 0, 0) List.mem_cons_self
      refine zcallV (as := []) zv_nM rfl (by rw [hi1.1]; rfl) ?_
      refine (ztokR (d := d) hi1 (hT.1.md hm1 rfl rfl rfl)).mono ?_
      rintro r h2 ⟨rfl, hi2, ht2, hm2⟩
      refine spq_r (pc := 44) (fun _ => 0) nM4 (by omega) p2 (sA0_ok _) trivial hi2 rfl ?_
      intro x h3' hx hi3 hm3 _ _
      have w3 : ∀ q j, pI h3' q j = pI h2 q j := fun q j => pI_md hm3 rfl
      refine ⟨hi3, ((hm1.sub rfl).seq (hm2.sub rfl)).seq (hm3.sub rfl), x, rfl, fun KF KO hw => Or.inr ⟨vF D q, qF D q, ?_, hx, ht2.md hm3 rfl, ?_⟩⟩
      · unfold wNum at hw
        rw [if_pos h3, if_pos hin] at hw
        exact hw
      · rw [w3, pI_md hm2 rfl]
        exact ⟨by omega, hin.1, hin.2⟩
    · have hw : ∀ KF KO, wNum D L H q KF KO → KF 2 q := fun KF KO hw => by
        unfold wNum at hw
        rw [if_pos h3, if_neg hin] at hw
        exact hw
      have fin : ∀ (x : Int32) h', x.toInt = 0 → sInv swM h' → sMd [(0, 4, 6)] h h' → fM 2 (pI h 0 10) h' → sInv swM h' ∧ sMd nMd1 h h' ∧ ∃ y : Int32, some (Value.int x) = some (.int y) ∧ ∀ KF KO, wNum D L H q KF KO → (∃ c p, KF c p ∧ y.toInt = 0 ∧ fM c p h') ∨ (∃ v q', KO v q' ∧ y.toInt = 1 ∧ tTk D q' h' ∧ pI h' 0 11 = v ∧ L ≤ v ∧ v ≤ H) := fun x h' hx hi' hm' hf => ⟨hi', hm'.sub rfl, x, rfl, fun KF KO g => Or.inl ⟨2, q, hw KF KO g, hx, by rw [← e10]; exact hf⟩⟩
      by_cases hlt : pI h 0 9 < L
      · exact spm_f b2.1 (by omega) hs (sAok.of (iB (a := 3) (b := 3) (by omega) (by omega) (iB (by omega) (by omega) iE))) hi fin
      · exact spm_f b2.2 (by omega) hs (sAok.of (iB (a := 3) (b := 3) (by omega) (by omega) (iB (by omega) (by omega) iE))) hi fin
  · have hw : ∀ KF KO, wNum D L H q KF KO → KF 1 q := fun KF KO hw => by
      unfold wNum at hw
      rw [if_neg h3] at hw
      exact hw
    have fin : ∀ (x : Int32) h', x.toInt = 0 → sInv swM h' → sMd [(0, 4, 6)] h h' → fM 1 (pI h 0 10) h' → sInv swM h' ∧ sMd nMd1 h h' ∧ ∃ y : Int32, some (Value.int x) = some (.int y) ∧ ∀ KF KO, wNum D L H q KF KO → (∃ c p, KF c p ∧ y.toInt = 0 ∧ fM c p h') ∨ (∃ v q', KO v q' ∧ y.toInt = 1 ∧ tTk D q' h' ∧ pI h' 0 11 = v ∧ L ≤ v ∧ v ≤ H) := fun x h' hx hi' hm' hf => ⟨hi', hm'.sub rfl, x, rfl, fun KF KO g => Or.inl ⟨1, q, hw KF KO g, hx, by rw [← e10]; exact hf⟩⟩
    by_cases hlt : pI h 0 8 < 3
    · exact spm_f b1.1 (by omega) hs (sAok.of (iB (by omega) (by omega) iE)) hi fin
    · exact spm_f b1.2 (by omega) hs (sAok.of (iB (by omega) (by omega) iE)) hi fin
