/-! the reference's signs -/
def sgL : List (Int × Int × Int × Int) := [(29, 1, 11, 3), (30, 1, 12, 4), (35, 5, 0, 5), (36, 5, 1, 6), (37, 5, 2, 7), (38, 5, 3, 8), (39, 5, 4, 9), (40, 5, 5, 10), (31, 4, 43, 11), (32, 4, 45, 12), (33, 4, 42, 13), (34, 4, 47, 14)]
def sgA (k : Int) : Int := if rk k = 4 then 5 else rk k
def sgK (k : Int) : List (Nat × sT) := [(0, sr0), (1, sI1 k k)]
theorem sg1 : sgL.all (fun t => spmB swM sT0 [] 400 2 222 [] [sr0] (a1 [(0, 8, (t.2.1, t.2.1)), (0, 9, (t.2.2.1, t.2.2.1))]) [] [(175, [sI1 (sgA t.2.2.2) (sgA t.2.2.2), sr0], sgK t.2.2.2, sA0, [], [])] [] && (decide (t.2.2.2 ∈ kL) && (decide (sgA t.2.2.2 ∈ aL) && (decide (cm t.2.2.2 = t.1) && decide (3 ≤ t.2.2.2))))) = true := by decide +kernel
theorem sg0 : spmB swM sT0 [] 400 2 222 [] [sr0] (a1 [(0, 8, (4, 4)), (0, 9, (41, 41)), (0, 50, (1, 8))]) [] [(18, [sI1 1 1, sr0], lL, sA0, [], [])] [] = true := by decide +kernel
theorem sg2 : spqB swM sT0 [(0, 48, 49), (0, 50, 51)] 100 1 222 lL sA0 [(0, (none, 48), (1, 72)), (0, (none, 50), (1, 8))] [] 21 [(42, [sr0], lL, sA0, [(0, 48, 0, -1), (0, 50, 1, -1)], [])] [] = true := by decide +kernel
def sgP (t : Int) : List sP0 := [(0, (none, 10), (0, 700)), (0, (none, 48), (1, 72)), (25, (some 1, -1), (t, t))]
theorem sg3 : sgL.all (fun t => if rk t.2.2.2 = 4 then kL.all (fun u => if rk u = 4 then spqB swM sT0 [(0, 4, 6)] 100 1 222 (sgK t.2.2.2) sA0 (sgP u) [] 178 [] [fR 1] else true) else true) = true := by decide +kernel
def sgE (k : Int) : sEd := (228, [sI1 k k, sr0], sgK k, sA0, [(0, 51, 0, 1)], [])
/-- nothing waits -/
theorem sg4 : sgL.all (fun t => spqB swM sT0 [(0, 4, 6)] 100 2 222 (sgK t.2.2.2) (a1 [(0, 48, (0, 0)), (0, 51, (64, 64))]) fP [] 178 [] [fR 2] && spqB swM sT0 [(0, 51, 52)] 100 2 222 (sgK t.2.2.2) (a1 [(0, 48, (0, 0))]) [(0, (none, 51), (0, 63))] [] 178 [sgE t.2.2.2] []) = true := by decide +kernel
/-- something waits -/
theorem sg5 : sgL.all (fun t => kL.all (fun u => if rk t.2.2.2 = 4 ∧ rk u = 4 then true else (spqB swM sT0 [(0, 4, 6)] 100 2 222 (sgK t.2.2.2) (a1 [(0, 51, (64, 64))]) (sgP u) [] 178 [] [fR 2] && spqB swM sT0 [(0, 51, 52)] 100 2 222 (sgK t.2.2.2) sA0 [(0, (none, 51), (0, 63)), (0, (none, 48), (1, 72)), (25, (some 1, -1), (u, u))] [] 178 [sgE t.2.2.2] []))) = true := by decide +kernel
def sgM (k : Int) : Int := if rk k < 3 then 1 else 0
theorem sg6 : sgL.all (fun t => spqB swM sT0 [(0, 52, 54)] 100 1 222 (sgK t.2.2.2) sA0 [] [] 231 [(254, [sr0], lL, a1 [(0, 52, (1, 1)), (0, 53, (sgM t.2.2.2, sgM t.2.2.2))], [], [])] []) = true := by decide +kernel
theorem sg7 : [a1 [(0, 8, (0, 0))], a1 [(0, 8, (1, 1)), (0, 9, (0, 10))], a1 [(0, 8, (1, 1)), (0, 9, (13, 20))], a1 [(0, 8, (2, 3))], a1 [(0, 8, (4, 4)), (0, 9, (59, 59))], a1 [(0, 8, (4, 4)), (0, 9, (40, 40))], a1 [(0, 8, (4, 4)), (0, 9, (37, 37))], a1 [(0, 8, (4, 4)), (0, 9, (41, 41)), (0, 50, (0, 0))], a1 [(0, 8, (6, 6))]].all (fun A => spmB swM sT0 [(0, 4, 6)] 400 2 222 [] [sr0] A fP [] [fR 1]) = true := by decide +kernel
theorem sg_in {k w kc ls vl : Int} (h : tkB k w kc ls vl) (h1 : 29 ≤ kc ∧ kc ≤ 40) : ∃ v, (kc, k, w, v) ∈ sgL := by
  have f := tkB_f h
  have g : kc = 29 ∨ kc = 30 ∨ kc = 31 ∨ kc = 32 ∨ kc = 33 ∨ kc = 34 ∨ kc = 35 ∨ kc = 36 ∨ kc = 37 ∨ kc = 38 ∨ kc = 39 ∨ kc = 40 := by omega
  rcases g with e | e | e | e | e | e | e | e | e | e | e | e <;> subst e
  · obtain ⟨rfl, rfl⟩ : k = 1 ∧ w = 11 := by omega
    exact ⟨3, by decide⟩
  · obtain ⟨rfl, rfl⟩ : k = 1 ∧ w = 12 := by omega
    exact ⟨4, by decide⟩
  · obtain ⟨rfl, rfl⟩ : k = 4 ∧ w = 43 := by omega
    exact ⟨11, by decide⟩
  · obtain ⟨rfl, rfl⟩ : k = 4 ∧ w = 45 := by omega
    exact ⟨12, by decide⟩
  · obtain ⟨rfl, rfl⟩ : k = 4 ∧ w = 42 := by omega
    exact ⟨13, by decide⟩
  · obtain ⟨rfl, rfl⟩ : k = 4 ∧ w = 47 := by omega
    exact ⟨14, by decide⟩
  · obtain ⟨rfl, rfl⟩ : k = 5 ∧ w = 0 := by omega
    exact ⟨5, by decide⟩
  · obtain ⟨rfl, rfl⟩ : k = 5 ∧ w = 1 := by omega
    exact ⟨6, by decide⟩
  · obtain ⟨rfl, rfl⟩ : k = 5 ∧ w = 2 := by omega
    exact ⟨7, by decide⟩
  · obtain ⟨rfl, rfl⟩ : k = 5 ∧ w = 3 := by omega
    exact ⟨8, by decide⟩
  · obtain ⟨rfl, rfl⟩ : k = 5 ∧ w = 4 := by omega
    exact ⟨9, by decide⟩
  · obtain ⟨rfl, rfl⟩ : k = 5 ∧ w = 5 := by omega
    exact ⟨10, by decide⟩
theorem spm_f4 {l : Launch} {Γ : zG} {d mi : Nat} {D : zD} {h : zH} {b : Nat} {G : Nat → Nat → Int} {s e : List Int} {o cN q : Nat} {due nm : Bool} {A : sAs} {c0 : Int} (hb : spmB swM sT0 [(0, 4, 6)] 400 2 mi [] [sr0] A fP [] [fR c0] = true) (hi : sInv swM h) (hT : tTk D q h) (hA : sAok A h) (hw : ∀ m KF KO, wSum D (m + 1) s o due nm cN e q KF KO → KF c0 q) : zSem l Γ false (d + 4) (zhd mi) [.ref 0] h (LO D b G h s o due nm cN e q) :=
  spm_f hb (by omega) ⟨_, _, rfl, rfl, rfl⟩ hA hi (fun x h' hx hi' hm' hf => ⟨hi', hm'.sub rfl, x, rfl, fun m KF KO g => Or.inl ⟨c0, q, hw m KF KO g, hx, by rw [← hT.2.2.1]; exact hf⟩⟩)
theorem wRl_01 {f : Nat → Int} : ∀ (c : Nat) (e : List Int), (∀ i, i < c → f i ∈ kL) → wRl 0 (stR f c) e = wRl 1 (stR f c) e
  | 0, _, _ => rfl
  | c + 1, e, hk => by
    obtain ⟨k1, k2, k3, k4, k5⟩ := cm_ok (hk c (by omega))
    simp only [stR, wRl]
    by_cases g : f c = 0
    · rw [if_neg (fun y => y.1 (k2.mpr g)), if_neg (fun y => y.1 (k2.mpr g))]
    · rw [if_pos ⟨fun y => g (k2.mp y), by omega⟩, if_pos ⟨fun y => g (k2.mp y), by omega⟩]
      exact wRl_01 c _ (fun i hi => hk i (by omega))
theorem zsignF {l : Launch} {Γ : zG} {d : Nat} {D : zD} {h : zH} {b : Nat} {G : Nat → Nat → Int} {s e : List Int} {o cN q : Nat} {nm : Bool} (hi : sInv swM h) (hT : tTk D q h) (hS : LSt b G s o false nm cN e h) (hne : ¬ (kF D q = 4 ∧ o = 0)) : zSem l Γ false (d + 4) (zhd 222) [.ref 0] h (LO D b G h s o false nm cN e q) := by
  obtain ⟨e50, e52, e53, e51, ⟨c, J, es⟩, hX⟩ := id hS
  have e52 : pI h 0 52 = 0 := e52
  have bd := J.bd hi
  have f := tkB_f hT.2.2.2
  by_cases h6 : kF D q = 6 ∧ 0 < o
  · refine spm_c (fun _ => 0) sg0 (by omega) ⟨_, _, rfl, rfl, rfl⟩ (sAok.of (iB (by omega) (by omega) (iB (by omega) (by omega) (iB (by omega) (by omega) iE)))) trivial hi ?_
    intro lo1 st1 h1 hp hi1 hm1
    obtain ⟨p1, p2, p3, p4, p5⟩ := hp
    obtain ⟨_, _, rfl, ⟨k, rfl, hk1, hk2⟩, vr, _, rfl, hr, hn⟩ := p1
    have hk1 : 1 ≤ k.toInt := hk1
    have hk2 : k.toInt ≤ 1 := hk2
    have hr : vr = .ref 0 := hr
    subst hr
    have hn : _ = [] := hn
    subst hn
    have w1 : ∀ q j, pI h1 q j = pI h q j := fun q j => pI_md hm1 rfl
    have J1 : pJ h1 c := J.same (fun i _ => w1 25 i) (w1 0 48) (w1 0 50) (by rw [w1, w1]) (by rw [w1, w1]) (by rw [w1, w1]; exact J.2.2.2.2.1)
    refine zcallV (as := [.int k]) zv_g0 rfl (by rw [hi1.1]; rfl) ?_
    refine (zbindSF (d := d + 2) (by omega) hi1 J1 ((w1 0 52).trans e52) (hX.md hm1 rfl rfl rfl) (a := 1) (by decide) (x := k) (by omega)).mono ?_
    rintro rr h2 ⟨rfl, hi2, hm2, c2, J2, cl2, st2, ht, X2⟩
    have bd2 := J2.bd hi2
    have v50 : pI h2 0 50 = pI h1 0 50 := pI_md hm2 rfl
    have v51 : pI h2 0 51 = pI h1 0 51 := pI_md hm2 rfl
    have v52 : pI h2 0 52 = pI h1 0 52 := pI_md hm2 rfl
    have v53 : pI h2 0 53 = pI h1 0 53 := pI_md hm2 rfl
    have u50 := w1 0 50
    have u51 := w1 0 51
    have u52 := w1 0 52
    have u53 := w1 0 53
    match c2, J2, ht, st2 with
    | 0, J2, ht, st2 =>
      have : pZ (pI h2 25) 0 = 0 := rfl
      have := J2.2.1
      omega
    | c2 + 1, J2, ht, st2 =>
      have kin := kL_in (pwt hi2 (i := c2) (by omega)) (J2.2.2.2.2.2 c2 (by omega))
      have htop : pI h2 25 c2 = 0 := by
        have ht : rk (pI h2 25 c2) < 1 := ht.elim (fun e => absurd e (Nat.succ_ne_zero _)) (fun e => e)
        have := (cm_ok kin).2.2.2.2
        omega
      have i1 := J2.1
      refine spq_c (pc := 21) (fun i => match i with
        | 0 => pI h2 0 48
        | _ => pI h2 0 50) sg2 (by omega) p2 (sA0_ok _) ⟨⟨rfl, by show 1 ≤ pI h2 0 48; omega, by show pI h2 0 48 ≤ 72; omega⟩, ⟨rfl, by show 1 ≤ pI h2 0 50; omega, by show pI h2 0 50 ≤ 8; omega⟩, trivial⟩ hi2 rfl ?_
      intro lo3 st3 h3 hp hi3 hm3
      obtain ⟨p1, p2, p3, p4, p5⟩ := hp
      obtain ⟨vr, _, rfl, hr, hn⟩ := p1
      have hr : vr = .ref 0 := hr
      subst hr
      have hn : _ = [] := hn
      subst hn
      have m48 : pI h3 0 48 = pI h2 0 48 + -1 := p4 (0, 48, 0, -1) List.mem_cons_self
      have m50 : pI h3 0 50 = pI h2 0 50 + -1 := p4 (0, 50, 1, -1) (List.mem_cons_of_mem _ List.mem_cons_self)
      have k23 : pI h3 0 23 = pI h2 0 23 := pI_md hm3 rfl
      have k49 : pI h3 0 49 = pI h2 0 49 := pI_md hm3 rfl
      have k51 : pI h3 0 51 = pI h2 0 51 := pI_md hm3 rfl
      have k52 : pI h3 0 52 = pI h2 0 52 := pI_md hm3 rfl
      have k53 : pI h3 0 53 = pI h2 0 53 := pI_md hm3 rfl
      have i5 := J2.2.2.2.2.1
      have k25 : ∀ i, pI h3 25 i = pI h2 25 i := fun i => pI_md hm3 (smem_q rfl i)
      have vld : ∀ i, i < c → pI h1 25 i ∈ kL := fun i hlt => kL_in (pwt hi1 (by have := J1.bd hi1; omega)) (J1.2.2.2.2.2 i hlt)
      have est : (wPop 0 s).tail = stR (pI h3 25) c2 := by
        rw [es, stR_eq (f := pI h 25) (g := pI h1 25) c (fun i _ => (w1 25 i).symm), pop_0 c vld, ← st2]
        show stR (pI h2 25) c2 = _
        exact stR_eq c2 (fun i _ => (k25 i).symm)
      have X2 : RX b G (wRl 0 s e) h2 := by
        rw [es, stR_eq (f := pI h 25) (g := pI h1 25) c (fun i _ => (w1 25 i).symm), wRl_01 c e vld]
        exact X2
      refine zte (t := (222, 42)) (o' := o - 1) (due' := false) (nm' := nm) (cN' := cN) (e' := wRl 0 s e) (s' := (wPop 0 s).tail) (by decide) p2 hi3 (((hm1.sub rfl).seq (hm2.sub rfl)).seq (hm3.sub rfl)) (((hT.md hm1 rfl).md hm2 rfl).md hm3 rfl) ⟨by omega, by show pI h3 0 52 = 0; omega, by omega, by omega, ⟨c2, J2.down htop (fun i _ => k25 i) (by omega) (by omega) (by omega) (by omega) (by omega), est⟩, X2.md hm3 rfl rfl rfl⟩ (by omega) (fun m KF KO g => ?_)
      rw [wSum, if_neg (by decide), if_pos h6] at g
      exact g
  by_cases hs : 29 ≤ kF D q ∧ kF D q ≤ 40
  · obtain ⟨kk, hmem⟩ := sg_in hT.2.2.2 hs
    have B1 := List.all_eq_true.mp sg1 _ hmem
    simp only [Bool.and_eq_true, decide_eq_true_eq] at B1
    obtain ⟨B1, kin, ain, ecm, k3⟩ := B1
    have B3 := List.all_eq_true.mp sg3 _ hmem
    have B4 := List.all_eq_true.mp sg4 _ hmem
    have B5 := List.all_eq_true.mp sg5 _ hmem
    have B6 := List.all_eq_true.mp sg6 _ hmem
    simp only [Bool.and_eq_true] at B4
    have cmk := cm_ok kin
    have etg : tgt (kF D q) = rk kk := by
      rw [← ecm]
      exact cmk.1
    have sa : (if tgt (kF D q) = 4 then 5 else tgt (kF D q)) = sgA kk := by
      rw [etg]
      rfl
    refine spm_c (fun _ => 0) B1 (by omega) ⟨_, _, rfl, rfl, rfl⟩ (sAok.of (iB (Int.le_refl _) (Int.le_refl _) (iB (Int.le_refl _) (Int.le_refl _) iE))) trivial hi ?_
    intro lo1 st1 h1 hp hi1 hm1
    obtain ⟨p1, p2, p3, p4, p5⟩ := hp
    obtain ⟨_, _, rfl, ⟨k, rfl, hk1, hk2⟩, vr, _, rfl, hr, hn⟩ := p1
    have hk1 : sgA kk ≤ k.toInt := hk1
    have hk2 : k.toInt ≤ sgA kk := hk2
    have hr : vr = .ref 0 := hr
    subst hr
    have hn : _ = [] := hn
    subst hn
    have w1 : ∀ q j, pI h1 q j = pI h q j := fun q j => pI_md hm1 rfl
    have J1 : pJ h1 c := J.same (fun i _ => w1 25 i) (w1 0 48) (w1 0 50) (by rw [w1, w1]) (by rw [w1, w1]) (by rw [w1, w1]; exact J.2.2.2.2.1)
    refine zcallV (as := [.int k]) zv_g1 rfl (by rw [hi1.1]; rfl) ?_
    refine (zbindSF (d := d + 2) (by omega) hi1 J1 ((w1 0 52).trans e52) (hX.md hm1 rfl rfl rfl) ain (x := k) (by omega)).mono ?_
    rintro rr h2 ⟨rfl, hi2, hm2, c2, J2, cl2, st2, ht, X2⟩
    have X2 : RX b G (wRl (sgA kk) s e) h2 := by
      rw [es, stR_eq (f := pI h 25) (g := pI h1 25) c (fun i _ => (w1 25 i).symm)]
      exact X2
    have bd2 := J2.bd hi2
    have st2' : wPop (sgA kk) s = stR (pI h2 25) c2 := by
      rw [es, stR_eq (f := pI h 25) (g := pI h1 25) c (fun i _ => (w1 25 i).symm)]
      exact st2.symm
    have v50 : pI h2 0 50 = pI h 0 50 := (pI_md hm2 rfl).trans (w1 0 50)
    have v51 : pI h2 0 51 = pI h 0 51 := (pI_md hm2 rfl).trans (w1 0 51)
    have v52 : pI h2 0 52 = pI h 0 52 := (pI_md hm2 rfl).trans (w1 0 52)
    have v10 : pI h2 0 10 = pI h 0 10 := (pI_md hm2 rfl).trans (w1 0 10)
    have i1 := J2.1
    have md12 : sMd uMd h h2 := (hm1.sub rfl).seq (hm2.sub rfl)
    have T2 : tTk D q h2 := (hT.md hm1 rfl).md hm2 rfl
    have b10 : 0 ≤ pI h2 0 10 ∧ pI h2 0 10 ≤ 700 := pbd (iv := (0, 700)) hi2 (by decide +kernel)
    have gs : ∀ m KF KO, wSum D (m + 1) s o false nm cN e q KF KO → (if rk kk = 4 ∧ tgt (wTop (stR (pI h2 25) c2)) = 4 then KF 1 q else if cN = 64 then KF 2 q else wSum D m (kF D q :: stR (pI h2 25) c2) o true (decide (rk kk < 4)) (cN + 1) (wRl (sgA kk) s e) (qF D q) KF KO) := fun m KF KO g => by
      rw [wSum, if_neg (by decide), if_neg h6, if_pos hs, sa, st2', etg] at g
      exact g
    have flt : ∀ (c0 : Int), (∀ m KF KO, wSum D (m + 1) s o false nm cN e q KF KO → KF c0 q) → ∀ (r : Option Value) h', sRp (fun i => match i with
        | 0 => pI h2 0 10
        | 1 => pI h2 0 48
        | _ => pI h2 25 (c2 - 1)) (fR c0) r h' → sInv swM h' → sMd [(0, 4, 6)] h2 h' → LO D b G h s o false nm cN e q r h' := fun c0 hw r h' hp hi' hm' => by
      obtain ⟨p1, p2, p3⟩ := hp
      obtain ⟨y, er, x, rfl, x1, x2⟩ := p1
      have x1 : 0 ≤ x.toInt := x1
      have x2 : x.toInt ≤ 0 := x2
      have q1 : c0 ≤ pI h' 0 4 ∧ pI h' 0 4 ≤ c0 := p2.1 (0, 4, (c0, c0)) List.mem_cons_self
      have q2 : pI h' 0 5 = pI h2 0 10 + 0 := p3 (0, 5, 0, 0) List.mem_cons_self
      have t10 := T2.2.2.1
      exact ⟨hi', md12.seq (hm'.sub rfl), x, er, fun m KF KO g => Or.inl ⟨c0, q, hw m KF KO g, by omega, by omega, by omega⟩⟩
    have fin : ∀ (lo3 : zL) (st3 : List Value) (h3 : zH), ¬ (rk kk = 4 ∧ tgt (wTop (stR (pI h2 25) c2)) = 4) → cN ≠ 64 → (∀ q ∈ sgK kk, ∃ v, zget lo3 q.1 = some v ∧ sTok q.2 v) → sTL [sI1 kk kk, sr0] st3 → sInv swM h3 → sMd [(0, 51, 52)] h2 h3 → pI h3 0 51 = pI h2 0 51 + 1 → zX l Γ false (d + 4) (zhd 222) (zMQ' Γ false (zhd 222) (LO D b G h s o false nm cN e q)) 0 0 228 lo3 st3 h3 := by
      intro lo3 st3 h3 hno hc64 L3 hst hi3 hm3 g51
      obtain ⟨_, _, rfl, ⟨k9, rfl, k1, k2⟩, vr, _, rfl, hr, hn⟩ := hst
      have k1 : kk ≤ k9.toInt := k1
      have k2 : k9.toInt ≤ kk := k2
      have hr : vr = .ref 0 := hr
      subst hr
      have hn : _ = [] := hn
      subst hn
      refine zcallV (as := [.int k9]) zv_g2 rfl (by rw [hi3.1]; rfl) ?_
      refine (zwaitF (d := d + 2) hi3 (c := c2) (by omega) ((pI_md hm3 rfl).trans i1) kin (by omega)).mono ?_
      rintro rr h4 ⟨rfl, hi4, hm4, g1, g2⟩
      refine spq_c (pc := 231) (fun _ => 0) B6 (by omega) L3 (sA0_ok _) trivial hi4 rfl ?_
      intro lo5 st5 h5 hp hi5 hm5
      obtain ⟨p1, p2, p3, p4, p5⟩ := hp
      obtain ⟨vr, _, rfl, hr, hn⟩ := p1
      have hr : vr = .ref 0 := hr
      subst hr
      have hn : _ = [] := hn
      subst hn
      have w52 : 1 ≤ pI h5 0 52 ∧ pI h5 0 52 ≤ 1 := p3.1 (0, 52, (1, 1)) List.mem_cons_self
      have w53 : sgM kk ≤ pI h5 0 53 ∧ pI h5 0 53 ≤ sgM kk := p3.1 (0, 53, (sgM kk, sgM kk)) (List.mem_cons_of_mem _ List.mem_cons_self)
      have tr : ∀ {a b : Nat}, smem [(0, 51, 52)] a b = false → smem (wMd c2) a b = false → smem [(0, 52, 54)] a b = false → pI h5 a b = pI h2 a b := fun x y z => (pI_md hm5 z).trans ((pI_md hm4 y).trans (pI_md hm3 x))
      have k50 : pI h5 0 50 = pI h2 0 50 := tr rfl rfl rfl
      have k51 : pI h5 0 51 = pI h3 0 51 := (pI_md hm5 rfl).trans (pI_md hm4 rfl)
      have P := LSpush (h3 := h5) (v := kk) J2 kin (fun i hlt => tr (smem_q rfl i) (wMd_off (by omega)) (smem_q rfl i)) ((pI_md hm5 rfl).trans g1) ((pI_md hm5 (smem_q rfl c2)).trans g2) (by rw [if_neg (by omega)]; omega) (tr rfl rfl rfl) (by rw [if_neg (by omega)]; omega) (tr rfl rfl rfl) (by rw [if_neg (by omega)]; omega)
      have eb : pI h5 0 53 = bN (decide (rk kk < 4)) := by
        have e1 : sgM kk = bN (decide (rk kk < 4)) := by
          unfold sgM bN
          by_cases e : rk kk < 3
          · rw [if_pos e, decide_eq_true (by omega : rk kk < 4), if_pos rfl]
          · rw [if_neg e]
            have e4 : ¬ rk kk < 4 := by
              intro g4
              have : kk ≠ 2 := by omega
              unfold rk at e g4
              repeat' split at g4
              all_goals first | omega | (repeat' split at e) <;> omega
            rw [decide_eq_false e4, if_neg (by decide)]
        omega
      have L5 : ∀ q ∈ lL, ∃ v, zget lo5 q.1 = some v ∧ sTok q.2 v := p2
      refine zte (t := (222, 254)) (o' := o) (due' := true) (nm' := decide (rk kk < 4)) (cN' := cN + 1) (e' := wRl (sgA kk) s e) (s' := cm kk :: stR (pI h2 25) c2) (by decide) L5 hi5 (((md12.seq (hm3.sub rfl)).tr hm4 (wMd_u (by omega))).seq (hm5.sub rfl)) (((T2.md hm3 rfl).md hm4 (by rfl)).md hm5 rfl) ⟨by omega, by show pI h5 0 52 = 1; omega, eb, by omega, ⟨c2 + 1, P.1, P.2.symm⟩, ((X2.md hm3 rfl rfl rfl).md hm4 rfl rfl rfl).md hm5 rfl rfl rfl⟩ (by omega) (fun m KF KO g => ?_)
      have g := gs m KF KO g
      rw [if_neg hno, if_neg hc64] at g
      rw [ecm]
      exact g
    match c2, J2, i1, gs, flt, fin with
    | 0, J2, i1, gs, flt, fin =>
      have i1 : pI h2 0 48 = 0 := i1
      have hno : ¬ (rk kk = 4 ∧ tgt (wTop (stR (pI h2 25) 0)) = 4) := fun g => absurd g.2 (by show ¬ tgt 0 = 4; decide)
      by_cases hc : cN = 64
      · refine spq_f (pc := 178) B4.1 (by omega) p2 (sAok.of (iB (by omega) (by omega) (iB (by omega) (by omega) iE))) hi2 rfl ?_
        intro x h' hx hi' hm' hf
        have t10 := T2.2.2.1
        exact ⟨hi', md12.seq (hm'.sub rfl), x, rfl, fun m KF KO g => Or.inl ⟨2, q, by have g := gs m KF KO g; rw [if_neg hno, if_pos hc] at g; exact g, hx, by rw [← t10]; exact hf⟩⟩
      · refine spq_c (pc := 178) (fun _ => pI h2 0 51) B4.2 (by omega) p2 (sAok.of (iB (by omega) (by omega) iE)) ⟨⟨rfl, by show 0 ≤ pI h2 0 51; omega, by show pI h2 0 51 ≤ 63; omega⟩, trivial⟩ hi2 rfl ?_
        intro lo3 st3 h3 hp hi3 hm3
        exact fin lo3 st3 h3 hno hc hp.2.1 hp.1 hi3 hm3 (hp.2.2.2.1 (0, 51, 0, 1) List.mem_cons_self)
    | c2 + 1, J2, i1, gs, flt, fin =>
      have uin := kL_in (pwt hi2 (i := c2) (by omega)) (J2.2.2.2.2.2 c2 (by omega))
      have ctop : tgt (wTop (stR (pI h2 25) (c2 + 1))) = rk (pI h2 25 c2) := (cm_ok uin).1
      have b48 : 1 ≤ pI h2 0 48 ∧ pI h2 0 48 ≤ 72 := by omega
      have e25 : (h2.2.1 25 (pI h2 0 48 + -1).toNat).toInt = pI h2 25 c2 := by
        have e : pI h2 0 48 + -1 = (c2 : Int) := by omega
        rw [e, Int.toNat_natCast]
        rfl
      rw [ctop] at gs fin
      have B5 := List.all_eq_true.mp B5 _ uin
      by_cases h44 : rk kk = 4 ∧ rk (pI h2 25 c2) = 4
      · rw [if_pos h44.1] at B3
        have B3 := List.all_eq_true.mp B3 _ uin
        rw [if_pos h44.2] at B3
        refine spq_ok (pc := 178) (fun i => match i with
          | 0 => pI h2 0 10
          | 1 => pI h2 0 48
          | _ => pI h2 25 (c2 + 1 - 1)) B3 (fun mi c h => nomatch h) (by omega) p2 (sA0_ok _) ⟨⟨rfl, b10⟩, ⟨rfl, b48⟩, ⟨e25, Int.le_refl _, Int.le_refl _⟩, trivial⟩ hi2 rfl (fun e he => nomatch he) ?_
        intro e he r' h' hp hi' hm'
        have e := List.mem_singleton.mp he
        subst e
        exact flt 1 (fun m KF KO g => by have g := gs m KF KO g; rw [if_pos h44] at g; exact g) r' h' hp hi' hm'
      · rw [if_neg h44] at B5
        simp only [Bool.and_eq_true] at B5
        by_cases hc : cN = 64
        · refine spq_ok (pc := 178) (fun i => match i with
            | 0 => pI h2 0 10
            | 1 => pI h2 0 48
            | _ => pI h2 25 (c2 + 1 - 1)) B5.1 (fun mi c h => nomatch h) (by omega) p2 (sAok.of (iB (by omega) (by omega) iE)) ⟨⟨rfl, b10⟩, ⟨rfl, b48⟩, ⟨e25, Int.le_refl _, Int.le_refl _⟩, trivial⟩ hi2 rfl (fun e he => nomatch he) ?_
          intro e he r' h' hp hi' hm'
          have e := List.mem_singleton.mp he
          subst e
          exact flt 2 (fun m KF KO g => by have g := gs m KF KO g; rw [if_neg h44, if_pos hc] at g; exact g) r' h' hp hi' hm'
        · refine spq_c (pc := 178) (fun i => match i with
            | 0 => pI h2 0 51
            | 1 => pI h2 0 48
            | _ => pI h2 25 (c2 + 1 - 1)) B5.2 (by omega) p2 (sA0_ok _) ⟨⟨rfl, by show 0 ≤ pI h2 0 51; omega, by show pI h2 0 51 ≤ 63; omega⟩, ⟨rfl, b48⟩, ⟨e25, Int.le_refl _, Int.le_refl _⟩, trivial⟩ hi2 rfl ?_
          intro lo3 st3 h3 hp hi3 hm3
          exact fin lo3 st3 h3 h44 hc hp.2.1 hp.1 hi3 hm3 (hp.2.2.2.1 (0, 51, 0, 1) List.mem_cons_self)
  · have hw : ∀ m KF KO, wSum D (m + 1) s o false nm cN e q KF KO → KF 1 q := fun m KF KO g => by
      rw [wSum, if_neg (by decide), if_neg h6, if_neg hs, if_neg hne] at g
      exact g
    have B := List.all_eq_true.mp sg7
    by_cases c0 : pI h 0 8 = 0
    · exact spm_f4 (B _ (by decide)) hi hT (sAok.of (L := [(0, 8, (0, 0))]) (iB (by omega) (by omega) iE)) hw
    by_cases c1 : pI h 0 8 = 1 ∧ pI h 0 9 ≤ 10
    · exact spm_f4 (B _ (by decide)) hi hT (sAok.of (L := [(0, 8, (1, 1)), (0, 9, (0, 10))]) (iB (by omega) (by omega) (iB (by omega) (by omega) iE))) hw
    by_cases c2 : pI h 0 8 = 1
    · exact spm_f4 (B _ (by decide)) hi hT (sAok.of (L := [(0, 8, (1, 1)), (0, 9, (13, 20))]) (iB (by omega) (by omega) (iB (by omega) (by omega) iE))) hw
    by_cases c3 : pI h 0 8 = 2 ∨ pI h 0 8 = 3
    · exact spm_f4 (B _ (by decide)) hi hT (sAok.of (L := [(0, 8, (2, 3))]) (iB (by omega) (by omega) iE)) hw
    by_cases c4 : pI h 0 8 = 4 ∧ pI h 0 9 = 59
    · exact spm_f4 (B _ (by decide)) hi hT (sAok.of (L := [(0, 8, (4, 4)), (0, 9, (59, 59))]) (iB (by omega) (by omega) (iB (by omega) (by omega) iE))) hw
    by_cases c5 : pI h 0 8 = 4 ∧ pI h 0 9 = 40
    · exact spm_f4 (B _ (by decide)) hi hT (sAok.of (L := [(0, 8, (4, 4)), (0, 9, (40, 40))]) (iB (by omega) (by omega) (iB (by omega) (by omega) iE))) hw
    by_cases c6 : pI h 0 8 = 4 ∧ pI h 0 9 = 37
    · exact spm_f4 (B _ (by decide)) hi hT (sAok.of (L := [(0, 8, (4, 4)), (0, 9, (37, 37))]) (iB (by omega) (by omega) (iB (by omega) (by omega) iE))) hw
    by_cases c7 : pI h 0 8 = 4
    · exact spm_f4 (B _ (by decide)) hi hT (sAok.of (L := [(0, 8, (4, 4)), (0, 9, (41, 41)), (0, 50, (0, 0))]) (iB (by omega) (by omega) (iB (by omega) (by omega) (iB (by omega) (by omega) iE)))) hw
    · exact spm_f4 (B _ (by decide)) hi hT (sAok.of (L := [(0, 8, (6, 6))]) (iB (by omega) (by omega) iE)) hw
