/-! the reference's leafRead, signs, sumRead -/
def uMd : sM := [(0, 4, 6), (0, 7, 11), (0, 23, 24), (0, 48, 54), (22, 64, 128), (23, 64, 128), (24, 64, 128), (25, 0, 96), (26, 0, 96)]
def pM (h : zH) : Int := 40 * (64 - pI h 0 51) + (if pI h 0 52 = 1 then 8 - pI h 0 50 else pI h 0 50)
def pK (h0 : zH) (r : Option Value) (h' : zH) : Prop := ∃ x : Int32, r = some (.int x) ∧ sInv swM h' ∧ sMd uMd h0 h' ∧ (x.toInt = 0 ∨ (x.toInt = 1 ∧ sAok tkK h' ∧ (∃ c, pJ h' c) ∧ pM h' + 1 ≤ pM h0))
theorem wMd_u {c : Nat} (hc : c < 96) : ∀ q k, smem (wMd c) q k = true → smem uMd q k = true := fun q k hq => by
  simp only [smem, wMd, uMd, List.any_cons, List.any_nil, Bool.or_eq_true, Bool.and_eq_true, beq_iff_eq, decide_eq_true_eq, Bool.or_false] at hq ⊢
  omega
theorem gMd_u {r : Nat} (hr : r < 64) : ∀ q k, smem (gMd r) q k = true → smem uMd q k = true := fun q k hq => by
  simp only [smem, gMd, uMd, List.any_cons, List.any_nil, Bool.or_eq_true, Bool.and_eq_true, beq_iff_eq, decide_eq_true_eq, Bool.or_false] at hq ⊢
  omega
theorem sTPd (l : Launch) (Γ : zG) (dep : Nat) : ∀ mi, ∀ c ∈ sTP mi, c.2.2.2.2.2 ≤ dep → sCon l Γ swM mi c := fun mi c hc _ => sTP_ok l Γ mi c hc
theorem pK.fail {h0 h1 h' : zH} {md : sM} {r : Option Value} {V : Nat → Int} (hm1 : sMd uMd h0 h1) (hp : sRp V sR0 r h') (hi' : sInv swM h') (hm : sMd md h1 h') (hs : ssubB md uMd = true) : pK h0 r h' := by
  obtain ⟨v, e, x, rfl, h1, h2⟩ := hp.1
  have h1 : 0 ≤ x.toInt := h1
  have h2 : x.toInt ≤ 0 := h2
  exact ⟨x, e, hi', hm1.seq (hm.sub hs), Or.inl (by omega)⟩
theorem zleaf {l : Launch} {Γ : zG} {d : Nat} (hd : 2 ≤ d) {h : zH} (hi : sInv swM h) {c : Nat} (hJ : pJ h c) (hw : pI h 0 52 = 1) (hK : sAok tkK h) : zSem l Γ false (d + 1) (zhd 216) [.ref 0] h (pK h) := by
  obtain ⟨d1, rfl⟩ : ∃ d1, d = d1 + 1 := ⟨d - 1, by omega⟩
  have bd := hJ.bd hi
  have j1 := hJ.1
  have j5 := hJ.2.2.2.2.1
  refine spm_ok (fun i => match i with
    | 0 => pI h 0 50
    | _ => pI h 0 51) lB0 (sTPd l Γ 2) hd ⟨_, _, rfl, rfl, rfl⟩ hK ⟨⟨rfl, by show 0 ≤ pI h 0 50; omega, by show pI h 0 50 ≤ 8; omega⟩, ⟨rfl, by show 0 ≤ pI h 0 51; omega, by show pI h 0 51 ≤ 64; omega⟩, trivial⟩ hi ?_ ?_
  · -- a piece of the way that all three share
    have push : ∀ (pc : Nat) (lo' : zL) (h1 : zH) (k : Int32) (iv : Int × Int) (z : Int), zcvB 216 pc 12 1 217 = true → spqB swM sTP [(0, 7, 11), (0, 53, 54)] 400 2 216 lL tkD [] [] (pc + 3) [] [(some (sI1 1 1), tkK, [])] = true → (∀ q ∈ lL, ∃ v, zget lo' q.1 = some v ∧ sTok q.2 v) → sInv swM h1 → sMd lMd h h1 → sAok tkD h1 → iv ∈ wCl → iv.1 ≤ k.toInt ∧ k.toInt ≤ iv.2 → ((iv = (0, 0) ∧ z = 0) ∨ (iv = (2, 2) ∧ z = 1)) → pI h1 0 50 = pI h 0 50 + (1 - z) → pI h1 0 51 = pI h 0 51 + z → zX l Γ false (d1 + 1 + 1) (zhd 216) (zMQ' Γ false (zhd 216) (pK h)) 0 0 pc lo' ([.int k] ++ [.ref 0]) h1 := by
      intro pc lo' h1 k iv z hcv hsp hL hi1 hm1 hD hv hk hz e50 e51
      refine zcallV hcv rfl (by rw [hi1.1]; rfl) ?_
      have f48 : pI h1 0 48 = c := (pI_md hm1 rfl).trans j1
      refine (zwait hi1 (c := c) (by omega) f48 hv hk).mono ?_
      rintro rr h2 ⟨rfl, hi2, hm2, g1, g2⟩
      refine spq_ok (fun _ => 0) hsp (sTPd l Γ 2) hd hL (hD.md hm2 (by
        simp only [sAfr, tkD, wMd, smem, List.all_cons, List.all_nil, List.any_cons, List.any_nil, List.isEmpty_nil]
        rfl)) trivial hi2 rfl (fun e he => nomatch he) ?_
      intro e he r' h3 hp hi3 hm3
      have e := List.mem_singleton.mp he
      subst e
      obtain ⟨v, er, x, rfl, x1, x2⟩ := hp.1
      have x1 : 1 ≤ x.toInt := x1
      have x2 : x.toInt ≤ 1 := x2
      have k25 : ∀ i, i < c → pI h3 25 i = pI h 25 i := fun i hlt => (pI_md hm3 (smem_q rfl i)).trans ((pI_md hm2 (wMd_off (by omega))).trans (pI_md hm1 (smem_q rfl i)))
      have kc : pI h3 25 c = pI h2 25 c := pI_md hm3 (smem_q rfl c)
      have k48 : pI h3 0 48 = pI h2 0 48 := pI_md hm3 rfl
      have k23 : pI h3 0 23 = pI h 0 23 := (pI_md hm3 rfl).trans ((pI_md hm2 rfl).trans (pI_md hm1 rfl))
      have k49 : pI h3 0 49 = pI h 0 49 := (pI_md hm3 rfl).trans ((pI_md hm2 rfl).trans (pI_md hm1 rfl))
      have k52 : pI h3 0 52 = pI h 0 52 := (pI_md hm3 rfl).trans ((pI_md hm2 rfl).trans (pI_md hm1 rfl))
      have k50 : pI h3 0 50 = pI h1 0 50 := (pI_md hm3 rfl).trans (pI_md hm2 rfl)
      have k51 : pI h3 0 51 = pI h1 0 51 := (pI_md hm3 rfl).trans (pI_md hm2 rfl)
      have y : (pI h3 25 c = 0 ∧ z = 0) ∨ (pI h3 25 c = 2 ∧ z = 1) := by
        rw [kc]
        rcases hz with ⟨rfl, rfl⟩ | ⟨rfl, rfl⟩
        · have a1 : 0 ≤ pI h2 25 c := g2.1
          have a2 : pI h2 25 c ≤ 0 := g2.2
          exact Or.inl ⟨by omega, rfl⟩
        · have a1 : 2 ≤ pI h2 25 c := g2.1
          have a2 : pI h2 25 c ≤ 2 := g2.2
          exact Or.inr ⟨by omega, rfl⟩
      refine ⟨x, er, hi3, ((hm1.sub rfl).tr hm2 (wMd_u (by omega))).seq (hm3.sub rfl), Or.inr ⟨by omega, hp.2.1, ⟨c + 1, hJ.up k25 (by omega) (by omega) ?_ ?_ k23 ?_ (by omega)⟩, ?_⟩⟩
      · rcases y with ⟨y1, y2⟩ | ⟨y1, y2⟩
        · rw [if_pos y1]
          omega
        · rw [if_neg (by omega)]
          omega
      · rw [if_pos (by omega)]
        omega
      · rcases y with ⟨y1, y2⟩ | ⟨y1, y2⟩
        · rw [if_pos y1]
          omega
        · rw [if_neg (by omega)]
          omega
      · unfold pM
        rw [if_pos (by omega), if_pos hw]
        rcases y with ⟨y1, y2⟩ | ⟨y1, y2⟩ <;> omega
    have leaf : ∀ (lo' : zL) (h1 : zH) (k a b : Int32) (cl : (Int × Int) × (Int × Int) × (Int × Int)), (∀ q ∈ lL, ∃ v, zget lo' q.1 = some v ∧ sTok q.2 v) → sInv swM h1 → sMd lMd h h1 → sAok tkD h1 → cl ∈ gCl → cl.1.1 ≤ k.toInt ∧ k.toInt ≤ cl.1.2 → cl.2.1.1 ≤ a.toInt ∧ a.toInt ≤ cl.2.1.2 → cl.2.2.1 ≤ b.toInt ∧ b.toInt ≤ cl.2.2.2 → pI h1 0 50 = pI h 0 50 + 0 → pI h1 0 51 = pI h 0 51 + 1 → zX l Γ false (d1 + 1 + 1) (zhd 216) (zMQ' Γ false (zhd 216) (pK h)) 0 0 161 lo' ([.int b, .int a, .int k] ++ [.ref 0]) h1 := by
      intro lo' h1 k a b cl hL hi1 hm1 hD hcl hk ha hb e50 e51
      refine zcallV zv_l2 rfl (by rw [hi1.1]; rfl) ?_
      show zSem l Γ false (d1 + 1) (zhd 221) [.ref 0, .int k, .int a, .int b] h1 _
      have f49 : pI h1 0 49 = pI h 0 49 := pI_md hm1 rfl
      have f23 : pI h1 0 23 = pI h 0 23 := pI_md hm1 rfl
      have b51 : 0 ≤ pI h1 0 51 ∧ pI h1 0 51 ≤ 64 := pbd (iv := (0, 64)) hi1 (by decide +kernel)
      have zb := pZ_bd (pI h 25) c
      have j2 := hJ.2.1
      have j4 := hJ.2.2.2.1
      have hr64 : (pI h 0 23).toNat < 64 := by omega
      have hrn : ((pI h 0 23).toNat : Int) = pI h 0 23 := Int.toNat_of_nonneg (by omega)
      refine (zgrow hi1 (r := (pI h 0 23).toNat) hr64 (by omega) (by omega) (by omega) hcl hk ha hb).mono ?_
      rintro rr h2 ⟨rfl, hi2, hm2, g1, g2⟩
      refine spq_ok (pc := 164) (fun _ => 0) lB3 (sTPd l Γ 2) hd hL (hD.md hm2 (by
        simp only [sAfr, tkD, gMd, smem, List.all_cons, List.all_nil, List.any_cons, List.any_nil, List.isEmpty_nil]
        rfl)) trivial hi2 rfl (fun e he => nomatch he) ?_
      intro e he r' h3 hp hi3 hm3
      have e := List.mem_singleton.mp he
      subst e
      obtain ⟨v, er, x, rfl, x1, x2⟩ := hp.1
      have x1 : 1 ≤ x.toInt := x1
      have x2 : x.toInt ≤ 1 := x2
      obtain ⟨p1, p2⟩ := hp.2.1.rest
      have w0 : 0 ≤ pI h3 0 52 ∧ pI h3 0 52 ≤ 0 := p1 (0, 52, (0, 0)) List.mem_cons_self
      have k25 : ∀ i, i < c → pI h3 25 i = pI h 25 i := fun i hlt => (pI_md hm3 (smem_q rfl i)).trans ((pI_md hm2 (smem_q rfl i)).trans (pI_md hm1 (smem_q rfl i)))
      have k48 : pI h3 0 48 = pI h 0 48 := (pI_md hm3 rfl).trans ((pI_md hm2 rfl).trans (pI_md hm1 rfl))
      have k23 : pI h3 0 23 = pI h2 0 23 := pI_md hm3 rfl
      have k49 : pI h3 0 49 = pI h2 0 49 := pI_md hm3 rfl
      have k50 : pI h3 0 50 = pI h1 0 50 := (pI_md hm3 rfl).trans (pI_md hm2 rfl)
      have k51 : pI h3 0 51 = pI h1 0 51 := (pI_md hm3 rfl).trans (pI_md hm2 rfl)
      refine ⟨x, er, hi3, ((hm1.sub rfl).tr hm2 (gMd_u hr64)).seq (hm3.sub rfl), Or.inr ⟨by omega, p2, ⟨c, hJ.same k25 k48 (by omega) (by omega) (by omega) (by omega)⟩, ?_⟩⟩
      unfold pM
      rw [if_neg (by omega), if_pos hw]
      omega
    intro e he lo' st' h1 hp hi1 hm1
    simp only [List.mem_cons, List.not_mem_nil, or_false] at he
    obtain ⟨p1, p2, p3, p4, p5⟩ := hp
    rcases he with rfl | rfl | rfl | rfl
    · obtain ⟨_, _, rfl, ⟨k, rfl, hk⟩, vr, _, rfl, hr, hn⟩ := p1
      have hr : vr = .ref 0 := hr
      subst hr
      have hn : _ = [] := hn
      subst hn
      exact push 36 lo' h1 k (0, 0) 0 zv_l0 lB1 p2 hi1 hm1 p3 List.mem_cons_self hk (Or.inl ⟨rfl, rfl⟩) (p4 (0, 50, 0, 1) List.mem_cons_self) (p4 (0, 51, 1, 0) (List.mem_cons_of_mem _ List.mem_cons_self))
    · obtain ⟨_, _, rfl, ⟨k, rfl, hk⟩, vr, _, rfl, hr, hn⟩ := p1
      have hr : vr = .ref 0 := hr
      subst hr
      have hn : _ = [] := hn
      subst hn
      exact push 77 lo' h1 k (2, 2) 1 zv_l1 lB2 p2 hi1 hm1 p3 (List.mem_cons_of_mem _ List.mem_cons_self) hk (Or.inr ⟨rfl, rfl⟩) (p4 (0, 50, 0, 0) List.mem_cons_self) (p4 (0, 51, 1, 1) (List.mem_cons_of_mem _ List.mem_cons_self))
    · obtain ⟨_, _, rfl, ⟨b, rfl, hb⟩, _, _, rfl, ⟨a, rfl, ha⟩, _, _, rfl, ⟨k, rfl, hk⟩, vr, _, rfl, hr, hn⟩ := p1
      have hr : vr = .ref 0 := hr
      subst hr
      have hn : _ = [] := hn
      subst hn
      exact leaf lo' h1 k a b ((1, 1), (0, 6), (0, 0)) p2 hi1 hm1 p3 (List.mem_cons_of_mem _ List.mem_cons_self) hk ha hb (p4 (0, 50, 0, 0) List.mem_cons_self) (p4 (0, 51, 1, 1) (List.mem_cons_of_mem _ List.mem_cons_self))
    · obtain ⟨_, _, rfl, ⟨b, rfl, hb⟩, _, _, rfl, ⟨a, rfl, ha⟩, _, _, rfl, ⟨k, rfl, hk⟩, vr, _, rfl, hr, hn⟩ := p1
      have hr : vr = .ref 0 := hr
      subst hr
      have hn : _ = [] := hn
      subst hn
      exact leaf lo' h1 k a b ((0, 0), (0, 9999), (0, 0)) p2 hi1 hm1 p3 List.mem_cons_self hk ha hb (p4 (0, 50, 0, 0) List.mem_cons_self) (p4 (0, 51, 1, 1) (List.mem_cons_of_mem _ List.mem_cons_self))
  · intro e he r' h' hp hi' hm
    have e := List.mem_singleton.mp he
    subst e
    exact pK.fail sMd.rf hp hi' hm rfl
theorem zsigns {l : Launch} {Γ : zG} {d : Nat} (hd : 2 ≤ d) {h : zH} (hi : sInv swM h) {c : Nat} (hJ : pJ h c) (hw : pI h 0 52 = 0) (hK : sAok tkK h) : zSem l Γ false (d + 1) (zhd 222) [.ref 0] h (pK h) := by
  obtain ⟨d1, rfl⟩ : ∃ d1, d = d1 + 1 := ⟨d - 1, by omega⟩
  have bd := hJ.bd hi
  refine spm_ok (fun _ => 0) gB0 (sTPd l Γ 2) hd ⟨_, _, rfl, rfl, rfl⟩ hK trivial hi ?_ ?_
  · intro e he lo' st' h1 hp hi1 hm1
    have J1 : pJ h1 c := by
      have j5 := hJ.2.2.2.2.1
      have k23 : pI h1 0 23 = pI h 0 23 := pI_md hm1 rfl
      have k49 : pI h1 0 49 = pI h 0 49 := pI_md hm1 rfl
      have k51 : pI h1 0 51 = pI h 0 51 := pI_md hm1 rfl
      have k52 : pI h1 0 52 = pI h 0 52 := pI_md hm1 rfl
      exact hJ.same (fun i _ => pI_md hm1 (smem_q rfl i)) (pI_md hm1 rfl) (pI_md hm1 rfl) (by omega) (by omega) (by omega)
    have w1 : pI h1 0 52 = 0 := (pI_md hm1 rfl).trans hw
    have u50 : pI h1 0 50 = pI h 0 50 := pI_md hm1 rfl
    have u51 : pI h1 0 51 = pI h 0 51 := pI_md hm1 rfl
    simp only [List.mem_cons, List.not_mem_nil, or_false] at he
    obtain ⟨p1, p2, p3, p4, p5⟩ := hp
    rcases he with rfl | rfl
    · obtain ⟨_, _, rfl, ⟨k, rfl, hk⟩, vr, _, rfl, hr, hn⟩ := p1
      have hr : vr = .ref 0 := hr
      subst hr
      have hn : _ = [] := hn
      subst hn
      have hk1 : 1 ≤ k.toInt := hk.1
      have hk2 : k.toInt ≤ 1 := hk.2
      obtain ⟨s1, s2⟩ := p3.rest
      have s50 : 1 ≤ pI h1 0 50 ∧ pI h1 0 50 ≤ 8 := s1 (0, 50, (1, 8)) List.mem_cons_self
      refine zcallV (as := [.int k]) zv_g0 rfl (by rw [hi1.1]; rfl) ?_
      refine (zbindS (d := d1) (by omega) hi1 J1 w1 (x := k) (by omega)).mono ?_
      rintro rr h2 ⟨rfl, hi2, hm2, c2, J2, ht⟩
      have bd2 := J2.bd hi2
      have v50 : pI h2 0 50 = pI h1 0 50 := pI_md hm2 rfl
      have v51 : pI h2 0 51 = pI h1 0 51 := pI_md hm2 rfl
      have v52 : pI h2 0 52 = pI h1 0 52 := pI_md hm2 rfl
      have zb := pZ_bd (pI h2 25) c2
      have i1 := J2.1
      have i2 := J2.2.1
      have i5 := J2.2.2.2.2.1
      match c2, J2, ht with
      | 0, J2, ht =>
        have : pZ (pI h2 25) 0 = 0 := rfl
        have := J2.2.1
        omega
      | c2 + 1, J2, ht =>
        have htop : pI h2 25 c2 = 0 := (ht (by omega)).elim (fun e => absurd e (Nat.succ_ne_zero _)) (fun e => e)
        have i1 := J2.1
        refine spq_ok (pc := 21) (fun i => match i with
          | 0 => pI h2 0 48
          | _ => pI h2 0 50) gB1 (sTPd l Γ 2) hd p2 (s2.md hm2 rfl) ⟨⟨rfl, by show 1 ≤ pI h2 0 48; omega, by show pI h2 0 48 ≤ 72; omega⟩, ⟨rfl, by show 1 ≤ pI h2 0 50; omega, by show pI h2 0 50 ≤ 8; omega⟩, trivial⟩ hi2 rfl (fun e he => nomatch he) ?_
        intro e he r' h3 hp hi3 hm3
        have e := List.mem_singleton.mp he
        subst e
        obtain ⟨v, er, x, rfl, x1, x2⟩ := hp.1
        have x1 : 1 ≤ x.toInt := x1
        have x2 : x.toInt ≤ 1 := x2
        have m48 : pI h3 0 48 = pI h2 0 48 + -1 := hp.2.2 (0, 48, 0, -1) List.mem_cons_self
        have m50 : pI h3 0 50 = pI h2 0 50 + -1 := hp.2.2 (0, 50, 1, -1) (List.mem_cons_of_mem _ List.mem_cons_self)
        have k23 : pI h3 0 23 = pI h2 0 23 := pI_md hm3 rfl
        have k49 : pI h3 0 49 = pI h2 0 49 := pI_md hm3 rfl
        have k51 : pI h3 0 51 = pI h2 0 51 := pI_md hm3 rfl
        have k52 : pI h3 0 52 = pI h2 0 52 := pI_md hm3 rfl
        refine ⟨x, er, hi3, ((hm1.sub rfl).seq (hm2.sub rfl)).seq (hm3.sub rfl), Or.inr ⟨by omega, hp.2.1, ⟨c2, J2.down htop (fun i _ => pI_md hm3 (smem_q rfl i)) (by omega) (by omega) (by omega) (by omega) (by omega)⟩, ?_⟩⟩
        unfold pM
        rw [if_neg (by omega), if_neg (by omega)]
        omega
    · obtain ⟨_, _, rfl, ⟨k, rfl, hk⟩, vr, _, rfl, hr, hn⟩ := p1
      have hr : vr = .ref 0 := hr
      subst hr
      have hn : _ = [] := hn
      subst hn
      refine zcallV (as := [.int k]) zv_g1 rfl (by rw [hi1.1]; rfl) ?_
      refine (zbindS (d := d1) (by omega) hi1 J1 w1 (x := k) hk).mono ?_
      rintro rr h2 ⟨rfl, hi2, hm2, c2, J2, -⟩
      have bd2 := J2.bd hi2
      have v50 : pI h2 0 50 = pI h1 0 50 := pI_md hm2 rfl
      have v51 : pI h2 0 51 = pI h1 0 51 := pI_md hm2 rfl
      have v52 : pI h2 0 52 = pI h1 0 52 := pI_md hm2 rfl
      have i1 := J2.1
      have i5 := J2.2.2.2.2.1
      have md12 : sMd uMd h h2 := (hm1.sub rfl).seq (hm2.sub rfl)
      refine spq_ok (pc := 178) (fun _ => pI h2 0 51) gB2 (sTPd l Γ 2) hd p2 (p3.md hm2 rfl) ⟨⟨rfl, by show 0 ≤ pI h2 0 51; omega, by show pI h2 0 51 ≤ 64; omega⟩, trivial⟩ hi2 rfl ?_ ?_
      · intro e he lo3 st3 h3 hp hi3 hm3
        have e := List.mem_singleton.mp he
        subst e
        obtain ⟨r1, r2, r3, r4, r5⟩ := hp
        obtain ⟨_, _, rfl, ⟨k9, rfl, hk9⟩, vr, _, rfl, hr, hn⟩ := r1
        have hr : vr = .ref 0 := hr
        subst hr
        have hn : _ = [] := hn
        subst hn
        have n51 : pI h3 0 51 = pI h2 0 51 + 1 := r4 (0, 51, 0, 1) List.mem_cons_self
        have f48 : pI h3 0 48 = c2 := (pI_md hm3 rfl).trans i1
        refine zcallV (as := [.int k9]) zv_g2 rfl (by rw [hi3.1]; rfl) ?_
        refine (zwait hi3 (c := c2) (by omega) f48 (iv := (3, 14)) (by decide) hk9).mono ?_
        rintro rr h4 ⟨rfl, hi4, hm4, g1, g2⟩
        have g2 : 3 ≤ pI h4 25 c2 ∧ pI h4 25 c2 ≤ 14 := g2
        refine spq_ok (pc := 231) (fun _ => 0) gB3 (sTPd l Γ 2) hd r2 (r3.md hm4 (by
          simp only [sAfr, tkD, wMd, smem, List.all_cons, List.all_nil, List.any_cons, List.any_nil, List.isEmpty_nil]
          rfl)) trivial hi4 rfl (fun e he => nomatch he) ?_
        intro e he r' h5 hp hi5 hm5
        have e := List.mem_singleton.mp he
        subst e
        obtain ⟨v, er, x, rfl, x1, x2⟩ := hp.1
        have x1 : 1 ≤ x.toInt := x1
        have x2 : x.toInt ≤ 1 := x2
        obtain ⟨t1, t2⟩ := hp.2.1.rest
        have w5 : 1 ≤ pI h5 0 52 ∧ pI h5 0 52 ≤ 1 := t1 (0, 52, (1, 1)) List.mem_cons_self
        have k25 : ∀ i, i < c2 → pI h5 25 i = pI h2 25 i := fun i hlt => (pI_md hm5 (smem_q rfl i)).trans ((pI_md hm4 (wMd_off (by omega))).trans (pI_md hm3 (smem_q rfl i)))
        have kc : pI h5 25 c2 = pI h4 25 c2 := pI_md hm5 (smem_q rfl c2)
        have k48 : pI h5 0 48 = pI h4 0 48 := pI_md hm5 rfl
        have k23 : pI h5 0 23 = pI h2 0 23 := (pI_md hm5 rfl).trans ((pI_md hm4 rfl).trans (pI_md hm3 rfl))
        have k49 : pI h5 0 49 = pI h2 0 49 := (pI_md hm5 rfl).trans ((pI_md hm4 rfl).trans (pI_md hm3 rfl))
        have k50 : pI h5 0 50 = pI h2 0 50 := (pI_md hm5 rfl).trans ((pI_md hm4 rfl).trans (pI_md hm3 rfl))
        have k51 : pI h5 0 51 = pI h3 0 51 := (pI_md hm5 rfl).trans (pI_md hm4 rfl)
        refine ⟨x, er, hi5, ((md12.seq (hm3.sub rfl)).tr hm4 (wMd_u (by omega))).seq (hm5.sub rfl), Or.inr ⟨by omega, t2, ⟨c2 + 1, J2.up k25 (by omega) (by omega) ?_ ?_ k23 ?_ (by omega)⟩, ?_⟩⟩
        · rw [if_neg (by omega)]
          omega
        · rw [if_neg (by omega)]
          omega
        · rw [if_neg (by omega)]
          omega
        · unfold pM
          rw [if_pos (by omega), if_neg (by omega)]
          omega
      · intro e he r' h' hp hi' hm
        have e := List.mem_singleton.mp he
        subst e
        exact pK.fail md12 hp hi' hm rfl
  · intro e he r' h' hp hi' hm
    have e := List.mem_singleton.mp he
    subst e
    exact pK.fail sMd.rf hp hi' hm rfl
/-- what sumRead leaves -/
def pS (h0 : zH) (r : Option Value) (h' : zH) : Prop := ∃ x : Int32, r = some (.int x) ∧ sInv swM h' ∧ sMd uMd h0 h' ∧ (x.toInt = 0 ∨ (x.toInt = 1 ∧ sAok tkK h' ∧ pI h' 0 23 = pI h' 0 51 ∧ 1 ≤ pI h' 0 23))
theorem zsumL {l : Launch} {Γ : zG} {d : Nat} (hd : 3 ≤ d) {h0 : zH} : ∀ (N : Nat) (h : zH) (lo : zL) (c : Nat), (∀ q ∈ lL, ∃ v, zget lo q.1 = some v ∧ sTok q.2 v) → sInv swM h → sMd uMd h0 h → pJ h c → sAok tkK h → pM h < N → zX l Γ false (d + 1) (zhd 214) (zMQ' Γ false (zhd 214) (pS h0)) 0 0 25 lo [] h
  | 0, h, lo, c, hL, hi, hm, hJ, hK, hlt => by
    have bd := hJ.bd hi
    unfold pM at hlt
    split at hlt <;> omega
  | N + 1, h, lo, c, hL, hi, hm, hJ, hK, hlt => by
    obtain ⟨d1, rfl⟩ : ∃ d1, d = d1 + 1 := ⟨d - 1, by omega⟩
    refine spq_ok (fun _ => 0) uB1 (fun mi c h => nomatch h) (by omega) hL hK trivial hi rfl ?_ (fun e he => nomatch he)
    intro e he lo1 st1 h1 hp hi1 hm1
    have w : ∀ q j, pI h1 q j = pI h q j := fun q j => pI_md hm1 rfl
    have J1 : pJ h1 c := hJ.same (fun i _ => w 25 i) (w 0 48) (w 0 50) (by rw [w, w]) (by rw [w, w]) (by rw [w, w]; exact hJ.2.2.2.2.1)
    have m1 : sMd uMd h0 h1 := hm.seq (hm1.sub rfl)
    have M1 : pM h1 = pM h := by
      unfold pM
      rw [w, w, w]
    simp only [List.mem_cons, List.not_mem_nil, or_false] at he
    obtain ⟨p1, p2, p3, p4, p5⟩ := hp
    rcases he with rfl | rfl | rfl
    · obtain ⟨vr, _, rfl, hr, hn⟩ := p1
      have hr : vr = .ref 0 := hr
      subst hr
      have hn : _ = [] := hn
      subst hn
      obtain ⟨s1, s2⟩ := p3.rest
      have s52 : 1 ≤ pI h1 0 52 ∧ pI h1 0 52 ≤ 1 := s1 (0, 52, (1, 1)) List.mem_cons_self
      refine zcallV (as := []) zv_u0 rfl (by rw [hi1.1]; rfl) ?_
      refine (zleaf (d := d1) (by omega) hi1 J1 (by omega) s2).mono ?_
      rintro rr h2 ⟨x, rfl, hi2, hm2, hx | ⟨hx, hK2, ⟨c2, J2⟩, hM⟩⟩
      · refine spq_ok (pc := 59) (fun _ => 0) uB2 (fun mi c h => nomatch h) (by omega) p2 (sA0_ok _) trivial hi2 ⟨x, [], rfl, hx, rfl⟩ (fun e he => nomatch he) ?_
        intro e he r' h3 hp hi3 hm3
        have e := List.mem_singleton.mp he
        subst e
        obtain ⟨v, er, y, rfl, y1, y2⟩ := hp.1
        have y1 : 0 ≤ y.toInt := y1
        have y2 : y.toInt ≤ 0 := y2
        exact ⟨y, er, hi3, (m1.seq hm2).seq (hm3.sub rfl), Or.inl (by omega)⟩
      · refine spq_ok (pc := 59) (fun _ => 0) uB3 (fun mi c h => nomatch h) (by omega) p2 (sA0_ok _) trivial hi2 ⟨x, [], rfl, hx, rfl⟩ ?_ (fun e he => nomatch he)
        intro e he lo3 st3 h3 hp hi3 hm3
        have e := List.mem_singleton.mp he
        subst e
        have hs3 : st3 = [] := hp.1
        subst hs3
        have w3 : ∀ q j, pI h3 q j = pI h2 q j := fun q j => pI_md hm3 rfl
        refine zsumL hd N h3 lo3 c2 hp.2.1 hi3 ((m1.seq hm2).seq (hm3.sub rfl)) (J2.same (fun i _ => w3 25 i) (w3 0 48) (w3 0 50) (by rw [w3, w3]) (by rw [w3, w3]) (by rw [w3, w3]; exact J2.2.2.2.2.1)) (hK2.md hm3 rfl) ?_
        have M3 : pM h3 = pM h2 := by
          unfold pM
          rw [w3, w3, w3]
        omega
    · obtain ⟨vr, _, rfl, hr, hn⟩ := p1
      have hr : vr = .ref 0 := hr
      subst hr
      have hn : _ = [] := hn
      subst hn
      obtain ⟨s1, s2⟩ := p3.rest
      have s52 : 0 ≤ pI h1 0 52 ∧ pI h1 0 52 ≤ 0 := s1 (0, 52, (0, 0)) List.mem_cons_self
      refine zcallV (as := []) zv_u1 rfl (by rw [hi1.1]; rfl) ?_
      refine (zsigns (d := d1) (by omega) hi1 J1 (by omega) s2).mono ?_
      rintro rr h2 ⟨x, rfl, hi2, hm2, hx | ⟨hx, hK2, ⟨c2, J2⟩, hM⟩⟩
      · refine spq_ok (pc := 69) (fun _ => 0) uB4 (fun mi c h => nomatch h) (by omega) p2 (sA0_ok _) trivial hi2 ⟨x, [], rfl, hx, rfl⟩ (fun e he => nomatch he) ?_
        intro e he r' h3 hp hi3 hm3
        have e := List.mem_singleton.mp he
        subst e
        obtain ⟨v, er, y, rfl, y1, y2⟩ := hp.1
        have y1 : 0 ≤ y.toInt := y1
        have y2 : y.toInt ≤ 0 := y2
        exact ⟨y, er, hi3, (m1.seq hm2).seq (hm3.sub rfl), Or.inl (by omega)⟩
      · refine spq_ok (pc := 69) (fun _ => 0) uB5 (fun mi c h => nomatch h) (by omega) p2 (sA0_ok _) trivial hi2 ⟨x, [], rfl, hx, rfl⟩ ?_ (fun e he => nomatch he)
        intro e he lo3 st3 h3 hp hi3 hm3
        have e := List.mem_singleton.mp he
        subst e
        have hs3 : st3 = [] := hp.1
        subst hs3
        have w3 : ∀ q j, pI h3 q j = pI h2 q j := fun q j => pI_md hm3 rfl
        refine zsumL hd N h3 lo3 c2 hp.2.1 hi3 ((m1.seq hm2).seq (hm3.sub rfl)) (J2.same (fun i _ => w3 25 i) (w3 0 48) (w3 0 50) (by rw [w3, w3]) (by rw [w3, w3]) (by rw [w3, w3]; exact J2.2.2.2.2.1)) (hK2.md hm3 rfl) ?_
        have M3 : pM h3 = pM h2 := by
          unfold pM
          rw [w3, w3, w3]
        omega
    · obtain ⟨_, _, rfl, ⟨k, rfl, hk⟩, vr, _, rfl, hr, hn⟩ := p1
      have hr : vr = .ref 0 := hr
      subst hr
      have hn : _ = [] := hn
      subst hn
      have hk1 : 1 ≤ k.toInt := hk.1
      have hk2 : k.toInt ≤ 1 := hk.2
      obtain ⟨s1, s2⟩ := p3.rest
      have s52 : 0 ≤ pI h1 0 52 ∧ pI h1 0 52 ≤ 0 := s1 (0, 52, (0, 0)) List.mem_cons_self
      have s50 : 0 ≤ pI h1 0 50 ∧ pI h1 0 50 ≤ 0 := s1 (0, 50, (0, 0)) (List.mem_cons_of_mem _ List.mem_cons_self)
      refine zcallV (as := [.int k]) zv_u2 rfl (by rw [hi1.1]; rfl) ?_
      refine (zbindS (d := d1) (by omega) hi1 J1 (by omega) (x := k) (by omega)).mono ?_
      rintro rr h2 ⟨rfl, hi2, hm2, c2, J2, ht⟩
      have v50 : pI h2 0 50 = pI h1 0 50 := pI_md hm2 rfl
      have v52 : pI h2 0 52 = pI h1 0 52 := pI_md hm2 rfl
      have c20 : c2 = 0 := by
        rcases ht (by omega) with e | e
        · exact e
        · match c2, J2, e with
          | 0, _, _ => rfl
          | c2 + 1, J2, e =>
            have e : pI h2 25 c2 = 0 := e
            have i2 := J2.2.1
            have zb := pZ_bd (pI h2 25) c2
            simp only [pZ, e, if_true] at i2
            omega
      subst c20
      have i3 := J2.2.2.1
      have i4 := J2.2.2.2.1
      have i5 := J2.2.2.2.2.1
      have eB : pB (pI h2 25) 0 = 0 := rfl
      refine spq_ok (pc := 79) (fun _ => 0) uB6 (fun mi c h => nomatch h) (by omega) p2 (sA0_ok _) trivial hi2 rfl (fun e he => nomatch he) ?_
      intro e he r' h3 hp hi3 hm3
      have e := List.mem_singleton.mp he
      subst e
      obtain ⟨v, er, y, rfl, y1, y2⟩ := hp.1
      have y1 : 1 ≤ y.toInt := y1
      have y2 : y.toInt ≤ 1 := y2
      have w3 : ∀ q j, pI h3 q j = pI h2 q j := fun q j => pI_md hm3 rfl
      have w23 := w3 0 23
      have w51 := w3 0 51
      refine ⟨y, er, hi3, (m1.seq (hm2.sub rfl)).seq (hm3.sub rfl), Or.inr ⟨by omega, (s2.md hm2 rfl).md hm3 rfl, ?_, ?_⟩⟩
      · simp only [Int.natCast_zero] at i4
        omega
      · omega
theorem zsum {l : Launch} {Γ : zG} {d : Nat} (hd : 3 ≤ d) {h : zH} (hi : sInv swM h) (hK : sAok tkK h) (he : pI h 0 23 = pI h 0 51) : zSem l Γ false (d + 1) (zhd 214) [.ref 0] h (pS h) := by
  refine spm_ok (fun _ => 0) uB0 (fun mi c h => nomatch h) (by omega) ⟨_, _, rfl, rfl, rfl⟩ hK trivial hi ?_ (fun e he => nomatch he)
  intro e hm lo1 st1 h1 hp hi1 hm1
  have e := List.mem_singleton.mp hm
  subst e
  obtain ⟨p1, p2, p3, p4, p5⟩ := hp
  have hs : st1 = [] := p1
  subst hs
  obtain ⟨s1, s2⟩ := p3.rest
  have s48 : 0 ≤ pI h1 0 48 ∧ pI h1 0 48 ≤ 0 := s1 (0, 48, (0, 0)) List.mem_cons_self
  have s49 : 0 ≤ pI h1 0 49 ∧ pI h1 0 49 ≤ 0 := s1 (0, 49, (0, 0)) (List.mem_cons_of_mem _ List.mem_cons_self)
  have s50 : 0 ≤ pI h1 0 50 ∧ pI h1 0 50 ≤ 0 := s1 (0, 50, (0, 0)) (List.mem_cons_of_mem _ (List.mem_cons_of_mem _ List.mem_cons_self))
  have s52 : 1 ≤ pI h1 0 52 ∧ pI h1 0 52 ≤ 1 := s1 (0, 52, (1, 1)) (List.mem_cons_of_mem _ (List.mem_cons_of_mem _ (List.mem_cons_of_mem _ List.mem_cons_self)))
  have k23 : pI h1 0 23 = pI h 0 23 := pI_md hm1 rfl
  have k51 : pI h1 0 51 = pI h 0 51 := pI_md hm1 rfl
  have b23 : 0 ≤ pI h1 0 23 ∧ pI h1 0 23 ≤ 64 := pbd (iv := (0, 64)) hi1 (by decide +kernel)
  have J : pJ h1 0 := ⟨by show pI h1 0 48 = 0; omega, by show (0 : Int) = _; omega, by show (0 : Int) + 1 = _; omega, by show pI h1 0 23 + 0 - _ = _; omega, by omega, fun i hlt => absurd hlt (Nat.not_lt_zero _)⟩
  exact zsumL hd ((pM h1).toNat + 1) h1 lo1 0 p2 hi1 (hm1.sub rfl) J s2 (by omega)
