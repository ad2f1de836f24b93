/-- the end that the law owes -/
def zQL (Γ : zG) : List Frame → Array Value → State → State → Prop := fun below _ s t => ∃ o, t.status = .running ∧ Ended t below o ∧ o = .returned (some (.int 1)) ∧ ∃ L, FrameEnd s o t L 601024 7293034 ∧ ∀ q ∈ L, zA Γ q.base
def zKL : Option Value → zH → Prop := fun r _ => r = some (.int 1)
theorem zKL_Q {Γ : zG} {al : Bool} (below : List Frame) (args : Array Value) (s t : State) (h : MQ below (zQ Γ al zKL) args s zhL.2.2.2.2.1 zhL.2.2.2.2.2 (zA Γ) t) : zQL Γ below args s t := by
  obtain ⟨o, h1, h2, ⟨⟨r, h', e1, e2, e3⟩, e4⟩, L, h5, h6⟩ := h
  have e2 : r = some (.int 1) := e2
  subst e2
  exact ⟨o, h1, h2, e1, L, h5, h6⟩
/-- shapes of the whole world; the row of one long -/
def zshW : List zSh := zshC ++ (zshM ++ [(4, 1)])
def zB (u : Int64) : zH := (zshW, fun _ _ => 0, fun _ _ => u, fun _ _ => none)
/-- the whole world: the class's, the reference's, the law's row -/
def zW (f1 f2 : zH) (u : Int64) : zH := zjn 98 (zjn 0 (zB u) f1) f2
theorem zW_eq {f1 f2 : zH} {u : Int64} (h1 : f1.1 = zshC) (h2 : f2.1 = zshM) : zW f1 f2 u = zjn 0 (zjn 98 (zB u) f2) f1 := by
  have l1 : f1.1.length = 98 := by rw [h1]; decide
  have l2 : f2.1.length = 44 := by rw [h2]; decide
  have s1 : (zjn 98 (zjn 0 (zB u) f1) f2).1 = (zjn 0 (zjn 98 (zB u) f2) f1).1 := by
    obtain ⟨a1, r1⟩ := f1
    obtain ⟨a2, r2⟩ := f2
    have h1 : a1 = zshC := h1
    have h2 : a2 = zshM := h2
    subst h1
    subst h2
    show List.take 98 (List.take 0 zshW ++ zshC ++ List.drop (0 + zshC.length) zshW) ++ zshM ++ List.drop (98 + zshM.length) (List.take 0 zshW ++ zshC ++ List.drop (0 + zshC.length) zshW) = List.take 0 (List.take 98 zshW ++ zshM ++ List.drop (98 + zshM.length) zshW) ++ zshC ++ List.drop (0 + zshC.length) (List.take 98 zshW ++ zshM ++ List.drop (98 + zshM.length) zshW)
    decide +kernel
  unfold zW
  refine Prod.ext s1 (Prod.ext ?_ (Prod.ext ?_ ?_))
  all_goals
    funext q k
    simp only [zjn, l1, l2, Nat.zero_add, Nat.not_lt_zero, if_false]
    by_cases c1 : q < 98
    · simp only [c1, if_true]
    · by_cases c2 : q < 98 + 44
      · simp only [c1, c2, if_true, if_false]
      · simp only [c1, c2, if_false]
def zZ1 (Γ : zG) : Nat → Prop := fun a => Γ.2.2.1 + 98 ≤ a
def zZ2 (Γ : zG) : Nat → Prop := fun a => Γ.2.2.1 + 142 ≤ a
/-- the class's world, the reference's world -/
def zΓ1 (Γ : zG) : zG := zoff Γ 0 (zZ1 Γ)
def zΓ2 (Γ : zG) : zG := zoff Γ 98 (zZ2 Γ)
theorem zshW_len : zshW.length = 143 := by decide +kernel
/-- a call of the class -/
theorem zcallC {l : Launch} {Γ : zG} {d : Nat} {M : zHd} {args : List Value} {f1 f2 : zH} {u : Int64} {K1 K : Option Value → zH → Prop} (hΓ : ∀ q, ¬ Γ.2.2.2.2.2.2 q) (h1 : f1.1 = zshC) (h2 : f2.1 = zshM) (hs : zSem l (zΓ1 Γ) false d M args f1 K1) (hsh : ∀ r f, K1 r f → f.1 = zshC)
    (hK : ∀ r f, f.1 = zshC → K1 r f → K (r.map (zsft 0)) (zW f f2 u)) : zSem l Γ false d M (args.map (zsft 0)) (zW f1 f2 u) K := by
  have l1 : f1.1.length = 98 := by rw [h1]; decide
  have l2 : f2.1.length = 44 := by rw [h2]; decide
  have lg : (zjn 98 (zB u) f2).1.length = 143 := by
    rw [zjn_len (by show 98 ≤ zshW.length; rw [zshW_len]; decide), l2]
    show 98 + 44 + (zshW.length - (98 + 44)) = 143
    rw [zshW_len]
  rw [zW_eq h1 h2]
  refine (zembed (Z := zZ1 Γ) (g := zjn 98 (zB u) f2) (Nat.zero_le _) (fun q hq h9 => ?_) (fun h => by cases h) (fun _ r f hk => by rw [h1]; exact hsh r f hk) (fun q hq _ => ?_) (fun q h9 => absurd h9 (hΓ q)) hs).mono (fun r h' hk => ?_)
  · have : Γ.2.2.1 + 98 ≤ Γ.2.2.1 + 0 + q := h9
    omega
  · show Γ.2.2.1 + 98 ≤ Γ.2.2.1 + q
    omega
  · obtain ⟨r', f', e1, e2, e3⟩ := hk
    have hf := hsh r' f' e2
    rw [e1, e3, ← zW_eq hf h2]
    exact hK r' f' hf e2
/-- a call of the reference -/
theorem zcallM {l : Launch} {Γ : zG} {d : Nat} {M : zHd} {args : List Value} {f1 f2 : zH} {u : Int64} {K2 K : Option Value → zH → Prop} (hΓ : ∀ q, ¬ Γ.2.2.2.2.2.2 q) (h1 : f1.1 = zshC) (h2 : f2.1 = zshM) (hs : zSem l (zΓ2 Γ) false d M args f2 K2) (hsh : ∀ r f, K2 r f → f.1 = zshM)
    (hK : ∀ r f, f.1 = zshM → K2 r f → K (r.map (zsft 98)) (zW f1 f u)) : zSem l Γ false d M (args.map (zsft 98)) (zW f1 f2 u) K := by
  have l1 : f1.1.length = 98 := by rw [h1]; decide
  have l2 : f2.1.length = 44 := by rw [h2]; decide
  have lg : (zjn 0 (zB u) f1).1.length = 143 := by
    rw [zjn_len (Nat.zero_le _), l1]
    show 0 + 98 + (zshW.length - (0 + 98)) = 143
    rw [zshW_len]
  refine (zembed (Z := zZ2 Γ) (g := zjn 0 (zB u) f1) (by rw [lg]; decide) (fun q hq h9 => ?_) (fun h => by cases h) (fun _ r f hk => by rw [h2]; exact hsh r f hk) (fun q hq _ => ?_) (fun q h9 => absurd h9 (hΓ q)) hs).mono (fun r h' hk => ?_)
  · have : Γ.2.2.1 + 142 ≤ Γ.2.2.1 + 98 + q := h9
    omega
  · show Γ.2.2.1 + 142 ≤ Γ.2.2.1 + q
    omega
  · obtain ⟨r', f', e1, e2, e3⟩ := hk
    rw [e1, e3]
    exact hK r' f' (hsh r' f' e2) e2
theorem zX_al {l : Launch} {Γ : zG} {d : Nat} {M : zHd} {QF : List Frame → Array Value → State → State → Prop} {cs ss pc : Nat} {lo : zL} {st : List Value} {h : zH} (hX : zX l Γ false d M QF cs ss pc lo st h) : zX l Γ true d M QF cs ss pc lo st h :=
  fun a b p e s m args below meth c hc H locs ls hl hr hS => hX a b p e s m args below meth c hc H locs ls hl ⟨hr.1, hr.2.1, (fun h => by cases h), hr.2.2.2⟩ hS
/-- the law's body, calls as they mean -/
def zLG (l : Launch) (Γ : zG) (al : Bool) : Nat → List Value → zH → (Option Value → zH → Prop) → Prop := fun mi args h K => if mi = zGL then zSemW l Γ al 10 args h K else zSem l Γ al 10 (zhd mi) args h K
theorem zlaw {l : Launch} {Γ : zG} {al : Bool} {stop : Nat → Bool} {S : Nat → Nat → Nat → zL → List Value → zH → Prop} (hS : ∀ cs ss pc lo st h, stop pc = true → S cs ss pc lo st h → zX l Γ al 11 zhL (zQL Γ) cs ss pc lo st h) {n cs ss pc : Nat} {lo : zL} {st : List Value} {h : zH}
    (ht : zit False (zhL, zcL) al (some (Γ.2.2.2.2.1, Γ.2.2.2.2.2.1)) (zLG l Γ al) zKL stop S n cs ss pc lo st h) : zX l Γ al 11 zhL (zQL Γ) cs ss pc lo st h := by
  refine zit_ok (tr := fun P => P) (fun h => h) zckmL (fun mi args h K hne h1 => ?_) (fun args h K h1 => ?_) (fun x hx => by cases hx; rfl) zKL_Q hS n cs ss pc lo st h ht
  · unfold zLG at h1
    rw [if_neg hne] at h1
    exact h1
  · unfold zLG at h1
    rw [if_pos rfl] at h1
    exact h1
