theorem zsI_sI (h : zH) (q k : Nat) (v w : Int32) : zsI (zsI h q k v) q k w = zsI h q k w := by
  have e : zu2 (zu2 h.2.1 q k v) q k w = zu2 h.2.1 q k w := by
    funext a b
    simp only [zu2]
    by_cases h1 : a = q
    · by_cases h2 : b = k
      · simp only [h1, h2, if_true]
      · simp only [h1, h2, if_true, if_false]
    · simp only [h1, if_false]
  show ((h.1, zu2 (zu2 h.2.1 q k v) q k w, h.2.2) : zH) = (h.1, zu2 h.2.1 q k w, h.2.2)
  rw [e]
theorem zr2 {l : Launch} {Γ : zG} {d mi : Nat} {args : List Value} {h : zH} {K : Option Value → zH → Prop} (p : Nat) (hp : Nat.beq zGL p = false) (ht : zrun False false (fun q => Nat.beq q p) (fun d mi args h K => zSem l Γ false d (zhd mi) args h K) 1000 d mi args h K) : zSem l Γ false d (zhd mi) args h K :=
  zrun_ok (ρ := Prop) (bad := False) (tr := fun P => P) (sp := fun q => Nat.beq q p) (S := fun d mi args h K => zSem l Γ false d (zhd mi) args h K) (fun h => h) hp (fun _ _ _ _ _ _ h => h) 1000 d mi args h K ht
theorem zr3 {l : Launch} {Γ : zG} {d mi : Nat} {args : List Value} {h : zH} {K : Option Value → zH → Prop} (p p' : Nat) (hp : (Nat.beq zGL p || Nat.beq zGL p') = false) (ht : zrun False false (fun q => Nat.beq q p || Nat.beq q p') (fun d mi args h K => zSem l Γ false d (zhd mi) args h K) 1000 d mi args h K) : zSem l Γ false d (zhd mi) args h K :=
  zrun_ok (ρ := Prop) (bad := False) (tr := fun P => P) (sp := fun q => Nat.beq q p || Nat.beq q p') (S := fun d mi args h K => zSem l Γ false d (zhd mi) args h K) (fun h => h) hp (fun _ _ _ _ _ _ h => h) 1000 d mi args h K ht
/-! the same runs, with the list of locals laid out at every step -/
section ZF
variable {ρ : Type}
def zlay1 : zL → (zL → ρ) → ρ
  | [], k => k []
  | (i, v) :: r, k => zlay1 r (fun r' => k ((i, v) :: r'))
theorem zlay1_eq : ∀ (lo : zL) (k : zL → ρ), zlay1 lo k = k lo
  | [], _ => rfl
  | (i, v) :: r, k => zlay1_eq r (fun r' => k ((i, v) :: r'))
def zitF (bad : ρ) (M : zM) (al : Bool) (sc : Option (Nat × (Nat → Int32))) (G : Nat → List Value → zH → (Option Value → zH → ρ) → ρ) (K : Option Value → zH → ρ) (stop : Nat → Bool) (S : Nat → Nat → Nat → zL → List Value → zH → ρ) : Nat → Nat → Nat → Nat → zL → List Value → zH → ρ
  | 0 => fun _ _ _ _ _ _ => bad
  | n + 1 => zstep bad M al sc G K (fun cs ss pc lo st h => zlay1 lo (fun lo' => if stop pc = true then S cs ss pc lo' st h else zitF bad M al sc G K stop S n cs ss pc lo' st h))
theorem zitF_eq (bad : ρ) (M : zM) (al : Bool) (sc : Option (Nat × (Nat → Int32))) (G : Nat → List Value → zH → (Option Value → zH → ρ) → ρ) (K : Option Value → zH → ρ) (stop : Nat → Bool) (S : Nat → Nat → Nat → zL → List Value → zH → ρ) : ∀ n : Nat, zitF bad M al sc G K stop S n = zit bad M al sc G K stop S n
  | 0 => rfl
  | n + 1 => by
    have ih := zitF_eq bad M al sc G K stop S n
    have e : (fun (cs ss pc : Nat) (lo : zL) (st : List Value) (h : zH) => zlay1 lo (fun lo' => if stop pc = true then S cs ss pc lo' st h else zitF bad M al sc G K stop S n cs ss pc lo' st h)) = (fun cs ss pc lo st h => if stop pc = true then S cs ss pc lo st h else zit bad M al sc G K stop S n cs ss pc lo st h) := by
      funext cs ss pc lo st h
      rw [zlay1_eq, ih]
    show zstep bad M al sc G K _ = zstep bad M al sc G K _
    rw [e]
def zrunF (bad : ρ) (al : Bool) (sp : Nat → Bool) (S : Nat → Nat → List Value → zH → (Option Value → zH → ρ) → ρ) (n : Nat) : Nat → Nat → List Value → zH → (Option Value → zH → ρ) → ρ
  | 0 => fun _ _ _ _ => bad
  | d + 1 => fun mi args h K => if sp mi = true then S (d + 1) mi args h K else if (zCodes.get mi).1 = mi ∧ (lg_sl args).length ≤ (zhd mi).2.2.1 then zitF bad (zhd mi, (zCodes.get mi).2) al none (zrunF bad al sp S n d) K (fun _ => false) (fun _ _ _ _ _ _ => bad) n 0 0 0 (lv_args 0 args) [] h else bad
theorem zrunF_eq (bad : ρ) (al : Bool) (sp : Nat → Bool) (S : Nat → Nat → List Value → zH → (Option Value → zH → ρ) → ρ) (n : Nat) : ∀ d : Nat, zrunF bad al sp S n d = zrun bad al sp S n d
  | 0 => rfl
  | d + 1 => by
    funext mi args h K
    simp only [zrunF, zrun]
    rw [zrunF_eq bad al sp S n d, zitF_eq]
end ZF
theorem zr1F {l : Launch} {Γ : zG} {d mi : Nat} {args : List Value} {h : zH} {K : Option Value → zH → Prop} (ht : zrunF False false (fun _ => false) (zno False) 1000 d mi args h K) : zSem l Γ false d (zhd mi) args h K :=
  zr1 (by rw [zrunF_eq] at ht; exact ht)
theorem zr2F {l : Launch} {Γ : zG} {d mi : Nat} {args : List Value} {h : zH} {K : Option Value → zH → Prop} (p : Nat) (hp : Nat.beq zGL p = false) (ht : zrunF False false (fun q => Nat.beq q p) (fun d mi args h K => zSem l Γ false d (zhd mi) args h K) 1000 d mi args h K) : zSem l Γ false d (zhd mi) args h K :=
  zr2 p hp (by rw [zrunF_eq] at ht; exact ht)
theorem zr3F {l : Launch} {Γ : zG} {d mi : Nat} {args : List Value} {h : zH} {K : Option Value → zH → Prop} (p p' : Nat) (hp : (Nat.beq zGL p || Nat.beq zGL p') = false) (ht : zrunF False false (fun q => Nat.beq q p || Nat.beq q p') (fun d mi args h K => zSem l Γ false d (zhd mi) args h K) 1000 d mi args h K) : zSem l Γ false d (zhd mi) args h K :=
  zr3 p p' hp (by rw [zrunF_eq] at ht; exact ht)
/-- a piece of a body from one place to another, its callees inlined but p -/
theorem zpcF {l : Launch} {Γ : zG} {d : Nat} {M : zM} {K : Option Value → zH → Prop} {QF : List Frame → Array Value → State → State → Prop} (p stop : Nat) (hp : Nat.beq zGL p = false) (hck : zckB M = true)
    (hQ : ∀ below args s t, MQ below (zQ Γ false K) args s M.1.2.2.2.2.1 M.1.2.2.2.2.2 (zA Γ) t → QF below args s t) {cs ss pc : Nat} {lo : zL} {st : List Value} {h : zH}
    (ht : zitF False M false none (zrunF False false (fun q => Nat.beq q p) (fun d mi args h K => zSem l Γ false d (zhd mi) args h K) 1000 d) K (fun q => Nat.beq q stop) (fun cs ss pc lo st h => zX l Γ false (d + 1) M.1 QF cs ss pc lo st h) 1000 cs ss pc lo st h) : zX l Γ false (d + 1) M.1 QF cs ss pc lo st h := by
  rw [zitF_eq, zrunF_eq] at ht
  exact zit_ok (ρ := Prop) (bad := False) (tr := fun P => P) (sc := none) (fun h => h) hck (fun mi args h K' _ h1 => zrun_ok (ρ := Prop) (bad := False) (tr := fun P => P) (sp := fun q => Nat.beq q p) (S := fun d mi args h K => zSem l Γ false d (zhd mi) args h K) (fun h => h) hp (fun _ _ _ _ _ _ h => h) 1000 d mi args h K' h1) (fun args h K' h1 => False.elim (by rw [zrun_GL hp] at h1; exact h1)) (fun _ h => by cases h) hQ (fun cs ss pc lo st h _ h1 => h1) 1000 cs ss pc lo st h ht
