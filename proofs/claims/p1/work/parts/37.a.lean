theorem zsI_1 (h : zH) (q k : Nat) (v : Int32) : (zsI h q k v).1 = h.1 := rfl
theorem zgA_1 (a b : Int32) : (zgA a b).1 = zshC := rfl
theorem zgB_1 (a b c d e : Int32) : (zgB a b c d e).1 = zshM := rfl
theorem zsI_row {h : zH} {q k a : Nat} {v : Int32} (ha : a ≠ q) : (zsI h q k v).2.1 a = h.2.1 a := zu2_row ha
theorem zlay (l : Launch) (Γ : zG) : zSem l Γ false 9 (zhd 264) [.ref 0] zhM (fun r h' => r = none ∧ h' = zhM) :=
  zSem.norm (zrun_ok (ρ := Bool) (bad := false) (tr := fun b => b = true) (sp := fun _ => false) (S := zno false) (fun h => by cases h) rfl (fun _ _ _ _ _ h => by cases h) 100000 9 264 [.ref 0] zhM (fun r h' => decide (r = none) && zeqB h' zhM) (by decide +kernel))
theorem zr3 {l : Launch} {Γ : zG} {d mi : Nat} {args : List Value} {h : zH} {K : Option Value → zH → Prop} (p p' : Nat) (hp : (Nat.beq zGL p || Nat.beq zGL p') = false) (ht : zrun False false (fun q => Nat.beq q p || Nat.beq q p') (fun d mi args h K => zSem l Γ false d (zhd mi) args h K) 1000 d mi args h K) : zSem l Γ false d (zhd mi) args h K :=
  zrun_ok (ρ := Prop) (bad := False) (tr := fun P => P) (sp := fun q => Nat.beq q p || Nat.beq q p') (S := fun d mi args h K => zSem l Γ false d (zhd mi) args h K) (fun h => h) hp (fun _ _ _ _ _ _ h => h) 1000 d mi args h K ht
