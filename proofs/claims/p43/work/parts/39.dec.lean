theorem zdec {c : Prop} {inst : Decidable c} {A : ¬ c → Prop} {B : c → Prop} (hn : ∀ h, A h) (hp : ∀ h, B h) : @Decidable.rec c (fun _ => Prop) A B inst := by
  cases inst
  · exact hn _
  · exact hp _
theorem zrB {l : Launch} {Γ : zG} {d mi : Nat} {args : List Value} {h : zH} {v : Value} {sh : List zSh} (ht : zrun false false (fun _ => false) (zno false) 100000 d mi args h (fun r f => decide (r = some v) && decide (f.1 = sh)) = true) : zSem l Γ false d (zhd mi) args h (fun r f => r = some v ∧ f.1 = sh) :=
  (zrun_ok (ρ := Bool) (bad := false) (tr := fun b => b = true) (sp := fun _ => false) (S := zno false) (fun h => by cases h) rfl (fun _ _ _ _ _ h => by cases h) 100000 d mi args h _ ht).mono (fun r h' hk => by
    simp only [Bool.and_eq_true, decide_eq_true_eq] at hk
    exact hk)
theorem zne_le {x : Int32} (h0 : ¬ x < 0) (hx : x ≠ 0) : ¬ x ≤ 0 := fun h => hx (Int32.le_antisymm h (Int32.not_lt.mp h0))
theorem zne012 {x : Int32} (h : ¬ x < 0) (h0 : x ≠ 0) (h1 : x ≠ 1) (h2 : x ≠ 2) : ¬ x ≤ 2 := by
  intro g
  rw [Int32.lt_iff_toInt_lt] at h
  rw [Int32.le_iff_toInt_le] at g
  have e0 : (0 : Int32).toInt = 0 := by decide
  have e1 : (1 : Int32).toInt = 1 := by decide
  have e2 : (2 : Int32).toInt = 2 := by decide
  rw [e0] at h
  rw [e2] at g
  have hc : x.toInt = 0 ∨ x.toInt = 1 ∨ x.toInt = 2 := by omega
  rcases hc with e | e | e
  · exact h0 (Int32.toInt_inj.mp (by rw [e, e0]))
  · exact h1 (Int32.toInt_inj.mp (by rw [e, e1]))
  · exact h2 (Int32.toInt_inj.mp (by rw [e, e2]))
theorem zdecT {c : Prop} {inst : Decidable c} {A : ¬ c → Prop} {B : c → Prop} (hc : c) (hp : ∀ h, B h) : @Decidable.rec c (fun _ => Prop) A B inst := by
  cases inst with
  | isFalse h => exact absurd hc h
  | isTrue h => exact hp _
theorem zdecF {c : Prop} {inst : Decidable c} {A : ¬ c → Prop} {B : c → Prop} (hc : ¬ c) (hn : ∀ h, A h) : @Decidable.rec c (fun _ => Prop) A B inst := by
  cases inst with
  | isFalse h => exact hn _
  | isTrue h => exact absurd h hc
theorem zeE {a b a' b' : Int32} (g : a = b) (e : a' = a) (f : b' = b) : a' = b' := by rw [e, f]; exact g
theorem zeEn {a b a' b' : Int32} (g : ¬ a = b) (e : a' = a) (f : b' = b) : ¬ a' = b' := by rw [e, f]; exact g
theorem zeL {a b a' b' : Int32} (g : a < b) (e : a' = a) (f : b' = b) : a' < b' := by rw [e, f]; exact g
theorem zeLn {a b a' b' : Int32} (g : ¬ a < b) (e : a' = a) (f : b' = b) : ¬ a' < b' := by rw [e, f]; exact g
theorem zeM {a b a' b' : Int32} (g : a ≤ b) (e : a' = a) (f : b' = b) : a' ≤ b' := by rw [e, f]; exact g
theorem zeMn {a b a' b' : Int32} (g : ¬ a ≤ b) (e : a' = a) (f : b' = b) : ¬ a' ≤ b' := by rw [e, f]; exact g
theorem zsvI {r : Option Value} {x y : Int32} (h : r = some (.int x)) (e : x = y) : r = some (.int y) := e ▸ h
theorem zsvJ {r : Option Value} {x y : Int64} (h : r = some (.long x)) (e : x = y) : r = some (.long y) := e ▸ h
theorem zr1 {l : Launch} {Γ : zG} {d mi : Nat} {args : List Value} {h : zH} {K : Option Value → zH → Prop} (ht : zrun False false (fun _ => false) (zno False) 1000 d mi args h K) : zSem l Γ false d (zhd mi) args h K :=
  zrun_ok (ρ := Prop) (bad := False) (tr := fun P => P) (sp := fun _ => false) (S := zno False) (fun h => h) rfl (fun _ _ _ _ _ h => by cases h) 1000 d mi args h K ht
