theorem zdec {c : Prop} {inst : Decidable c} {A : ¬ c → Prop} {B : c → Prop} (hn : ∀ h, A h) (hp : ∀ h, B h) : @Decidable.rec c (fun _ => Prop) A B inst := by
  cases inst
  · exact hn _
  · exact hp _
theorem zdecT {c : Prop} {inst : Decidable c} {A : ¬ c → Prop} {B : c → Prop} (hc : c) (hp : ∀ h, B h) : @Decidable.rec c (fun _ => Prop) A B inst := by
  cases inst with
  | isFalse h => exact absurd hc h
  | isTrue h => exact hp _
theorem zdecF {c : Prop} {inst : Decidable c} {A : ¬ c → Prop} {B : c → Prop} (hc : ¬ c) (hn : ∀ h, A h) : @Decidable.rec c (fun _ => Prop) A B inst := by
  cases inst with
  | isFalse h => exact hn _
  | isTrue h => exact absurd h hc
theorem zeE {a b a' b' : Int32} (g : a = b) (e : a' = a) (f : b' = b) : a' = b' := by rw [e, f]; exact g
theorem zeEn {a b a' b' : Int32} (g : ¬ a = b) (e : a' = a) (f : b' = b) : ¬ a' = b' := by rw [e, f]; exact g
theorem zeL {a b a' b' : Int32} (g : a < b) (e : a' = a) (f : b' = b) : a' < b' := by rw [e, f]; exact g
theorem zeLn {a b a' b' : Int32} (g : ¬ a < b) (e : a' = a) (f : b' = b) : ¬ a' < b' := by rw [e, f]; exact g
theorem zeM {a b a' b' : Int32} (g : a ≤ b) (e : a' = a) (f : b' = b) : a' ≤ b' := by rw [e, f]; exact g
theorem zeMn {a b a' b' : Int32} (g : ¬ a ≤ b) (e : a' = a) (f : b' = b) : ¬ a' ≤ b' := by rw [e, f]; exact g
theorem zsvI {r : Option Value} {x y : Int32} (h : r = some (.int x)) (e : x = y) : r = some (.int y) := e ▸ h
theorem zsvJ {r : Option Value} {x y : Int64} (h : r = some (.long x)) (e : x = y) : r = some (.long y) := e ▸ h
theorem zr1 {l : Launch} {Γ : zG} {d mi : Nat} {args : List Value} {h : zH} {K : Option Value → zH → Prop} (ht : zrun False false (fun _ => false) (zno False) 1000 d mi args h K) : zSem l Γ false d (zhd mi) args h K :=
  zrun_ok (ρ := Prop) (bad := False) (tr := fun P => P) (sp := fun _ => false) (S := zno False) (fun h => h) rfl (fun _ _ _ _ _ h => by cases h) 1000 d mi args h K ht
