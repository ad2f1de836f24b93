theorem zdec {c : Prop} {inst : Decidable c} {A : ¬ c → Prop} {B : c → Prop} (hn : ∀ h, A h) (hp : ∀ h, B h) : @Decidable.rec c (fun _ => Prop) A B inst := by
  cases inst
  · exact hn _
  · exact hp _
theorem zr1 {l : Launch} {Γ : zG} {d mi : Nat} {args : List Value} {h : zH} {K : Option Value → zH → Prop} (ht : zrun False false (fun _ => false) (zno False) 1000 d mi args h K) : zSem l Γ false d (zhd mi) args h K :=
  zrun_ok (ρ := Prop) (bad := False) (tr := fun P => P) (sp := fun _ => false) (S := zno False) (fun h => h) rfl (fun _ _ _ _ _ h => by cases h) 1000 d mi args h K ht
set_option maxRecDepth 100000 in
set_option maxHeartbeats 4000000 in
theorem zf_c3 (l : Launch) (Γ : zG) (x1 : Int32) (x2 : Int32) : zSem l Γ false 10 (zhd 77) [.ref 0, .int x1, .int x2] zhC (fun r f => r = some (.int (-1)) ∧ f.1 = zshC) := by
  refine zr1 ?_
  refine zdec (fun h0 => ?_) (fun h0 => ?_)
  · refine zdec (fun h1 => ?_) (fun h1 => ?_)
    · exact ⟨rfl, rfl⟩
    · exact ⟨rfl, rfl⟩
  · exact ⟨rfl, rfl⟩
set_option maxRecDepth 100000 in
set_option maxHeartbeats 4000000 in
theorem zf_m3 (l : Launch) (Γ : zG) (x1 : Int32) (x2 : Int32) : zSem l Γ false 10 (zhd 228) [.ref 0, .int x1, .int x2] zhM (fun r f => r = some (.int (-1)) ∧ f.1 = zshM) := by
  refine zr1 ?_
  refine zdec (fun h0 => ?_) (fun h0 => ?_)
  · refine zdec (fun h1 => ?_) (fun h1 => ?_)
    · exact ⟨rfl, rfl⟩
    · exact ⟨rfl, rfl⟩
  · exact ⟨rfl, rfl⟩
set_option maxRecDepth 100000 in
set_option maxHeartbeats 4000000 in
theorem zf_c5 (l : Launch) (Γ : zG) (x1 : Int32) (x2 : Int32) : zSem l Γ false 10 (zhd 78) [.ref 0, .int x1, .int x2] zhC (fun r f => r = some (.int (-1)) ∧ f.1 = zshC) := by
  refine zr1 ?_
  refine zdec (fun h0 => ?_) (fun h0 => ?_)
  · refine zdec (fun h1 => ?_) (fun h1 => ?_)
    · exact ⟨rfl, rfl⟩
    · exact absurd (show x1 < 0 from h1) (show ¬ x1 < 0 from h0)
  · exact ⟨rfl, rfl⟩
set_option maxRecDepth 100000 in
set_option maxHeartbeats 4000000 in
theorem zf_m5 (l : Launch) (Γ : zG) (x1 : Int32) (x2 : Int32) : zSem l Γ false 10 (zhd 232) [.ref 0, .int x1, .int x2] zhM (fun r f => r = some (.int (-1)) ∧ f.1 = zshM) := by
  refine zr1 ?_
  refine zdec (fun h0 => ?_) (fun h0 => ?_)
  · refine zdec (fun h1 => ?_) (fun h1 => ?_)
    · exact absurd (Int32.not_lt.mp (show ¬ x1 < 0 from h0)) (show ¬ 0 ≤ x1 from h1)
    · exact ⟨rfl, rfl⟩
  · exact ⟨rfl, rfl⟩
set_option maxRecDepth 100000 in
set_option maxHeartbeats 4000000 in
theorem zf_c6 (l : Launch) (Γ : zG) (x1 : Int32) (x2 : Int32) : zSem l Γ false 10 (zhd 82) [.ref 0, .int x1, .int x2] zhC (fun r f => r = some (.int (-1)) ∧ f.1 = zshC) := by
  refine zr1 ?_
  refine zdec (fun h0 => ?_) (fun h0 => ?_)
  · refine zdec (fun h1 => ?_) (fun h1 => ?_)
    · refine zdec (fun h2 => ?_) (fun h2 => ?_)
      · exact ⟨rfl, rfl⟩
      · exact absurd (show x1 < 0 from h2) (show ¬ x1 < 0 from h0)
    · exact ⟨rfl, rfl⟩
  · exact ⟨rfl, rfl⟩
set_option maxRecDepth 100000 in
set_option maxHeartbeats 4000000 in
theorem zf_m6 (l : Launch) (Γ : zG) (x1 : Int32) (x2 : Int32) : zSem l Γ false 10 (zhd 236) [.ref 0, .int x1, .int x2] zhM (fun r f => r = some (.int (-1)) ∧ f.1 = zshM) := by
  refine zr1 ?_
  refine zdec (fun h0 => ?_) (fun h0 => ?_)
  · refine zdec (fun h1 => ?_) (fun h1 => ?_)
    · exact absurd (Int32.not_lt.mp (show ¬ x1 < 0 from h0)) (show ¬ 0 ≤ x1 from h1)
    · exact ⟨rfl, rfl⟩
  · exact ⟨rfl, rfl⟩
set_option maxRecDepth 100000 in
set_option maxHeartbeats 4000000 in
theorem zf_c8 (l : Launch) (Γ : zG) (x1 : Int32) : zSem l Γ false 10 (zhd 91) [.ref 0, .int x1] zhC (fun r f => r = some (.int (-1)) ∧ f.1 = zshC) := by
  refine zr1 ?_
  refine zdec (fun h0 => ?_) (fun h0 => ?_)
  · refine zdec (fun h1 => ?_) (fun h1 => ?_)
    · refine zdec (fun h2 => ?_) (fun h2 => ?_)
      · exact ⟨rfl, rfl⟩
      · exact absurd (show x1 < 0 from h2) (show ¬ x1 < 0 from h0)
    · exact ⟨rfl, rfl⟩
  · exact ⟨rfl, rfl⟩
set_option maxRecDepth 100000 in
set_option maxHeartbeats 4000000 in
theorem zf_m8 (l : Launch) (Γ : zG) (x1 : Int32) : zSem l Γ false 10 (zhd 246) [.ref 0, .int x1] zhM (fun r f => r = some (.int (-1)) ∧ f.1 = zshM) := by
  refine zr1 ?_
  refine zdec (fun h0 => ?_) (fun h0 => ?_)
  · refine zdec (fun h1 => ?_) (fun h1 => ?_)
    · exact absurd (Int32.not_lt.mp (show ¬ x1 < 0 from h0)) (show ¬ 0 ≤ x1 from h1)
    · exact ⟨rfl, rfl⟩
  · exact ⟨rfl, rfl⟩
set_option maxRecDepth 100000 in
set_option maxHeartbeats 4000000 in
theorem zf_c9 (l : Launch) (Γ : zG) (x1 : Int32) (x2 : Int32) (x3 : Int32) : zSem l Γ false 10 (zhd 95) [.ref 0, .int x1, .int x2, .int x3] zhC (fun r f => r = some (.int (-1)) ∧ f.1 = zshC) := by
  refine zr1 ?_
  refine zdec (fun h0 => ?_) (fun h0 => ?_)
  · refine zdec (fun h1 => ?_) (fun h1 => ?_)
    · refine zdec (fun h2 => ?_) (fun h2 => ?_)
      · exact ⟨rfl, rfl⟩
      · exact absurd (show x1 < 0 from h2) (show ¬ x1 < 0 from h0)
    · exact ⟨rfl, rfl⟩
  · exact ⟨rfl, rfl⟩
set_option maxRecDepth 100000 in
set_option maxHeartbeats 4000000 in
theorem zf_m9 (l : Launch) (Γ : zG) (x1 : Int32) (x2 : Int32) (x3 : Int32) : zSem l Γ false 10 (zhd 250) [.ref 0, .int x1, .int x2, .int x3] zhM (fun r f => r = some (.int (-1)) ∧ f.1 = zshM) := by
  refine zr1 ?_
  refine zdec (fun h0 => ?_) (fun h0 => ?_)
  · refine zdec (fun h1 => ?_) (fun h1 => ?_)
    · exact absurd (Int32.not_lt.mp (show ¬ x1 < 0 from h0)) (show ¬ 0 ≤ x1 from h1)
    · exact ⟨rfl, rfl⟩
  · exact ⟨rfl, rfl⟩
set_option maxRecDepth 100000 in
set_option maxHeartbeats 4000000 in
theorem zf_c10 (l : Launch) (Γ : zG) (x1 : Int32) : zSem l Γ false 10 (zhd 97) [.ref 0, .int x1] zhC (fun r f => r = some (.int 0) ∧ f.1 = zshC) := by
  refine zr1 ?_
  refine zdec (fun h0 => ?_) (fun h0 => ?_)
  · refine zdec (fun h1 => ?_) (fun h1 => ?_)
    · refine zdec (fun h2 => ?_) (fun h2 => ?_)
      · exact ⟨rfl, rfl⟩
      · exact absurd (show x1 < 0 from h2) (show ¬ x1 < 0 from h0)
    · exact ⟨rfl, rfl⟩
  · exact ⟨rfl, rfl⟩
set_option maxRecDepth 100000 in
set_option maxHeartbeats 4000000 in
theorem zf_m10 (l : Launch) (Γ : zG) (x1 : Int32) : zSem l Γ false 10 (zhd 252) [.ref 0, .int x1] zhM (fun r f => r = some (.int 0) ∧ f.1 = zshM) := by
  refine zr1 ?_
  refine zdec (fun h0 => ?_) (fun h0 => ?_)
  · refine zdec (fun h1 => ?_) (fun h1 => ?_)
    · exact absurd (Int32.not_lt.mp (show ¬ x1 < 0 from h0)) (show ¬ 0 ≤ x1 from h1)
    · exact ⟨rfl, rfl⟩
  · exact ⟨rfl, rfl⟩
set_option maxRecDepth 100000 in
set_option maxHeartbeats 4000000 in
theorem zf_c13 (l : Launch) (Γ : zG) (x1 : Int32) : zSem l Γ false 10 (zhd 118) [.ref 0, .int x1] zhC (fun r f => r = some (.int (-1)) ∧ f.1 = zshC) := by
  refine zr1 ?_
  refine zdec (fun h0 => ?_) (fun h0 => ?_)
  · refine zdec (fun h1 => ?_) (fun h1 => ?_)
    · refine zdec (fun h2 => ?_) (fun h2 => ?_)
      · exact ⟨rfl, rfl⟩
      · exact absurd (show x1 < 0 from h2) (show ¬ x1 < 0 from h0)
    · exact ⟨rfl, rfl⟩
  · exact ⟨rfl, rfl⟩
set_option maxRecDepth 100000 in
set_option maxHeartbeats 4000000 in
theorem zf_m13 (l : Launch) (Γ : zG) (x1 : Int32) : zSem l Γ false 10 (zhd 268) [.ref 0, .int x1] zhM (fun r f => r = some (.int (-1)) ∧ f.1 = zshM) := by
  refine zr1 ?_
  refine zdec (fun h0 => ?_) (fun h0 => ?_)
  · refine zdec (fun h1 => ?_) (fun h1 => ?_)
    · exact absurd (Int32.not_lt.mp (show ¬ x1 < 0 from h0)) (show ¬ 0 ≤ x1 from h1)
    · exact ⟨rfl, rfl⟩
  · exact ⟨rfl, rfl⟩
set_option maxRecDepth 100000 in
set_option maxHeartbeats 4000000 in
theorem zf_c14 (l : Launch) (Γ : zG) (x1 : Int32) (x2 : Int32) : zSem l Γ false 10 (zhd 119) [.ref 0, .int x1, .int x2] zhC (fun r f => r = some (.int (-1)) ∧ f.1 = zshC) := by
  refine zr1 ?_
  refine zdec (fun h0 => ?_) (fun h0 => ?_)
  · refine zdec (fun h1 => ?_) (fun h1 => ?_)
    · exact ⟨rfl, rfl⟩
    · exact absurd (show x1 < 0 from h1) (show ¬ x1 < 0 from h0)
  · exact ⟨rfl, rfl⟩
set_option maxRecDepth 100000 in
set_option maxHeartbeats 4000000 in
theorem zf_m14 (l : Launch) (Γ : zG) (x1 : Int32) (x2 : Int32) : zSem l Γ false 10 (zhd 269) [.ref 0, .int x1, .int x2] zhM (fun r f => r = some (.int (-1)) ∧ f.1 = zshM) := by
  refine zr1 ?_
  refine zdec (fun h0 => ?_) (fun h0 => ?_)
  · refine zdec (fun h1 => ?_) (fun h1 => ?_)
    · exact absurd (Int32.not_lt.mp (show ¬ x1 < 0 from h0)) (show ¬ 0 ≤ x1 from h1)
    · exact ⟨rfl, rfl⟩
  · exact ⟨rfl, rfl⟩
set_option maxRecDepth 100000 in
set_option maxHeartbeats 4000000 in
theorem zf_c15 (l : Launch) (Γ : zG) (x1 : Int32) (x2 : Int32) : zSem l Γ false 10 (zhd 122) [.ref 0, .int x1, .int x2] zhC (fun r f => r = some (.int (-1)) ∧ f.1 = zshC) := by
  refine zr1 ?_
  refine zdec (fun h0 => ?_) (fun h0 => ?_)
  · refine zdec (fun h1 => ?_) (fun h1 => ?_)
    · refine zdec (fun h2 => ?_) (fun h2 => ?_)
      · exact ⟨rfl, rfl⟩
      · exact absurd (show x1 < 0 from h2) (show ¬ x1 < 0 from h0)
    · exact ⟨rfl, rfl⟩
  · exact ⟨rfl, rfl⟩
set_option maxRecDepth 100000 in
set_option maxHeartbeats 4000000 in
theorem zf_m15 (l : Launch) (Γ : zG) (x1 : Int32) (x2 : Int32) : zSem l Γ false 10 (zhd 272) [.ref 0, .int x1, .int x2] zhM (fun r f => r = some (.int (-1)) ∧ f.1 = zshM) := by
  refine zr1 ?_
  refine zdec (fun h0 => ?_) (fun h0 => ?_)
  · refine zdec (fun h1 => ?_) (fun h1 => ?_)
    · exact absurd (Int32.not_lt.mp (show ¬ x1 < 0 from h0)) (show ¬ 0 ≤ x1 from h1)
    · exact ⟨rfl, rfl⟩
  · exact ⟨rfl, rfl⟩
set_option maxRecDepth 100000 in
set_option maxHeartbeats 4000000 in
theorem zf_c17 (l : Launch) (Γ : zG) (x1 : Int32) (x2 : Int32) : zSem l Γ false 10 (zhd 130) [.ref 0, .int x1, .int x2] zhC (fun r f => r = some (.int (-1)) ∧ f.1 = zshC) := by
  refine zr1 ?_
  refine zdec (fun h0 => ?_) (fun h0 => ?_)
  · refine zdec (fun h1 => ?_) (fun h1 => ?_)
    · refine zdec (fun h2 => ?_) (fun h2 => ?_)
      · exact ⟨rfl, rfl⟩
      · exact absurd (show x1 < 0 from h2) (show ¬ x1 < 0 from h0)
    · exact ⟨rfl, rfl⟩
  · exact ⟨rfl, rfl⟩
set_option maxRecDepth 100000 in
set_option maxHeartbeats 4000000 in
theorem zf_m17 (l : Launch) (Γ : zG) (x1 : Int32) (x2 : Int32) : zSem l Γ false 10 (zhd 276) [.ref 0, .int x1, .int x2] zhM (fun r f => r = some (.int (-1)) ∧ f.1 = zshM) := by
  refine zr1 ?_
  refine zdec (fun h0 => ?_) (fun h0 => ?_)
  · refine zdec (fun h1 => ?_) (fun h1 => ?_)
    · exact absurd (Int32.not_lt.mp (show ¬ x1 < 0 from h0)) (show ¬ 0 ≤ x1 from h1)
    · exact ⟨rfl, rfl⟩
  · exact ⟨rfl, rfl⟩
set_option maxRecDepth 100000 in
set_option maxHeartbeats 4000000 in
theorem zf_c18 (l : Launch) (Γ : zG) (x1 : Int32) : zSem l Γ false 10 (zhd 136) [.ref 0, .int x1] zhC (fun r f => r = some (.int (-1)) ∧ f.1 = zshC) := by
  refine zr1 ?_
  refine zdec (fun h0 => ?_) (fun h0 => ?_)
  · refine zdec (fun h1 => ?_) (fun h1 => ?_)
    · refine zdec (fun h2 => ?_) (fun h2 => ?_)
      · exact ⟨rfl, rfl⟩
      · exact absurd (show x1 < 0 from h2) (show ¬ x1 < 0 from h0)
    · exact ⟨rfl, rfl⟩
  · exact ⟨rfl, rfl⟩
set_option maxRecDepth 100000 in
set_option maxHeartbeats 4000000 in
theorem zf_m18 (l : Launch) (Γ : zG) (x1 : Int32) : zSem l Γ false 10 (zhd 277) [.ref 0, .int x1] zhM (fun r f => r = some (.int (-1)) ∧ f.1 = zshM) := by
  refine zr1 ?_
  refine zdec (fun h0 => ?_) (fun h0 => ?_)
  · refine zdec (fun h1 => ?_) (fun h1 => ?_)
    · exact absurd (Int32.not_lt.mp (show ¬ x1 < 0 from h0)) (show ¬ 0 ≤ x1 from h1)
    · exact ⟨rfl, rfl⟩
  · exact ⟨rfl, rfl⟩
set_option maxRecDepth 100000 in
set_option maxHeartbeats 4000000 in
theorem zf_c19 (l : Launch) (Γ : zG) (x1 : Int32) (x2 : Int32) : zSem l Γ false 10 (zhd 138) [.ref 0, .int x1, .int x2] zhC (fun r f => r = some (.int (Int32.ofNat 2147483648)) ∧ f.1 = zshC) := by
  refine zr1 ?_
  refine zdec (fun h0 => ?_) (fun h0 => ?_)
  · refine zdec (fun h1 => ?_) (fun h1 => ?_)
    · exact ⟨rfl, rfl⟩
    · exact absurd (show x1 < 0 from h1) (show ¬ x1 < 0 from h0)
  · exact ⟨rfl, rfl⟩
set_option maxRecDepth 100000 in
set_option maxHeartbeats 4000000 in
theorem zf_m19 (l : Launch) (Γ : zG) (x1 : Int32) (x2 : Int32) : zSem l Γ false 10 (zhd 278) [.ref 0, .int x1, .int x2] zhM (fun r f => r = some (.int (Int32.ofNat 2147483648)) ∧ f.1 = zshM) := by
  refine zr1 ?_
  refine zdec (fun h0 => ?_) (fun h0 => ?_)
  · refine zdec (fun h1 => ?_) (fun h1 => ?_)
    · exact absurd (Int32.not_lt.mp (show ¬ x1 < 0 from h0)) (show ¬ 0 ≤ x1 from h1)
    · exact ⟨rfl, rfl⟩
  · exact ⟨rfl, rfl⟩
set_option maxRecDepth 100000 in
set_option maxHeartbeats 4000000 in
theorem zf_c20 (l : Launch) (Γ : zG) (x1 : Int32) (x2 : Int32) (x3 : Int32) : zSem l Γ false 10 (zhd 139) [.ref 0, .int x1, .int x2, .int x3] zhC (fun r f => r = some (.long (-1)) ∧ f.1 = zshC) := by
  refine zr1 ?_
  refine zdec (fun h0 => ?_) (fun h0 => ?_)
  · refine zdec (fun h1 => ?_) (fun h1 => ?_)
    · refine zdec (fun h2 => ?_) (fun h2 => ?_)
      · exact ⟨rfl, rfl⟩
      · exact absurd (show x1 < 0 from h2) (show ¬ x1 < 0 from h0)
    · exact ⟨rfl, rfl⟩
  · exact ⟨rfl, rfl⟩
set_option maxRecDepth 100000 in
set_option maxHeartbeats 4000000 in
theorem zf_m20 (l : Launch) (Γ : zG) (x1 : Int32) (x2 : Int32) (x3 : Int32) : zSem l Γ false 10 (zhd 279) [.ref 0, .int x1, .int x2, .int x3] zhM (fun r f => r = some (.long (-1)) ∧ f.1 = zshM) := by
  refine zr1 ?_
  refine zdec (fun h0 => ?_) (fun h0 => ?_)
  · refine zdec (fun h1 => ?_) (fun h1 => ?_)
    · exact absurd (Int32.not_lt.mp (show ¬ x1 < 0 from h0)) (show ¬ 0 ≤ x1 from h1)
    · exact ⟨rfl, rfl⟩
  · exact ⟨rfl, rfl⟩
set_option maxRecDepth 100000 in
set_option maxHeartbeats 4000000 in
theorem zf_c21 (l : Launch) (Γ : zG) : zSem l Γ false 10 (zhd 141) [.ref 0] zhC (fun r f => r = some (.int (-1)) ∧ f.1 = zshC) := by
  refine zr1 ?_
  exact ⟨rfl, rfl⟩
set_option maxRecDepth 100000 in
set_option maxHeartbeats 4000000 in
theorem zf_m21 (l : Launch) (Γ : zG) : zSem l Γ false 10 (zhd 280) [.ref 0] zhM (fun r f => r = some (.int (-1)) ∧ f.1 = zshM) := by
  refine zr1 ?_
  exact ⟨rfl, rfl⟩
set_option maxRecDepth 100000 in
set_option maxHeartbeats 4000000 in
theorem zf_c22 (l : Launch) (Γ : zG) (x1 : Int32) : zSem l Γ false 10 (zhd 143) [.ref 0, .int x1] zhC (fun r f => r = some (.int (-1)) ∧ f.1 = zshC) := by
  refine zr1 ?_
  refine zdec (fun h0 => ?_) (fun h0 => ?_)
  · refine zdec (fun h1 => ?_) (fun h1 => ?_)
    · refine zdec (fun h2 => ?_) (fun h2 => ?_)
      · exact ⟨rfl, rfl⟩
      · exact absurd (show x1 < 0 from h2) (show ¬ x1 < 0 from h0)
    · exact ⟨rfl, rfl⟩
  · exact ⟨rfl, rfl⟩
set_option maxRecDepth 100000 in
set_option maxHeartbeats 4000000 in
theorem zf_m22 (l : Launch) (Γ : zG) (x1 : Int32) : zSem l Γ false 10 (zhd 283) [.ref 0, .int x1] zhM (fun r f => r = some (.int (-1)) ∧ f.1 = zshM) := by
  refine zr1 ?_
  refine zdec (fun h0 => ?_) (fun h0 => ?_)
  · refine zdec (fun h1 => ?_) (fun h1 => ?_)
    · exact absurd (Int32.not_lt.mp (show ¬ x1 < 0 from h0)) (show ¬ 0 ≤ x1 from h1)
    · exact ⟨rfl, rfl⟩
  · exact ⟨rfl, rfl⟩
set_option maxRecDepth 100000 in
set_option maxHeartbeats 4000000 in
theorem zf_c23 (l : Launch) (Γ : zG) (x1 : Int32) (x2 : Int32) : zSem l Γ false 10 (zhd 147) [.ref 0, .int x1, .int x2] zhC (fun r f => r = some (.int (-1)) ∧ f.1 = zshC) := by
  refine zr1 ?_
  refine zdec (fun h0 => ?_) (fun h0 => ?_)
  · refine zdec (fun h1 => ?_) (fun h1 => ?_)
    · refine zdec (fun h2 => ?_) (fun h2 => ?_)
      · exact ⟨rfl, rfl⟩
      · exact absurd (show x1 < 0 from h2) (show ¬ x1 < 0 from h0)
    · exact ⟨rfl, rfl⟩
  · exact ⟨rfl, rfl⟩
set_option maxRecDepth 100000 in
set_option maxHeartbeats 4000000 in
theorem zf_m23 (l : Launch) (Γ : zG) (x1 : Int32) (x2 : Int32) : zSem l Γ false 10 (zhd 287) [.ref 0, .int x1, .int x2] zhM (fun r f => r = some (.int (-1)) ∧ f.1 = zshM) := by
  refine zr1 ?_
  refine zdec (fun h0 => ?_) (fun h0 => ?_)
  · refine zdec (fun h1 => ?_) (fun h1 => ?_)
    · exact absurd (Int32.not_lt.mp (show ¬ x1 < 0 from h0)) (show ¬ 0 ≤ x1 from h1)
    · exact ⟨rfl, rfl⟩
  · exact ⟨rfl, rfl⟩
set_option maxRecDepth 100000 in
set_option maxHeartbeats 4000000 in
theorem zf_c24 (l : Launch) (Γ : zG) (x1 : Int32) (x2 : Int32) (x3 : Int32) : zSem l Γ false 10 (zhd 148) [.ref 0, .int x1, .int x2, .int x3] zhC (fun r f => r = some (.int (-1)) ∧ f.1 = zshC) := by
  refine zr1 ?_
  refine zdec (fun h0 => ?_) (fun h0 => ?_)
  · refine zdec (fun h1 => ?_) (fun h1 => ?_)
    · exact ⟨rfl, rfl⟩
    · exact absurd (show x1 < 0 from h1) (show ¬ x1 < 0 from h0)
  · exact ⟨rfl, rfl⟩
set_option maxRecDepth 100000 in
set_option maxHeartbeats 4000000 in
theorem zf_m24 (l : Launch) (Γ : zG) (x1 : Int32) (x2 : Int32) (x3 : Int32) : zSem l Γ false 10 (zhd 288) [.ref 0, .int x1, .int x2, .int x3] zhM (fun r f => r = some (.int (-1)) ∧ f.1 = zshM) := by
  refine zr1 ?_
  refine zdec (fun h0 => ?_) (fun h0 => ?_)
  · refine zdec (fun h1 => ?_) (fun h1 => ?_)
    · exact absurd (Int32.not_lt.mp (show ¬ x1 < 0 from h0)) (show ¬ 0 ≤ x1 from h1)
    · exact ⟨rfl, rfl⟩
  · exact ⟨rfl, rfl⟩
set_option maxRecDepth 100000 in
set_option maxHeartbeats 4000000 in
theorem zf_c26 (l : Launch) (Γ : zG) : zSem l Γ false 10 (zhd 152) [.ref 0] zhC (fun r f => r = some (.int (-1)) ∧ f.1 = zshC) := by
  refine zr1 ?_
  exact ⟨rfl, rfl⟩
set_option maxRecDepth 100000 in
set_option maxHeartbeats 4000000 in
theorem zf_m26 (l : Launch) (Γ : zG) : zSem l Γ false 10 (zhd 291) [.ref 0] zhM (fun r f => r = some (.int (-1)) ∧ f.1 = zshM) := by
  refine zr1 ?_
  exact ⟨rfl, rfl⟩
set_option maxRecDepth 100000 in
set_option maxHeartbeats 4000000 in
theorem zf_c27 (l : Launch) (Γ : zG) : zSem l Γ false 10 (zhd 153) [.ref 0] zhC (fun r f => r = some (.int 0) ∧ f.1 = zshC) := by
  refine zr1 ?_
  exact ⟨rfl, rfl⟩
set_option maxRecDepth 100000 in
set_option maxHeartbeats 4000000 in
theorem zf_m27 (l : Launch) (Γ : zG) : zSem l Γ false 10 (zhd 292) [.ref 0] zhM (fun r f => r = some (.int 0) ∧ f.1 = zshM) := by
  refine zr1 ?_
  exact ⟨rfl, rfl⟩
set_option maxRecDepth 100000 in
set_option maxHeartbeats 4000000 in
theorem zf_c30 (l : Launch) (Γ : zG) (x1 : Int32) : zSem l Γ false 10 (zhd 156) [.ref 0, .int x1] zhC (fun r f => r = some (.int (-1)) ∧ f.1 = zshC) := by
  refine zr1 ?_
  refine zdec (fun h0 => ?_) (fun h0 => ?_)
  · refine zdec (fun h1 => ?_) (fun h1 => ?_)
    · exact ⟨rfl, rfl⟩
    · exact absurd (show x1 < 0 from h1) (show ¬ x1 < 0 from h0)
  · exact ⟨rfl, rfl⟩
set_option maxRecDepth 100000 in
set_option maxHeartbeats 4000000 in
theorem zf_m30 (l : Launch) (Γ : zG) (x1 : Int32) : zSem l Γ false 10 (zhd 295) [.ref 0, .int x1] zhM (fun r f => r = some (.int (-1)) ∧ f.1 = zshM) := by
  refine zr1 ?_
  refine zdec (fun h0 => ?_) (fun h0 => ?_)
  · refine zdec (fun h1 => ?_) (fun h1 => ?_)
    · exact absurd (Int32.not_lt.mp (show ¬ x1 < 0 from h0)) (show ¬ 0 ≤ x1 from h1)
    · exact ⟨rfl, rfl⟩
  · exact ⟨rfl, rfl⟩
set_option maxRecDepth 100000 in
set_option maxHeartbeats 4000000 in
theorem zf_c31 (l : Launch) (Γ : zG) : zSem l Γ false 10 (zhd 157) [.ref 0] zhC (fun r f => r = some (.int 0) ∧ f.1 = zshC) := by
  refine zr1 ?_
  exact ⟨rfl, rfl⟩
set_option maxRecDepth 100000 in
set_option maxHeartbeats 4000000 in
theorem zf_m31 (l : Launch) (Γ : zG) : zSem l Γ false 10 (zhd 293) [.ref 0] zhM (fun r f => r = some (.int 0) ∧ f.1 = zshM) := by
  refine zr1 ?_
  exact ⟨rfl, rfl⟩
set_option maxRecDepth 100000 in
set_option maxHeartbeats 4000000 in
theorem zf_c32 (l : Launch) (Γ : zG) (x1 : Int32) (x2 : Int32) (x3 : Int32) (x4 : Int32) : zSem l Γ false 10 (zhd 158) [.ref 0, .int x1, .int x2, .int x3, .int x4] zhC (fun r f => r = some (.int (-1)) ∧ f.1 = zshC) := by
  refine zr1 ?_
  refine zdec (fun h0 => ?_) (fun h0 => ?_)
  · refine zdec (fun h1 => ?_) (fun h1 => ?_)
    · exact ⟨rfl, rfl⟩
    · refine zdec (fun h2 => ?_) (fun h2 => ?_)
      · refine zdec (fun h3 => ?_) (fun h3 => ?_)
        · refine zdec (fun h4 => ?_) (fun h4 => ?_)
          · exact ⟨rfl, rfl⟩
          · exact absurd (show x2 < 0 from h4) (show ¬ x2 < 0 from h2)
        · exact ⟨rfl, rfl⟩
      · exact ⟨rfl, rfl⟩
  · exact ⟨rfl, rfl⟩
set_option maxRecDepth 100000 in
set_option maxHeartbeats 4000000 in
theorem zf_m32 (l : Launch) (Γ : zG) (x1 : Int32) (x2 : Int32) (x3 : Int32) (x4 : Int32) : zSem l Γ false 10 (zhd 296) [.ref 0, .int x1, .int x2, .int x3, .int x4] zhM (fun r f => r = some (.int (-1)) ∧ f.1 = zshM) := by
  refine zr1 ?_
  refine zdec (fun h0 => ?_) (fun h0 => ?_)
  · refine zdec (fun h1 => ?_) (fun h1 => ?_)
    · refine zdec (fun h2 => ?_) (fun h2 => ?_)
      · refine zdec (fun h3 => ?_) (fun h3 => ?_)
        · exact absurd (Int32.not_lt.mp (show ¬ x2 < 0 from h2)) (show ¬ 0 ≤ x2 from h3)
        · exact ⟨rfl, rfl⟩
      · exact ⟨rfl, rfl⟩
    · exact ⟨rfl, rfl⟩
  · exact ⟨rfl, rfl⟩
set_option maxRecDepth 100000 in
set_option maxHeartbeats 4000000 in
theorem zf_c33 (l : Launch) (Γ : zG) (x1 : Int32) : zSem l Γ false 10 (zhd 160) [.ref 0, .int x1] zhC (fun r f => r = some (.int (-1)) ∧ f.1 = zshC) := by
  refine zr1 ?_
  refine zdec (fun h0 => ?_) (fun h0 => ?_)
  · refine zdec (fun h1 => ?_) (fun h1 => ?_)
    · exact absurd (Int32.not_lt.mp (show ¬ x1 < 0 from h0)) (show ¬ 0 ≤ x1 from h1)
    · exact ⟨rfl, rfl⟩
  · exact ⟨rfl, rfl⟩
set_option maxRecDepth 100000 in
set_option maxHeartbeats 4000000 in
theorem zf_m33 (l : Launch) (Γ : zG) (x1 : Int32) : zSem l Γ false 10 (zhd 298) [.ref 0, .int x1] zhM (fun r f => r = some (.int (-1)) ∧ f.1 = zshM) := by
  refine zr1 ?_
  refine zdec (fun h0 => ?_) (fun h0 => ?_)
  · refine zdec (fun h1 => ?_) (fun h1 => ?_)
    · exact ⟨rfl, rfl⟩
    · exact absurd (show x1 < 0 from h1) (show ¬ x1 < 0 from h0)
  · exact ⟨rfl, rfl⟩
set_option maxRecDepth 100000 in
set_option maxHeartbeats 4000000 in
theorem zf_c35 (l : Launch) (Γ : zG) (x1 : Int32) : zSem l Γ false 10 (zhd 163) [.ref 0, .int x1] zhC (fun r f => r = some (.int (-1)) ∧ f.1 = zshC) := by
  refine zr1 ?_
  refine zdec (fun h0 => ?_) (fun h0 => ?_)
  · refine zdec (fun h1 => ?_) (fun h1 => ?_)
    · refine zdec (fun h2 => ?_) (fun h2 => ?_)
      · exact ⟨rfl, rfl⟩
      · exact absurd (show x1 < 0 from h2) (show ¬ x1 < 0 from h0)
    · exact ⟨rfl, rfl⟩
  · exact ⟨rfl, rfl⟩
set_option maxRecDepth 100000 in
set_option maxHeartbeats 4000000 in
theorem zf_m35 (l : Launch) (Γ : zG) (x1 : Int32) : zSem l Γ false 10 (zhd 300) [.ref 0, .int x1] zhM (fun r f => r = some (.int (-1)) ∧ f.1 = zshM) := by
  refine zr1 ?_
  refine zdec (fun h0 => ?_) (fun h0 => ?_)
  · refine zdec (fun h1 => ?_) (fun h1 => ?_)
    · exact absurd (Int32.not_lt.mp (show ¬ x1 < 0 from h0)) (show ¬ 0 ≤ x1 from h1)
    · exact ⟨rfl, rfl⟩
  · exact ⟨rfl, rfl⟩
set_option maxRecDepth 100000 in
set_option maxHeartbeats 4000000 in
theorem zf_c36 (l : Launch) (Γ : zG) (x1 : Int32) (x2 : Int32) (x3 : Int32) : zSem l Γ false 10 (zhd 168) [.ref 0, .int x1, .int x2, .int x3] zhC (fun r f => r = some (.int (-1)) ∧ f.1 = zshC) := by
  refine zr1 ?_
  refine zdec (fun h0 => ?_) (fun h0 => ?_)
  · refine zdec (fun h1 => ?_) (fun h1 => ?_)
    · refine zdec (fun h2 => ?_) (fun h2 => ?_)
      · exact ⟨rfl, rfl⟩
      · refine zdec (fun h3 => ?_) (fun h3 => ?_)
        · refine zdec (fun h4 => ?_) (fun h4 => ?_)
          · refine zdec (fun h5 => ?_) (fun h5 => ?_)
            · exact ⟨rfl, rfl⟩
            · exact absurd (show x3 < 0 from h5) (show ¬ x3 < 0 from h3)
          · exact ⟨rfl, rfl⟩
        · exact ⟨rfl, rfl⟩
    · exact ⟨rfl, rfl⟩
  · exact ⟨rfl, rfl⟩
set_option maxRecDepth 100000 in
set_option maxHeartbeats 4000000 in
theorem zf_m36 (l : Launch) (Γ : zG) (x1 : Int32) (x2 : Int32) (x3 : Int32) : zSem l Γ false 10 (zhd 304) [.ref 0, .int x1, .int x2, .int x3] zhM (fun r f => r = some (.int (-1)) ∧ f.1 = zshM) := by
  refine zr1 ?_
  refine zdec (fun h0 => ?_) (fun h0 => ?_)
  · refine zdec (fun h1 => ?_) (fun h1 => ?_)
    · refine zdec (fun h2 => ?_) (fun h2 => ?_)
      · refine zdec (fun h3 => ?_) (fun h3 => ?_)
        · refine zdec (fun h4 => ?_) (fun h4 => ?_)
          · exact absurd (Int32.not_lt.mp (show ¬ x3 < 0 from h3)) (show ¬ 0 ≤ x3 from h4)
          · exact ⟨rfl, rfl⟩
        · exact ⟨rfl, rfl⟩
      · exact ⟨rfl, rfl⟩
    · exact ⟨rfl, rfl⟩
  · exact ⟨rfl, rfl⟩
set_option maxRecDepth 100000 in
set_option maxHeartbeats 4000000 in
theorem zf_c38 (l : Launch) (Γ : zG) : zSem l Γ false 10 (zhd 171) [.ref 0] zhC (fun r f => r = some (.int (-1)) ∧ f.1 = zshC) := by
  refine zr1 ?_
  exact ⟨rfl, rfl⟩
set_option maxRecDepth 100000 in
set_option maxHeartbeats 4000000 in
theorem zf_m38 (l : Launch) (Γ : zG) : zSem l Γ false 10 (zhd 307) [.ref 0] zhM (fun r f => r = some (.int (-1)) ∧ f.1 = zshM) := by
  refine zr1 ?_
  exact ⟨rfl, rfl⟩
set_option maxRecDepth 100000 in
set_option maxHeartbeats 4000000 in
theorem zf_c40 (l : Launch) (Γ : zG) : zSem l Γ false 10 (zhd 174) [.ref 0] zhC (fun r f => r = some (.int (-1)) ∧ f.1 = zshC) := by
  refine zr1 ?_
  exact ⟨rfl, rfl⟩
set_option maxRecDepth 100000 in
set_option maxHeartbeats 4000000 in
theorem zf_m40 (l : Launch) (Γ : zG) : zSem l Γ false 10 (zhd 310) [.ref 0] zhM (fun r f => r = some (.int (-1)) ∧ f.1 = zshM) := by
  refine zr1 ?_
  exact ⟨rfl, rfl⟩
