set_option maxRecDepth 100000 in
set_option maxHeartbeats 4000000 in
theorem zwEnd {l : Launch} {Γ : zG} {d : Nat} {Kp : Option Value → zH → Prop} {I : zHI} {Lg : zHL} {P : zHP} {pa m : Nat} (hP3 : P 0 3 = some 2) (hK : Kp (some (.int (Int32.ofInt (-1)))) (zshM, I, Lg, P)) : zX l Γ false (d + 1) zh197 (zMQ' Γ false zh197 Kp) 0 0 5 [(4, .int (Int32.ofInt 104)), (3, .int (Int32.ofInt 21)), (0, .ref 0), (1, .int (Int32.ofNat pa)), (2, .int (Int32.ofNat (pa + m)))] [] (zshM, I, Lg, P) := by
  have eP := zPx hP3
  rw [eP] at hK ⊢
  refine zpcF (M := (zh197, zc197)) 197 1000 rfl zckm197 (fun _ _ _ _ h => h) ?_
  exact hK
/-- the word that stands there, or none -/
def wRel (T : Nat → Int) (pa m : Nat) (r : Int) : Prop := (r = -1 ∧ ∀ k, k < 21 → ¬ mtW T pa m k) ∨ ∃ k : Nat, k < 21 ∧ r = (k : Int) ∧ mtW T pa m k
set_option maxRecDepth 100000 in
set_option maxHeartbeats 4000000 in
theorem zwordAt {l : Launch} {Γ : zG} {d : Nat} {Kp : Option Value → zH → Prop} {I : zHI} {Lg : zHL} {P : zHP} {T : Nat → Int} {pa m : Nat} (hH : wH I P T pa m) (hK : ∀ r : Int, wRel T pa m r → Kp (some (.int (Int32.ofInt r))) (zshM, I, Lg, P)) : zSem l Γ false (d + 1) (zhd 197) [.ref 0, .int (Int32.ofNat pa), .int (Int32.ofNat (pa + m))] ((zshM, I, Lg, P) : zH) Kp := by
  show zSem l Γ false (d + 1) zh197 _ _ _
  have ha : sTL [sr0, .inl sf32, .inl sf32] [.ref 0, .int (Int32.ofNat pa), .int (Int32.ofNat (pa + m))] := ⟨_, _, rfl, rfl, _, _, rfl, ⟨_, rfl, i32bd _⟩, _, _, rfl, ⟨_, rfl, i32bd _⟩, rfl⟩
  refine zbody (by decide +kernel) (by rw [sslen_ok _ _ ha]; decide +kernel) ?_
  refine zpcF (M := (zh197, zc197)) 197 5 rfl zckm197 (fun _ _ _ _ h => h) ?_
  refine zw0 hH (fun h => hK 0 (Or.inr ⟨0, by decide, rfl, h⟩)) (fun n0 => ?_)
  refine zw1 hH (fun h => hK 1 (Or.inr ⟨1, by decide, rfl, h⟩)) (fun n1 => ?_)
  refine zw2 hH (fun h => hK 2 (Or.inr ⟨2, by decide, rfl, h⟩)) (fun n2 => ?_)
  refine zw3 hH (fun h => hK 3 (Or.inr ⟨3, by decide, rfl, h⟩)) (fun n3 => ?_)
  refine zw4 hH (fun h => hK 4 (Or.inr ⟨4, by decide, rfl, h⟩)) (fun n4 => ?_)
  refine zw5 hH (fun h => hK 5 (Or.inr ⟨5, by decide, rfl, h⟩)) (fun n5 => ?_)
  refine zw6 hH (fun h => hK 6 (Or.inr ⟨6, by decide, rfl, h⟩)) (fun n6 => ?_)
  refine zw7 hH (fun h => hK 7 (Or.inr ⟨7, by decide, rfl, h⟩)) (fun n7 => ?_)
  refine zw8 hH (fun h => hK 8 (Or.inr ⟨8, by decide, rfl, h⟩)) (fun n8 => ?_)
  refine zw9 hH (fun h => hK 9 (Or.inr ⟨9, by decide, rfl, h⟩)) (fun n9 => ?_)
  refine zw10 hH (fun h => hK 10 (Or.inr ⟨10, by decide, rfl, h⟩)) (fun n10 => ?_)
  refine zw11 hH (fun h => hK 11 (Or.inr ⟨11, by decide, rfl, h⟩)) (fun n11 => ?_)
  refine zw12 hH (fun h => hK 12 (Or.inr ⟨12, by decide, rfl, h⟩)) (fun n12 => ?_)
  refine zw13 hH (fun h => hK 13 (Or.inr ⟨13, by decide, rfl, h⟩)) (fun n13 => ?_)
  refine zw14 hH (fun h => hK 14 (Or.inr ⟨14, by decide, rfl, h⟩)) (fun n14 => ?_)
  refine zw15 hH (fun h => hK 15 (Or.inr ⟨15, by decide, rfl, h⟩)) (fun n15 => ?_)
  refine zw16 hH (fun h => hK 16 (Or.inr ⟨16, by decide, rfl, h⟩)) (fun n16 => ?_)
  refine zw17 hH (fun h => hK 17 (Or.inr ⟨17, by decide, rfl, h⟩)) (fun n17 => ?_)
  refine zw18 hH (fun h => hK 18 (Or.inr ⟨18, by decide, rfl, h⟩)) (fun n18 => ?_)
  refine zw19 hH (fun h => hK 19 (Or.inr ⟨19, by decide, rfl, h⟩)) (fun n19 => ?_)
  refine zw20 hH (fun h => hK 20 (Or.inr ⟨20, by decide, rfl, h⟩)) (fun n20 => ?_)
  refine zwEnd hH.2.1 (hK (-1) (Or.inl ⟨rfl, fun k hk => ?_⟩))
  match k, hk with
  | 0, _ => exact n0
  | 1, _ => exact n1
  | 2, _ => exact n2
  | 3, _ => exact n3
  | 4, _ => exact n4
  | 5, _ => exact n5
  | 6, _ => exact n6
  | 7, _ => exact n7
  | 8, _ => exact n8
  | 9, _ => exact n9
  | 10, _ => exact n10
  | 11, _ => exact n11
  | 12, _ => exact n12
  | 13, _ => exact n13
  | 14, _ => exact n14
  | 15, _ => exact n15
  | 16, _ => exact n16
  | 17, _ => exact n17
  | 18, _ => exact n18
  | 19, _ => exact n19
  | 20, _ => exact n20
  | k + 21, hk => exact absurd hk (by omega)
