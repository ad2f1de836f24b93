set_option maxRecDepth 100000 in
set_option maxHeartbeats 4000000 in
theorem zlc24 (l : Launch) (hl : l.stackTraces = false) (D : va_G) (cT : Nat → ClassId) (bs : Nat) (ov : Nat → Value) (xs : Nat → Int32) (Z : Nat → Prop) (hZ : ∀ q, ¬ Z q) {L : Nat} {i : Int32} {cs ss : Nat} (hcs : cs + 2 ≤ zhL.2.2.2.2.1) (hss : ss + 12 ≤ zhL.2.2.2.2.2) (hx : ∀ j : Int, 1 ≤ j → j ≤ 5 → zIx L i j) {k : Nat} (hk5 : k ≤ 513) {f1 f2 : zH} {u : Int64} (hOK : zOK k f1 f2) (hS : zNx l ((D, cT, bs, ov, L, xs, Z) : zG) i cs ss k) : zX l ((D, cT, bs, ov, L, xs, Z) : zG) false 11 zhL (zQL ((D, cT, bs, ov, L, xs, Z) : zG)) cs ss 1043 [(4, .int i), (3, .ref 142), (2, .ref 98), (1, .ref 0), (0, .retAddr 10)] [] (zW f1 f2 u) := by
  obtain ⟨A, R1, R2, hB⟩ := hOK
  obtain ⟨s1, g1⟩ := f1
  have q1 : s1 = zshC := R1.1.1.1
  subst q1
  obtain ⟨s2, g2⟩ := f2
  have q2 : s2 = zshM := R2.1.1.1
  subst q2
  refine zlaw (n := 1000) (stop := fun p => Nat.beq p 23) (S := fun cs ss pc lo st h => zX l ((D, cT, bs, ov, L, xs, Z) : zG) false 11 zhL (zQL ((D, cT, bs, ov, L, xs, Z) : zG)) cs ss pc lo st h) (fun _ _ _ _ _ _ _ h => h) ?_
  refine zdecF (hx 1 (by decide) (by decide)) (fun _ => ?_)
  refine zdecF (hx 2 (by decide) (by decide)) (fun _ => ?_)
  refine zdecF (hx 3 (by decide) (by decide)) (fun _ => ?_)
  refine zdecT ⟨Nat.zero_le 8, rfl, Nat.le_trans (Nat.le_add_right cs 2) hcs, Nat.le_trans (Nat.le_add_right ss 12) hss, rfl⟩ (fun _ => ?_)
  show zSem l ((D, cT, bs, ov, L, xs, Z) : zG) false 10 (zhd 148) (([.ref 0, .int (xs (i + Int32.ofInt 1).toNatClampNeg), .int (xs (i + Int32.ofInt 2).toNatClampNeg), .int (xs (i + Int32.ofInt 3).toNatClampNeg)] : List Value).map (zsft 0)) (zW (zshC, g1) (zshM, g2) u) _
  refine zcallC hZ rfl rfl (zsc24 l _ R1 (xs (i + Int32.ofInt 1).toNatClampNeg) (xs (i + Int32.ofInt 2).toNatClampNeg) (xs (i + Int32.ofInt 3).toNatClampNeg)) (fun r f hk => hk.2.1.1.1) (fun r f hf hk => ?_)
  obtain ⟨⟨a, rfl⟩, j1⟩ := hk
  obtain ⟨s3, g3⟩ := f
  have hf : s3 = zshC := hf
  subst hf
  refine zdecF (hx 1 (by decide) (by decide)) (fun _ => ?_)
  refine zdecF (hx 2 (by decide) (by decide)) (fun _ => ?_)
  refine zdecF (hx 3 (by decide) (by decide)) (fun _ => ?_)
  refine zdecT ⟨Nat.zero_le 8, rfl, Nat.le_trans (Nat.le_add_right cs 2) hcs, Nat.le_trans (Nat.le_add_right ss 12) hss, rfl⟩ (fun _ => ?_)
  show zSem l ((D, cT, bs, ov, L, xs, Z) : zG) false 10 (zhd 287) (([.ref 0, .int (xs (i + Int32.ofInt 1).toNatClampNeg), .int (xs (i + Int32.ofInt 2).toNatClampNeg), .int (xs (i + Int32.ofInt 3).toNatClampNeg)] : List Value).map (zsft 98)) (zW (zshC, g3) (zshM, g2) u) _
  refine zcallM hZ rfl rfl (zsm24 l _ R2 (xs (i + Int32.ofInt 1).toNatClampNeg) (xs (i + Int32.ofInt 2).toNatClampNeg) (xs (i + Int32.ofInt 3).toNatClampNeg)) (fun r f hk => hk.2.1.1.1) (fun r f hf hk => ?_)
  obtain ⟨⟨b, rfl⟩, j2⟩ := hk
  exact hS _ _ _ _ _ ⟨_, j1, j2, hB.le (by omega)⟩ (Nat.le_add_right _ _) (Nat.le_add_right _ _)
set_option maxRecDepth 100000 in
set_option maxHeartbeats 4000000 in
theorem zlc25 (l : Launch) (hl : l.stackTraces = false) (D : va_G) (cT : Nat → ClassId) (bs : Nat) (ov : Nat → Value) (xs : Nat → Int32) (Z : Nat → Prop) (hZ : ∀ q, ¬ Z q) {L : Nat} {i : Int32} {cs ss : Nat} (hcs : cs + 2 ≤ zhL.2.2.2.2.1) (hss : ss + 12 ≤ zhL.2.2.2.2.2) (hx : ∀ j : Int, 1 ≤ j → j ≤ 5 → zIx L i j) {k : Nat} (hk5 : k ≤ 513) {f1 f2 : zH} {u : Int64} (hOK : zOK k f1 f2) (hS : zNx l ((D, cT, bs, ov, L, xs, Z) : zG) i cs ss k) : zX l ((D, cT, bs, ov, L, xs, Z) : zG) false 11 zhL (zQL ((D, cT, bs, ov, L, xs, Z) : zG)) cs ss 1092 [(4, .int i), (3, .ref 142), (2, .ref 98), (1, .ref 0), (0, .retAddr 10)] [] (zW f1 f2 u) := by
  obtain ⟨A, R1, R2, hB⟩ := hOK
  obtain ⟨s1, g1⟩ := f1
  have q1 : s1 = zshC := R1.1.1.1
  subst q1
  obtain ⟨s2, g2⟩ := f2
  have q2 : s2 = zshM := R2.1.1.1
  subst q2
  refine zlaw (n := 1000) (stop := fun p => Nat.beq p 23) (S := fun cs ss pc lo st h => zX l ((D, cT, bs, ov, L, xs, Z) : zG) false 11 zhL (zQL ((D, cT, bs, ov, L, xs, Z) : zG)) cs ss pc lo st h) (fun _ _ _ _ _ _ _ h => h) ?_
  refine zdecF (hx 1 (by decide) (by decide)) (fun _ => ?_)
  refine zdecT ⟨Nat.zero_le 8, rfl, Nat.le_trans (Nat.le_add_right cs 2) hcs, Nat.le_trans (Nat.le_add_right ss 12) hss, rfl⟩ (fun _ => ?_)
  show zSem l ((D, cT, bs, ov, L, xs, Z) : zG) false 10 (zhd 150) (([.ref 0, .int (xs (i + Int32.ofInt 1).toNatClampNeg)] : List Value).map (zsft 0)) (zW (zshC, g1) (zshM, g2) u) _
  refine zcallC hZ rfl rfl (zsc25 l _ R1 (xs (i + Int32.ofInt 1).toNatClampNeg)) (fun r f hk => hk.2.1.1.1) (fun r f hf hk => ?_)
  obtain ⟨⟨a, rfl⟩, j1⟩ := hk
  obtain ⟨s3, g3⟩ := f
  have hf : s3 = zshC := hf
  subst hf
  refine zdecF (hx 1 (by decide) (by decide)) (fun _ => ?_)
  refine zdecT ⟨Nat.zero_le 8, rfl, Nat.le_trans (Nat.le_add_right cs 2) hcs, Nat.le_trans (Nat.le_add_right ss 12) hss, rfl⟩ (fun _ => ?_)
  show zSem l ((D, cT, bs, ov, L, xs, Z) : zG) false 10 (zhd 289) (([.ref 0, .int (xs (i + Int32.ofInt 1).toNatClampNeg)] : List Value).map (zsft 98)) (zW (zshC, g3) (zshM, g2) u) _
  refine zcallM hZ rfl rfl (zsm25 l _ R2 (xs (i + Int32.ofInt 1).toNatClampNeg)) (fun r f hk => hk.2.1.1.1) (fun r f hf hk => ?_)
  obtain ⟨⟨b, rfl⟩, j2⟩ := hk
  exact hS _ _ _ _ _ ⟨_, j1, j2, hB.le (by omega)⟩ (Nat.le_add_right _ _) (Nat.le_add_right _ _)
set_option maxRecDepth 100000 in
set_option maxHeartbeats 4000000 in
theorem zlc26 (l : Launch) (hl : l.stackTraces = false) (D : va_G) (cT : Nat → ClassId) (bs : Nat) (ov : Nat → Value) (xs : Nat → Int32) (Z : Nat → Prop) (hZ : ∀ q, ¬ Z q) {L : Nat} {i : Int32} {cs ss : Nat} (hcs : cs + 2 ≤ zhL.2.2.2.2.1) (hss : ss + 12 ≤ zhL.2.2.2.2.2) (hx : ∀ j : Int, 1 ≤ j → j ≤ 5 → zIx L i j) {k : Nat} (hk5 : k ≤ 513) {f1 f2 : zH} {u : Int64} (hOK : zOK k f1 f2) (hS : zNx l ((D, cT, bs, ov, L, xs, Z) : zG) i cs ss k) : zX l ((D, cT, bs, ov, L, xs, Z) : zG) false 11 zhL (zQL ((D, cT, bs, ov, L, xs, Z) : zG)) cs ss 1117 [(4, .int i), (3, .ref 142), (2, .ref 98), (1, .ref 0), (0, .retAddr 10)] [] (zW f1 f2 u) := by
  obtain ⟨A, R1, R2, hB⟩ := hOK
  obtain ⟨s1, g1⟩ := f1
  have q1 : s1 = zshC := R1.1.1.1
  subst q1
  obtain ⟨s2, g2⟩ := f2
  have q2 : s2 = zshM := R2.1.1.1
  subst q2
  obtain ⟨a, A2, hB2, hc, hm⟩ := zps26 l R1 R2 ⟨by omega, by omega⟩ hB
  refine zlaw (n := 1000) (stop := fun p => Nat.beq p 23) (S := fun cs ss pc lo st h => zX l ((D, cT, bs, ov, L, xs, Z) : zG) false 11 zhL (zQL ((D, cT, bs, ov, L, xs, Z) : zG)) cs ss pc lo st h) (fun _ _ _ _ _ _ _ h => h) ?_
  refine zdecT ⟨Nat.zero_le 8, rfl, Nat.le_trans (Nat.le_add_right cs 2) hcs, Nat.le_trans (Nat.le_add_right ss 12) hss, rfl⟩ (fun _ => ?_)
  show zSem l ((D, cT, bs, ov, L, xs, Z) : zG) false 10 (zhd 152) (([.ref 0] : List Value).map (zsft 0)) (zW (zshC, g1) (zshM, g2) u) _
  refine zcallC hZ rfl rfl (hc _) (fun r f hk => hk.2.1.1.1) (fun r f hf hk => ?_)
  obtain ⟨rfl, j1⟩ := hk
  obtain ⟨s3, g3⟩ := f
  have hf : s3 = zshC := hf
  subst hf
  refine zdecT ⟨Nat.zero_le 8, rfl, Nat.le_trans (Nat.le_add_right cs 2) hcs, Nat.le_trans (Nat.le_add_right ss 12) hss, rfl⟩ (fun _ => ?_)
  show zSem l ((D, cT, bs, ov, L, xs, Z) : zG) false 10 (zhd 290) (([.ref 0] : List Value).map (zsft 98)) (zW (zshC, g3) (zshM, g2) u) _
  refine zcallM hZ rfl rfl (hm _) (fun r f hk => hk.2.1.1.1) (fun r f hf hk => ?_)
  obtain ⟨rfl, j2⟩ := hk
  exact hS _ _ _ _ _ ⟨_, j1, j2, hB2.le (by omega)⟩ (Nat.le_add_right _ _) (Nat.le_add_right _ _)
set_option maxRecDepth 100000 in
set_option maxHeartbeats 4000000 in
theorem zlc27 (l : Launch) (hl : l.stackTraces = false) (D : va_G) (cT : Nat → ClassId) (bs : Nat) (ov : Nat → Value) (xs : Nat → Int32) (Z : Nat → Prop) (hZ : ∀ q, ¬ Z q) {L : Nat} {i : Int32} {cs ss : Nat} (hcs : cs + 2 ≤ zhL.2.2.2.2.1) (hss : ss + 12 ≤ zhL.2.2.2.2.2) (hx : ∀ j : Int, 1 ≤ j → j ≤ 5 → zIx L i j) {k : Nat} (hk5 : k ≤ 513) {f1 f2 : zH} {u : Int64} (hOK : zOK k f1 f2) (hS : zNx l ((D, cT, bs, ov, L, xs, Z) : zG) i cs ss k) : zX l ((D, cT, bs, ov, L, xs, Z) : zG) false 11 zhL (zQL ((D, cT, bs, ov, L, xs, Z) : zG)) cs ss 1130 [(4, .int i), (3, .ref 142), (2, .ref 98), (1, .ref 0), (0, .retAddr 10)] [] (zW f1 f2 u) := by
  obtain ⟨A, R1, R2, hB⟩ := hOK
  obtain ⟨s1, g1⟩ := f1
  have q1 : s1 = zshC := R1.1.1.1
  subst q1
  obtain ⟨s2, g2⟩ := f2
  have q2 : s2 = zshM := R2.1.1.1
  subst q2
  obtain ⟨a, A2, hB2, hc, hm⟩ := zps27 l R1 R2 ⟨by omega, by omega⟩ hB
  refine zlaw (n := 1000) (stop := fun p => Nat.beq p 23) (S := fun cs ss pc lo st h => zX l ((D, cT, bs, ov, L, xs, Z) : zG) false 11 zhL (zQL ((D, cT, bs, ov, L, xs, Z) : zG)) cs ss pc lo st h) (fun _ _ _ _ _ _ _ h => h) ?_
  refine zdecT ⟨Nat.zero_le 8, rfl, Nat.le_trans (Nat.le_add_right cs 2) hcs, Nat.le_trans (Nat.le_add_right ss 12) hss, rfl⟩ (fun _ => ?_)
  show zSem l ((D, cT, bs, ov, L, xs, Z) : zG) false 10 (zhd 153) (([.ref 0] : List Value).map (zsft 0)) (zW (zshC, g1) (zshM, g2) u) _
  refine zcallC hZ rfl rfl (hc _) (fun r f hk => hk.2.1.1.1) (fun r f hf hk => ?_)
  obtain ⟨rfl, j1⟩ := hk
  obtain ⟨s3, g3⟩ := f
  have hf : s3 = zshC := hf
  subst hf
  refine zdecT ⟨Nat.zero_le 8, rfl, Nat.le_trans (Nat.le_add_right cs 2) hcs, Nat.le_trans (Nat.le_add_right ss 12) hss, rfl⟩ (fun _ => ?_)
  show zSem l ((D, cT, bs, ov, L, xs, Z) : zG) false 10 (zhd 291) (([.ref 0] : List Value).map (zsft 98)) (zW (zshC, g3) (zshM, g2) u) _
  refine zcallM hZ rfl rfl (hm _) (fun r f hk => hk.2.1.1.1) (fun r f hf hk => ?_)
  obtain ⟨rfl, j2⟩ := hk
  exact hS _ _ _ _ _ ⟨_, j1, j2, hB2.le (by omega)⟩ (Nat.le_add_right _ _) (Nat.le_add_right _ _)
set_option maxRecDepth 100000 in
set_option maxHeartbeats 4000000 in
theorem zlc28 (l : Launch) (hl : l.stackTraces = false) (D : va_G) (cT : Nat → ClassId) (bs : Nat) (ov : Nat → Value) (xs : Nat → Int32) (Z : Nat → Prop) (hZ : ∀ q, ¬ Z q) {L : Nat} {i : Int32} {cs ss : Nat} (hcs : cs + 2 ≤ zhL.2.2.2.2.1) (hss : ss + 12 ≤ zhL.2.2.2.2.2) (hx : ∀ j : Int, 1 ≤ j → j ≤ 5 → zIx L i j) {k : Nat} (hk5 : k ≤ 513) {f1 f2 : zH} {u : Int64} (hOK : zOK k f1 f2) (hS : zNx l ((D, cT, bs, ov, L, xs, Z) : zG) i cs ss k) : zX l ((D, cT, bs, ov, L, xs, Z) : zG) false 11 zhL (zQL ((D, cT, bs, ov, L, xs, Z) : zG)) cs ss 1143 [(4, .int i), (3, .ref 142), (2, .ref 98), (1, .ref 0), (0, .retAddr 10)] [] (zW f1 f2 u) := by
  obtain ⟨A, R1, R2, hB⟩ := hOK
  obtain ⟨s1, g1⟩ := f1
  have q1 : s1 = zshC := R1.1.1.1
  subst q1
  obtain ⟨s2, g2⟩ := f2
  have q2 : s2 = zshM := R2.1.1.1
  subst q2
  refine zlaw (n := 1000) (stop := fun p => Nat.beq p 23) (S := fun cs ss pc lo st h => zX l ((D, cT, bs, ov, L, xs, Z) : zG) false 11 zhL (zQL ((D, cT, bs, ov, L, xs, Z) : zG)) cs ss pc lo st h) (fun _ _ _ _ _ _ _ h => h) ?_
  refine zdecF (hx 1 (by decide) (by decide)) (fun _ => ?_)
  refine zdecT ⟨Nat.zero_le 8, rfl, Nat.le_trans (Nat.le_add_right cs 2) hcs, Nat.le_trans (Nat.le_add_right ss 12) hss, rfl⟩ (fun _ => ?_)
  show zSem l ((D, cT, bs, ov, L, xs, Z) : zG) false 10 (zhd 154) (([.ref 0, .int (xs (i + Int32.ofInt 1).toNatClampNeg)] : List Value).map (zsft 0)) (zW (zshC, g1) (zshM, g2) u) _
  refine zcallC hZ rfl rfl (zsc28 l _ R1 (xs (i + Int32.ofInt 1).toNatClampNeg)) (fun r f hk => hk.2.1.1.1) (fun r f hf hk => ?_)
  obtain ⟨⟨a, rfl⟩, j1⟩ := hk
  obtain ⟨s3, g3⟩ := f
  have hf : s3 = zshC := hf
  subst hf
  refine zdecF (hx 1 (by decide) (by decide)) (fun _ => ?_)
  refine zdecT ⟨Nat.zero_le 8, rfl, Nat.le_trans (Nat.le_add_right cs 2) hcs, Nat.le_trans (Nat.le_add_right ss 12) hss, rfl⟩ (fun _ => ?_)
  show zSem l ((D, cT, bs, ov, L, xs, Z) : zG) false 10 (zhd 281) (([.ref 0, .int (xs (i + Int32.ofInt 1).toNatClampNeg)] : List Value).map (zsft 98)) (zW (zshC, g3) (zshM, g2) u) _
  refine zcallM hZ rfl rfl (zsm28 l _ R2 (xs (i + Int32.ofInt 1).toNatClampNeg)) (fun r f hk => hk.2.1.1.1) (fun r f hf hk => ?_)
  obtain ⟨⟨b, rfl⟩, j2⟩ := hk
  exact hS _ _ _ _ _ ⟨_, j1, j2, hB.le (by omega)⟩ (Nat.le_add_right _ _) (Nat.le_add_right _ _)
set_option maxRecDepth 100000 in
set_option maxHeartbeats 4000000 in
theorem zlc29 (l : Launch) (hl : l.stackTraces = false) (D : va_G) (cT : Nat → ClassId) (bs : Nat) (ov : Nat → Value) (xs : Nat → Int32) (Z : Nat → Prop) (hZ : ∀ q, ¬ Z q) {L : Nat} {i : Int32} {cs ss : Nat} (hcs : cs + 2 ≤ zhL.2.2.2.2.1) (hss : ss + 12 ≤ zhL.2.2.2.2.2) (hx : ∀ j : Int, 1 ≤ j → j ≤ 5 → zIx L i j) {k : Nat} (hk5 : k ≤ 513) {f1 f2 : zH} {u : Int64} (hOK : zOK k f1 f2) (hS : zNx l ((D, cT, bs, ov, L, xs, Z) : zG) i cs ss k) : zX l ((D, cT, bs, ov, L, xs, Z) : zG) false 11 zhL (zQL ((D, cT, bs, ov, L, xs, Z) : zG)) cs ss 1168 [(4, .int i), (3, .ref 142), (2, .ref 98), (1, .ref 0), (0, .retAddr 10)] [] (zW f1 f2 u) := by
  obtain ⟨A, R1, R2, hB⟩ := hOK
  obtain ⟨s1, g1⟩ := f1
  have q1 : s1 = zshC := R1.1.1.1
  subst q1
  obtain ⟨s2, g2⟩ := f2
  have q2 : s2 = zshM := R2.1.1.1
  subst q2
  obtain ⟨a, A2, hB2, hc, hm⟩ := zps29 l R1 R2 ⟨by omega, by omega⟩ hB (xs (i + Int32.ofInt 1).toNatClampNeg)
  refine zlaw (n := 1000) (stop := fun p => Nat.beq p 23) (S := fun cs ss pc lo st h => zX l ((D, cT, bs, ov, L, xs, Z) : zG) false 11 zhL (zQL ((D, cT, bs, ov, L, xs, Z) : zG)) cs ss pc lo st h) (fun _ _ _ _ _ _ _ h => h) ?_
  refine zdecF (hx 1 (by decide) (by decide)) (fun _ => ?_)
  refine zdecT ⟨Nat.zero_le 8, rfl, Nat.le_trans (Nat.le_add_right cs 2) hcs, Nat.le_trans (Nat.le_add_right ss 12) hss, rfl⟩ (fun _ => ?_)
  show zSem l ((D, cT, bs, ov, L, xs, Z) : zG) false 10 (zhd 155) (([.ref 0, .int (xs (i + Int32.ofInt 1).toNatClampNeg)] : List Value).map (zsft 0)) (zW (zshC, g1) (zshM, g2) u) _
  refine zcallC hZ rfl rfl (hc _) (fun r f hk => hk.2.1.1.1) (fun r f hf hk => ?_)
  obtain ⟨rfl, j1⟩ := hk
  obtain ⟨s3, g3⟩ := f
  have hf : s3 = zshC := hf
  subst hf
  refine zdecF (hx 1 (by decide) (by decide)) (fun _ => ?_)
  refine zdecT ⟨Nat.zero_le 8, rfl, Nat.le_trans (Nat.le_add_right cs 2) hcs, Nat.le_trans (Nat.le_add_right ss 12) hss, rfl⟩ (fun _ => ?_)
  show zSem l ((D, cT, bs, ov, L, xs, Z) : zG) false 10 (zhd 293) (([.ref 0, .int (xs (i + Int32.ofInt 1).toNatClampNeg)] : List Value).map (zsft 98)) (zW (zshC, g3) (zshM, g2) u) _
  refine zcallM hZ rfl rfl (hm _) (fun r f hk => hk.2.1.1.1) (fun r f hf hk => ?_)
  obtain ⟨rfl, j2⟩ := hk
  exact hS _ _ _ _ _ ⟨_, j1, j2, hB2.le (by omega)⟩ (Nat.le_add_right _ _) (Nat.le_add_right _ _)
