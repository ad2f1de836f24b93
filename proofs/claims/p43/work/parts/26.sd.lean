def swd (st : List sV) : Nat := (st.map scat).sum
abbrev sG : Type := Nat → List sV → sK → (Option sV → sK → Bool) → Bool
def slong (f : sF) : sV := .inr (.inr (.inr f))
/-- what was read from a place further on, alike by its index -/
def sgSh (k : sK) (q : Nat) (f v : sF) (S : sSg) (a b : Nat) : Bool := k.2.2.1.any (fun t => t.1 == q && (decide (t.2.2 = v) && (decide (t.2.1.1 = f.1) && (decide (f.2 ≤ t.2.1.2) && (List.range (b + 1 - a)).all (fun i => sin (sgAt S (a + i + (t.2.1.2 - f.2).toNat)) (sgAt S (a + i)))))))
def srdA (w : sW) (k : sK) (q : Nat) (f : sF) (C : sF → sK → Bool) : Bool := match sgHu (w.2.2.2.1 q) (six k f).1.toNat (six k f).2.toNat with
  | some iv => srd k q f (sirf k q f w.2.2.2.2.1 iv) C
  | none => false
/-- all of the one may lie anywhere in the other -/
def sgC (a : sSg) (n : Nat) (b : sSg) (m : Nat) : Bool := match sgHu a 0 (n - 1) with
  | some iv => sgIn b 0 (m - 1) iv
  | none => false
section SX
variable (w : sW) (md : sM) (M : zHd) (G : sG) (K : Option sV → sK → Bool) (C : Nat → sL → List sV → sK → Bool)
/-- a call -/
def scall (mi : Nat) (as rest : List sV) (pc : Nat) (l : sL) (k : sK) : Bool :=
  decide (swd rest ≤ 8) && (decide (zmc mi = 0) && (decide (zms mi = 0) && G mi as k (fun r k' => C (pc + 3) l (r.toList ++ rest) k')))
/-- one instruction -/
def sins (pc : Nat) (l : sL) (st : List sV) (k : sK) (ex : List Nat) : Instr → Bool
  | .iconst n => C (pc + 1) l (.inl (none, (Int32.ofInt n).toInt) :: st) k
  | .bipush n => C (pc + 2) l (.inl (none, (Int8.ofInt n).toInt32.toInt) :: st) k
  | .sipush n => C (pc + 3) l (.inl (none, (Int16.ofInt n).toInt32.toInt) :: st) k
  | .lconst n => C (pc + 1) l (slong (none, (Int64.ofNat (n : Nat)).toInt) :: st) k
  | .ldc _ => (match ex with
    | [v, _] => C (pc + 2) l (.inl (none, (Int32.ofNat v).toInt) :: st) k
    | _ => false)
  | .ldc_w _ => (match ex with
    | [v, _] => C (pc + 3) l (.inl (none, (Int32.ofNat v).toInt) :: st) k
    | _ => false)
  | .ldc2_w _ => (match ex with
    | [v, _] => C (pc + 3) l (slong (none, (Int64.ofNat v).toInt) :: st) k
    | _ => false)
  | .iload j => (match slget l j with
    | some (.inl f) => C (pc + 2) l (.inl f :: st) k
    | _ => false)
  | .iload_n j => (match slget l j with
    | some (.inl f) => C (pc + 1) l (.inl f :: st) k
    | _ => false)
  | .lload j => (match slget l j with
    | some (.inr (.inr (.inr f))) => C (pc + 2) l (slong f :: st) k
    | _ => false)
  | .lload_n j => (match slget l j with
    | some (.inr (.inr (.inr f))) => C (pc + 1) l (slong f :: st) k
    | _ => false)
  | .aload j => (match slget l j with
    | some (.inr (.inl q)) => C (pc + 2) l (.inr (.inl q) :: st) k
    | _ => false)
  | .aload_n j => (match slget l j with
    | some (.inr (.inl q)) => C (pc + 1) l (.inr (.inl q) :: st) k
    | _ => false)
  | .istore j => (match st with
    | .inl f :: r => if j < M.2.2.1 then C (pc + 2) (slset l j (.inl f)) r k else false
    | _ => false)
  | .istore_n j => (match st with
    | .inl f :: r => if (j : Nat) < M.2.2.1 then C (pc + 1) (slset l j (.inl f)) r k else false
    | _ => false)
  | .lstore j => (match st with
    | .inr (.inr (.inr f)) :: r => if j + 1 < M.2.2.1 then C (pc + 2) (slset2 l j (slong f)) r k else false
    | _ => false)
  | .lstore_n j => (match st with
    | .inr (.inr (.inr f)) :: r => if (j : Nat) + 1 < M.2.2.1 then C (pc + 1) (slset2 l j (slong f)) r k else false
    | _ => false)
  | .astore j => (match st with
    | .inr (.inl q) :: r => if j < M.2.2.1 then C (pc + 2) (slset l j (.inr (.inl q))) r k else false
    | _ => false)
  | .astore_n j => (match st with
    | .inr (.inl q) :: r => if (j : Nat) < M.2.2.1 then C (pc + 1) (slset l j (.inr (.inl q))) r k else false
    | _ => false)
  | .iinc j n => (match slget l j with
    | some (.inl f) => if j < M.2.2.1 then sadd sf32 k f (none, (Int32.ofInt n).toInt) (fun f' k' => C (pc + 3) (slset l j (.inl f')) st k') else false
    | _ => false)
  | .iadd => (match st with
    | .inl g :: .inl f :: r => sadd sf32 k f g (fun f' k' => C (pc + 1) l (.inl f' :: r) k')
    | _ => false)
  | .isub => (match st with
    | .inl g :: .inl f :: r => ssub sf32 k f g (fun f' k' => C (pc + 1) l (.inl f' :: r) k')
    | _ => false)
  | .imul => (match st with
    | .inl g :: .inl f :: r => smul sf32 k f g (sopd k 6 f g (fun f' k' => C (pc + 1) l (.inl f' :: r) k'))
    | _ => false)
  | .iand => (match st with
    | .inl g :: .inl f :: r => sand k f g (sopd k 2 f g (fun f' k' => C (pc + 1) l (.inl f' :: r) k'))
    | _ => false)
  | .ior => (match st with
    | .inl g :: .inl f :: r => snew k sf32 (sopd k 0 f g (fun f' k' => C (pc + 1) l (.inl f' :: r) k'))
    | _ => false)
  | .ixor => (match st with
    | .inl g :: .inl f :: r => snew k sf32 (sopd k 1 f g (fun f' k' => C (pc + 1) l (.inl f' :: r) k'))
    | _ => false)
  | .ishl => (match st with
    | .inl g :: .inl f :: r => snew k sf32 (sopd k 3 f g (fun f' k' => C (pc + 1) l (.inl f' :: r) k'))
    | _ => false)
  | .ishr => (match st with
    | .inl g :: .inl f :: r => snew k sf32 (sopd k 4 f g (fun f' k' => C (pc + 1) l (.inl f' :: r) k'))
    | _ => false)
  | .idiv => (match st with
    | .inl g :: .inl f :: r => sdiv sf32 k f g (sopd k 7 f g (fun f' k' => C (pc + 1) l (.inl f' :: r) k'))
    | _ => false)
  | .irem => (match st with
    | .inl g :: .inl f :: r => srem sf32 k f g (sopd k 8 f g (fun f' k' => C (pc + 1) l (.inl f' :: r) k'))
    | _ => false)
  | .ineg => (match st with
    | .inl f :: r => ssub sf32 k (none, 0) f (fun f' k' => C (pc + 1) l (.inl f' :: r) k')
    | _ => false)
  | .ladd => (match st with
    | .inr (.inr (.inr g)) :: .inr (.inr (.inr f)) :: r => sadd sf64 k f g (sopd k 19 f g (fun f' k' => C (pc + 1) l (slong f' :: r) k'))
    | _ => false)
  | .lsub => (match st with
    | .inr (.inr (.inr g)) :: .inr (.inr (.inr f)) :: r => ssub sf64 k f g (sopd k 20 f g (fun f' k' => C (pc + 1) l (slong f' :: r) k'))
    | _ => false)
  | .lmul => (match st with
    | .inr (.inr (.inr g)) :: .inr (.inr (.inr f)) :: r => smul sf64 k f g (sopd k 16 f g (fun f' k' => C (pc + 1) l (slong f' :: r) k'))
    | _ => false)
  | .land => (match st with
    | .inr (.inr (.inr g)) :: .inr (.inr (.inr f)) :: r => snew k sf64 (sopd k 12 f g (fun f' k' => C (pc + 1) l (slong f' :: r) k'))
    | _ => false)
  | .ldiv => (match st with
    | .inr (.inr (.inr g)) :: .inr (.inr (.inr f)) :: r => sdiv sf64 k f g (sopd k 17 f g (fun f' k' => C (pc + 1) l (slong f' :: r) k'))
    | _ => false)
  | .lrem => (match st with
    | .inr (.inr (.inr g)) :: .inr (.inr (.inr f)) :: r => srem sf64 k f g (sopd k 18 f g (fun f' k' => C (pc + 1) l (slong f' :: r) k'))
    | _ => false)
  | .lneg => (match st with
    | .inr (.inr (.inr f)) :: r => sifE k f (none, -9223372036854775808) (C (pc + 1) l (slong (none, -9223372036854775808) :: r)) (fun k => ssub sf64 k (none, 0) f (sopd k 20 (none, 0) f (fun f' k' => C (pc + 1) l (slong f' :: r) k')))
    | _ => false)
  | .iushr => (match st with
    | .inl g :: .inl f :: r => snew k sf32 (sopd k 5 f g (fun f' k' => C (pc + 1) l (.inl f' :: r) k'))
    | _ => false)
  | .i2l => (match st with
    | .inl f :: r => C (pc + 1) l (slong f :: r) k
    | _ => false)
  | .l2i => (match st with
    | .inr (.inr (.inr f)) :: r => if sin (siv k f) sf32 = true then C (pc + 1) l (.inl f :: r) k else snew k sf32 (sopd k 11 f (none, 0) (fun f' k' => C (pc + 1) l (.inl f' :: r) k'))
    | _ => false)
  | .i2b => (match st with
    | .inl f :: r => snew k (-128, 127) (sopd k 10 f (none, 0) (fun f' k' => C (pc + 1) l (.inl f' :: r) k'))
    | _ => false)
  | .dup => (match st with
    | v :: r => if scat v = 1 then C (pc + 1) l (v :: v :: r) k else false
    | _ => false)
  | .pop => (match st with
    | v :: r => if scat v = 1 then C (pc + 1) l r k else false
    | _ => false)
  | .dup2 => (match st with
    | v :: u :: r => if scat v = 1 then (if scat u = 1 then C (pc + 1) l (v :: u :: v :: u :: r) k else false) else false
    | _ => false)
  | .ifCond .eq _ => (match ex, st with
    | [t], .inl f :: r => sifE k f (none, 0) (C t l r) (C (pc + 3) l r)
    | _, _ => false)
  | .ifCond .ne _ => (match ex, st with
    | [t], .inl f :: r => sifE k f (none, 0) (C (pc + 3) l r) (C t l r)
    | _, _ => false)
  | .ifCond .lt _ => (match ex, st with
    | [t], .inl f :: r => sifL k f (none, 0) (C t l r) (C (pc + 3) l r)
    | _, _ => false)
  | .ifCond .ge _ => (match ex, st with
    | [t], .inl f :: r => sifM k (none, 0) f (C t l r) (C (pc + 3) l r)
    | _, _ => false)
  | .ifCond .gt _ => (match ex, st with
    | [t], .inl f :: r => sifL k (none, 0) f (C t l r) (C (pc + 3) l r)
    | _, _ => false)
  | .ifCond .le _ => (match ex, st with
    | [t], .inl f :: r => sifM k f (none, 0) (C t l r) (C (pc + 3) l r)
    | _, _ => false)
  | .if_icmp .eq _ => (match ex, st with
    | [t], .inl g :: .inl f :: r => sifE k f g (C t l r) (C (pc + 3) l r)
    | _, _ => false)
  | .if_icmp .ne _ => (match ex, st with
    | [t], .inl g :: .inl f :: r => sifE k f g (C (pc + 3) l r) (C t l r)
    | _, _ => false)
  | .if_icmp .lt _ => (match ex, st with
    | [t], .inl g :: .inl f :: r => sifL k f g (C t l r) (C (pc + 3) l r)
    | _, _ => false)
  | .if_icmp .ge _ => (match ex, st with
    | [t], .inl g :: .inl f :: r => sifM k g f (C t l r) (C (pc + 3) l r)
    | _, _ => false)
  | .if_icmp .gt _ => (match ex, st with
    | [t], .inl g :: .inl f :: r => sifL k g f (C t l r) (C (pc + 3) l r)
    | _, _ => false)
  | .if_icmp .le _ => (match ex, st with
    | [t], .inl g :: .inl f :: r => sifM k f g (C t l r) (C (pc + 3) l r)
    | _, _ => false)
  | .goto _ => (match ex with
    | [t] => C t l st k
    | _ => false)
  | .tableswitch .. => (match ex, st with
    | d :: r, .inl f :: st' => ssw k f (fun t k' => C t l st' k') d r
    | _, _ => false)
  | .lookupswitch .. => (match ex, st with
    | d :: r, .inl f :: st' => ssw k f (fun t k' => C t l st' k') d r
    | _, _ => false)
  | .getfield _ => (match ex, st with
    | [ci, kk, _, _], .inr (.inl q) :: r => if w.1[q]? = some (0, ci) then (match zkind ci kk with
      | 1 => srdL k q (none, (kk : Int)) (fun f k' => C (pc + 3) l (slong f :: r) k')
      | 2 => sgr k q kk (w.2.1 q kk) (fun q' k' => C (pc + 3) l (.inr (.inl q') :: r) k')
      | _ => sgf w k q kk (fun f k' => C (pc + 3) l (.inl f :: r) k')) else false
    | _, _ => false)
  | .putfield _ => (match ex, st with
    | [ci, kk, _, _], v :: .inr (.inl q) :: r => if w.1[q]? = some (0, ci) ∧ smem md q kk = true ∧ sfree w q 0 = true then (match zkind ci kk, v with
      | 0, .inl f => if sin (siv k f) (w.2.2.1 q kk) = true then C (pc + 3) l r (swr k q (none, (kk : Int)) f) else false
      | 1, .inr (.inr (.inr b)) => C (pc + 3) l r (swl k q (none, (kk : Int)) b)
      | 2, .inr (.inl r9) => if r9 ∈ w.2.1 q kk then C (pc + 3) l r (swp k q kk r9) else false
      | 3, .inl f => if sin (siv k f) (0, 1) = true ∧ sin (siv k f) (w.2.2.1 q kk) = true then C (pc + 3) l r (swr k q (none, (kk : Int)) f) else false
      | _, _ => false) else false
    | _, _ => false)
  | .iaload => (match st with
    | .inl f :: .inr (.inl q) :: r => (match w.1[q]? with
      | some (1, n) => if 0 ≤ (six k f).1 ∧ (six k f).2 < (n : Int) then srdA w k q f (fun f' k' => C (pc + 1) l (.inl f' :: r) k') else false
      | _ => false)
    | _ => false)
  | .laload => (match st with
    | .inl f :: .inr (.inl q) :: r => (match w.1[q]? with
      | some (4, n) => if 0 ≤ (six k f).1 ∧ (six k f).2 < (n : Int) then srdL k q f (fun f' k' => C (pc + 1) l (slong f' :: r) k') else false
      | _ => false)
    | _ => false)
  | .baload => (match st with
    | .inl f :: .inr (.inl q) :: r => (match w.1[q]? with
      | some (2, n) => if 0 ≤ (six k f).1 ∧ (six k f).2 < (n : Int) then srdA w k q f (fun f' k' => C (pc + 1) l (.inl f' :: r) k') else false
      | some (3, n) => if 0 ≤ (six k f).1 ∧ (six k f).2 < (n : Int) then srdA w k q f (fun f' k' => C (pc + 1) l (.inl f' :: r) k') else false
      | _ => false)
    | _ => false)
  | .iastore => (match st with
    | .inl v :: .inl f :: .inr (.inl q) :: r => (match w.1[q]? with
      | some (1, n) => if 0 ≤ (six k f).1 ∧ (six k f).2 < (n : Int) ∧ smemR md q (six k f).1.toNat (six k f).2.toNat = true ∧ sfree w q (six k f).1.toNat = true ∧ (sgIn (w.2.2.2.1 q) (six k f).1.toNat (six k f).2.toNat (siv k v) || sgSh k q f v (w.2.2.2.1 q) (six k f).1.toNat (six k f).2.toNat) = true then C (pc + 1) l r (swr k q f v) else false
      | _ => false)
    | _ => false)
  | .lastore => (match st with
    | .inr (.inr (.inr b)) :: .inl f :: .inr (.inl q) :: r => (match w.1[q]? with
      | some (4, n) => if 0 ≤ (six k f).1 ∧ (six k f).2 < (n : Int) ∧ smemR md q (six k f).1.toNat (six k f).2.toNat = true then C (pc + 1) l r (swl k q f b) else false
      | _ => false)
    | _ => false)
  | .bastore => (match st with
    | .inl v :: .inl f :: .inr (.inl q) :: r => (match w.1[q]? with
      | some (2, n) => if 0 ≤ (six k f).1 ∧ (six k f).2 < (n : Int) ∧ smemR md q (six k f).1.toNat (six k f).2.toNat = true ∧ sfree w q (six k f).1.toNat = true ∧ sgIn (w.2.2.2.1 q) (six k f).1.toNat (six k f).2.toNat (-128, 127) = true then C (pc + 1) l r (sdr k q) else false
      | some (3, n) => if 0 ≤ (six k f).1 ∧ (six k f).2 < (n : Int) ∧ smemR md q (six k f).1.toNat (six k f).2.toNat = true ∧ sfree w q (six k f).1.toNat = true ∧ sgIn (w.2.2.2.1 q) (six k f).1.toNat (six k f).2.toNat (0, 1) = true ∧ sin (siv k v) (0, 1) = true then C (pc + 1) l r (swr k q f v) else false
      | _ => false)
    | _ => false)
  | .arraylength => (match st with
    | .inr (.inl q) :: r => (match w.1[q]? with
      | some (1, n) => C (pc + 1) l (.inl (none, (Int32.ofNat n).toInt) :: r) k
      | some (2, n) => C (pc + 1) l (.inl (none, (Int32.ofNat n).toInt) :: r) k
      | some (3, n) => C (pc + 1) l (.inl (none, (Int32.ofNat n).toInt) :: r) k
      | _ => false)
    | _ => false)
  | .invokevirtual _ => (match ex with
    | [mi, n, ci, _, _] => (match st.drop n with
      | .inr (.inl q) :: rest => if w.1[q]? = some (0, ci) ∧ (st.take n).length = n then scall G C mi (.inr (.inl q) :: (st.take n).reverse) rest pc l k else false
      | _ => false)
    | _ => false)
  | .invokespecial _ => (match ex with
    | [mi, n, _, _] => (match st.drop n with
      | .inr (.inl q) :: rest => if (st.take n).length = n then scall G C mi (.inr (.inl q) :: (st.take n).reverse) rest pc l k else false
      | _ => false)
    | _ => false)
  | .invokestatic _ => (match ex with
    | [mi, n, _, _, _] => if (st.take n).length = n then scall G C mi (st.take n).reverse (st.drop n) pc l k else false
    | [kk, _, _, _, _, _] => (match st with
      | .inl g :: .inl f :: rest => if swd rest ≤ 8 then (if kk = 0 then sifL k f g (C (pc + 3) l (.inl g :: rest)) (C (pc + 3) l (.inl f :: rest)) else sifL k g f (C (pc + 3) l (.inl g :: rest)) (C (pc + 3) l (.inl f :: rest))) else false
      | _ => false)
    | [_, _, _, _] => (match st with
      | .inl fn :: .inl fd :: .inr (.inl q1) :: .inl fs :: .inr (.inl q0) :: rest => (match w.1[q0]?, w.1[q1]? with
        | some (1, n0), some (1, n1) => if swd rest ≤ 8 ∧ 0 ≤ (siv k fs).1 ∧ 0 ≤ (siv k fd).1 ∧ 0 ≤ (siv k fn).1 ∧ (siv k fs).2 + (siv k fn).2 ≤ (n0 : Int) ∧ (siv k fd).2 + (siv k fn).2 ≤ (n1 : Int) ∧ smemR md q1 0 (n1 - 1) = true ∧ sfree w q1 0 = true ∧ sgC (w.2.2.2.1 q0) n0 (w.2.2.2.1 q1) n1 = true then C (pc + 3) l rest (sdr k q1) else false
        | _, _ => false)
      | _ => false)
    | _ => false)
  | .ireturn => (match st with
    | [.inl f] => (match M.2.2.2.1 with
      | some .int => K (some (.inl f)) k
      | some .boolean => if sin (siv k f) (0, 1) = true then K (some (.inl f)) k else false
      | _ => false)
    | _ => false)
  | .lreturn => (match st with
    | [.inr (.inr (.inr f))] => if M.2.2.2.1 = some .long then K (some (slong f)) k else false
    | _ => false)
  | .return_ => (match st with
    | [] => if M.2.2.2.1 = none then K none k else false
    | _ => false)
  | _ => false
end SX
