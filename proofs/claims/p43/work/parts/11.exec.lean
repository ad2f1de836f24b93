/-! An executor of bytecode over a world of numbered cells: cell q of the world lies at bs + q: .ref q. Things from outside (String constants, statics, the script) are .retAddr j. -/
abbrev zHI : Type := Nat → Nat → Int32
abbrev zHL : Type := Nat → Nat → Int64
abbrev zHP : Type := Nat → Nat → Option Nat
/-- (0, class): an object; (1, n) int[n]; (2, n) byte[n]; (3, n) boolean[n]; (4, n) long[n] -/
abbrev zSh : Type := Nat × Nat
/-- shapes, ints (and booleans, bytes), longs, references -/
abbrev zH : Type := List zSh × zHI × zHL × zHP
abbrev zL : Type := List (Nat × Value)
def zu2 {α : Type} (f : Nat → Nat → α) (k j : Nat) (v : α) : Nat → Nat → α := fun a b => if a = k then (if b = j then v else f a b) else f a b
def zur {α : Type} (f : Nat → Nat → α) (k : Nat) (g : Nat → α) : Nat → Nat → α := fun a b => if a = k then g b else f a b
def zget : zL → Nat → Option Value
  | [], _ => none
  | q :: r, i => if q.1 = i then some q.2 else zget r i
def zset (l : zL) (i : Nat) (v : Value) : zL := (i, v) :: l.filter (fun q => !(q.1 == i) && !(q.1 + 1 == i && q.2.category == 2))
def zset2 (l : zL) (i : Nat) (v : Value) : zL := (i, v) :: l.filter (fun q => !(q.1 == i) && (!(q.1 == i + 1) && !(q.1 + 1 == i && q.2.category == 2)))
def zsI (h : zH) (q k : Nat) (v : Int32) : zH := (h.1, zu2 h.2.1 q k v, h.2.2)
def zsL (h : zH) (q k : Nat) (v : Int64) : zH := (h.1, h.2.1, zu2 h.2.2.1 q k v, h.2.2.2)
def zsP (h : zH) (q k : Nat) (v : Option Nat) : zH := (h.1, h.2.1, h.2.2.1, zu2 h.2.2.2 q k v)
/-- a new cell, all zero -/
def znew (h : zH) (s : zSh) : zH := (h.1 ++ [s], zur h.2.1 h.1.length (fun _ => 0), zur h.2.2.1 h.1.length (fun _ => 0), zur h.2.2.2 h.1.length (fun _ => none))
def zcp (h : zH) (q0 q1 sp dp n : Nat) : zH := (h.1, zur h.2.1 q1 (va_cpy (h.2.1 q0) (h.2.1 q1) sp dp n), h.2.2)
/-- what fields of things from outside hold -/
def zof (q fk : Nat) : Option Value := if q = 0 then (if fk = 0 then some (.retAddr 1) else some (.int 0)) else none
/-- the bytes of the String constant that Tokens reads -/
def zwords : List Int32 := ("man   glass turn  pay   sieve damp  seed  law   flow  tax   wind  above below neck  coarsewet   paid  minutenot   and   or    ".toList).map (fun c => Int32.ofNat c.toNat)
def zst (sk : Nat) : Value := if sk = 0 then .int 1 else .retAddr 9
def zwd (st : List Value) : Nat := (st.map fun v => v.category).sum
section ZX
variable {ρ : Type} (bad : ρ)
def zsw (C : Nat → ρ) (x : Int32) (d : Nat) : List Nat → ρ
  | v :: t :: r => if x = Int32.ofNat v then C t else zsw C x d r
  | _ => C d
def zgetf (h : zH) (ci k q : Nat) (C : Value → ρ) : ρ :=
  match h.1[q]? with
  | some (0, c') => if c' = ci then (match zkind ci k with
      | 1 => C (.long (h.2.2.1 q k))
      | 2 => (match h.2.2.2 q k with
        | none => C .null
        | some r => C (.ref r))
      | _ => C (.int (h.2.1 q k))) else bad
  | _ => bad
def zputf (h : zH) (ci k q : Nat) (v : Value) (C : zH → ρ) : ρ :=
  match h.1[q]? with
  | some (0, c') => if c' = ci then (match zkind ci k, v with
      | 0, .int x => C (zsI h q k x)
      | 1, .long x => C (zsL h q k x)
      | 2, .null => C (zsP h q k none)
      | 2, .ref r => C (zsP h q k (some r))
      | 3, .int x => if x = 0 ∨ x = 1 then C (zsI h q k x) else bad
      | _, _ => bad) else bad
  | _ => bad
/-- one instruction: G a call, K the return, C what goes on (cells, slots, pc, locals, stack, world) -/
def zins (M : zHd) (al : Bool) (sc : Option (Nat × (Nat → Int32))) (G : Nat → List Value → zH → (Option Value → zH → ρ) → ρ) (K : Option Value → zH → ρ) (C : Nat → Nat → Nat → zL → List Value → zH → ρ) (cs ss pc : Nat) (l : zL) (st : List Value) (h : zH) (ex : List Nat) (i : Instr) : ρ :=
  match i with
  | .iconst n => C cs ss (pc + 1) l (.int (Int32.ofInt n) :: st) h
  | .bipush n => C cs ss (pc + 2) l (.int (Int8.ofInt n).toInt32 :: st) h
  | .sipush n => C cs ss (pc + 3) l (.int (Int16.ofInt n).toInt32 :: st) h
  | .lconst n => C cs ss (pc + 1) l (.long (Int64.ofNat (n : Nat)) :: st) h
  | .ldc _ => (match ex with
    | [v, _] => C cs ss (pc + 2) l (.int (Int32.ofNat v) :: st) h
    | [_] => C cs ss (pc + 2) l (.retAddr 0 :: st) h
    | _ => bad)
  | .ldc_w _ => (match ex with
    | [v, _] => C cs ss (pc + 3) l (.int (Int32.ofNat v) :: st) h
    | _ => bad)
  | .ldc2_w _ => (match ex with
    | [v, _] => C cs ss (pc + 3) l (.long (Int64.ofNat v) :: st) h
    | _ => bad)
  | .iload j => (match zget l j with
    | some (.int x) => C cs ss (pc + 2) l (.int x :: st) h
    | _ => bad)
  | .iload_n j => (match zget l j with
    | some (.int x) => C cs ss (pc + 1) l (.int x :: st) h
    | _ => bad)
  | .lload j => (match zget l j with
    | some (.long x) => C cs ss (pc + 2) l (.long x :: st) h
    | _ => bad)
  | .lload_n j => (match zget l j with
    | some (.long x) => C cs ss (pc + 1) l (.long x :: st) h
    | _ => bad)
  | .aload j => (match zget l j with
    | some (.ref x) => C cs ss (pc + 2) l (.ref x :: st) h
    | some (.retAddr x) => C cs ss (pc + 2) l (.retAddr x :: st) h
    | _ => bad)
  | .aload_n j => (match zget l j with
    | some (.ref x) => C cs ss (pc + 1) l (.ref x :: st) h
    | some (.retAddr x) => C cs ss (pc + 1) l (.retAddr x :: st) h
    | _ => bad)
  | .istore j => (match st with
    | .int x :: st' => if j < M.2.2.1 then C cs ss (pc + 2) (zset l j (.int x)) st' h else bad
    | _ => bad)
  | .istore_n j => (match st with
    | .int x :: st' => if (j : Nat) < M.2.2.1 then C cs ss (pc + 1) (zset l j (.int x)) st' h else bad
    | _ => bad)
  | .lstore j => (match st with
    | .long x :: st' => if j + 1 < M.2.2.1 then C cs ss (pc + 2) (zset2 l j (.long x)) st' h else bad
    | _ => bad)
  | .lstore_n j => (match st with
    | .long x :: st' => if (j : Nat) + 1 < M.2.2.1 then C cs ss (pc + 1) (zset2 l j (.long x)) st' h else bad
    | _ => bad)
  | .astore j => (match st with
    | .ref x :: st' => if j < M.2.2.1 then C cs ss (pc + 2) (zset l j (.ref x)) st' h else bad
    | .retAddr x :: st' => if j < M.2.2.1 then C cs ss (pc + 2) (zset l j (.retAddr x)) st' h else bad
    | _ => bad)
  | .astore_n j => (match st with
    | .ref x :: st' => if (j : Nat) < M.2.2.1 then C cs ss (pc + 1) (zset l j (.ref x)) st' h else bad
    | .retAddr x :: st' => if (j : Nat) < M.2.2.1 then C cs ss (pc + 1) (zset l j (.retAddr x)) st' h else bad
    | _ => bad)
  | .iinc j n => (match zget l j with
    | some (.int x) => if j < M.2.2.1 then C cs ss (pc + 3) (zset l j (.int (x + Int32.ofInt n))) st h else bad
    | _ => bad)
  | .iadd => (match st with
    | .int y :: .int x :: st' => C cs ss (pc + 1) l (.int (x + y) :: st') h
    | _ => bad)
  | .isub => (match st with
    | .int y :: .int x :: st' => C cs ss (pc + 1) l (.int (x - y) :: st') h
    | _ => bad)
  | .imul => (match st with
    | .int y :: .int x :: st' => C cs ss (pc + 1) l (.int (x * y) :: st') h
    | _ => bad)
  | .iand => (match st with
    | .int y :: .int x :: st' => C cs ss (pc + 1) l (.int (x &&& y) :: st') h
    | _ => bad)
  | .ior => (match st with
    | .int y :: .int x :: st' => C cs ss (pc + 1) l (.int (x ||| y) :: st') h
    | _ => bad)
  | .ixor => (match st with
    | .int y :: .int x :: st' => C cs ss (pc + 1) l (.int (x ^^^ y) :: st') h
    | _ => bad)
  | .idiv => (match st with
    | .int y :: .int x :: st' => if y = 0 then bad else C cs ss (pc + 1) l (.int (x / y) :: st') h
    | _ => bad)
  | .irem => (match st with
    | .int y :: .int x :: st' => if y = 0 then bad else C cs ss (pc + 1) l (.int (x - x / y * y) :: st') h
    | _ => bad)
  | .ineg => (match st with
    | .int x :: st' => C cs ss (pc + 1) l (.int (-x) :: st') h
    | _ => bad)
  | .ishl => (match st with
    | .int y :: .int x :: st' => C cs ss (pc + 1) l (.int (x <<< (y &&& 31)) :: st') h
    | _ => bad)
  | .ishr => (match st with
    | .int y :: .int x :: st' => C cs ss (pc + 1) l (.int (x >>> (y &&& 31)) :: st') h
    | _ => bad)
  | .iushr => (match st with
    | .int y :: .int x :: st' => C cs ss (pc + 1) l (.int (x.toUInt32 >>> (y.toUInt32 &&& Int32.toUInt32 31)).toInt32 :: st') h
    | _ => bad)
  | .ladd => (match st with
    | .long y :: .long x :: st' => C cs ss (pc + 1) l (.long (x + y) :: st') h
    | _ => bad)
  | .lsub => (match st with
    | .long y :: .long x :: st' => C cs ss (pc + 1) l (.long (x - y) :: st') h
    | _ => bad)
  | .lmul => (match st with
    | .long y :: .long x :: st' => C cs ss (pc + 1) l (.long (x * y) :: st') h
    | _ => bad)
  | .land => (match st with
    | .long y :: .long x :: st' => C cs ss (pc + 1) l (.long (x &&& y) :: st') h
    | _ => bad)
  | .ldiv => (match st with
    | .long y :: .long x :: st' => if y = 0 then bad else C cs ss (pc + 1) l (.long (x / y) :: st') h
    | _ => bad)
  | .lrem => (match st with
    | .long y :: .long x :: st' => if y = 0 then bad else C cs ss (pc + 1) l (.long (x - x / y * y) :: st') h
    | _ => bad)
  | .lneg => (match st with
    | .long x :: st' => C cs ss (pc + 1) l (.long (-x) :: st') h
    | _ => bad)
  | .lcmp => (match st with
    | .long y :: .long x :: st' => C cs ss (pc + 1) l (.int (lg_cmp x y) :: st') h
    | _ => bad)
  | .i2l => (match st with
    | .int x :: st' => C cs ss (pc + 1) l (.long x.toInt64 :: st') h
    | _ => bad)
  | .l2i => (match st with
    | .long x :: st' => C cs ss (pc + 1) l (.int x.toInt32 :: st') h
    | _ => bad)
  | .i2b => (match st with
    | .int x :: st' => C cs ss (pc + 1) l (.int x.toInt8.toInt32 :: st') h
    | _ => bad)
  | .i2c => (match st with
    | .int x :: st' => C cs ss (pc + 1) l (.int (x.toUInt32 % 65536).toInt32 :: st') h
    | _ => bad)
  | .dup => (match st with
    | v :: st' => if v.category = 1 then C cs ss (pc + 1) l (v :: v :: st') h else bad
    | _ => bad)
  | .pop => (match st with
    | v :: st' => if v.category = 1 then C cs ss (pc + 1) l st' h else bad
    | _ => bad)
  | .pop2 => (match st with
    | v :: st' => if v.category = 2 then C cs ss (pc + 1) l st' h else bad
    | _ => bad)
  | .dup2 => (match st with
    | v :: w :: st' => if v.category = 1 then (if w.category = 1 then C cs ss (pc + 1) l (v :: w :: v :: w :: st') h else bad) else bad
    | _ => bad)
  | .ifCond .eq _ => (match ex, st with
    | [t], .int x :: st' => if x = 0 then C cs ss t l st' h else C cs ss (pc + 3) l st' h
    | _, _ => bad)
  | .ifCond .ne _ => (match ex, st with
    | [t], .int x :: st' => if x = 0 then C cs ss (pc + 3) l st' h else C cs ss t l st' h
    | _, _ => bad)
  | .ifCond .lt _ => (match ex, st with
    | [t], .int x :: st' => if x < 0 then C cs ss t l st' h else C cs ss (pc + 3) l st' h
    | _, _ => bad)
  | .ifCond .ge _ => (match ex, st with
    | [t], .int x :: st' => if 0 ≤ x then C cs ss t l st' h else C cs ss (pc + 3) l st' h
    | _, _ => bad)
  | .ifCond .gt _ => (match ex, st with
    | [t], .int x :: st' => if 0 < x then C cs ss t l st' h else C cs ss (pc + 3) l st' h
    | _, _ => bad)
  | .ifCond .le _ => (match ex, st with
    | [t], .int x :: st' => if x ≤ 0 then C cs ss t l st' h else C cs ss (pc + 3) l st' h
    | _, _ => bad)
  | .if_icmp .eq _ => (match ex, st with
    | [t], .int y :: .int x :: st' => if x = y then C cs ss t l st' h else C cs ss (pc + 3) l st' h
    | _, _ => bad)
  | .if_icmp .ne _ => (match ex, st with
    | [t], .int y :: .int x :: st' => if x = y then C cs ss (pc + 3) l st' h else C cs ss t l st' h
    | _, _ => bad)
  | .if_icmp .lt _ => (match ex, st with
    | [t], .int y :: .int x :: st' => if x < y then C cs ss t l st' h else C cs ss (pc + 3) l st' h
    | _, _ => bad)
  | .if_icmp .ge _ => (match ex, st with
    | [t], .int y :: .int x :: st' => if y ≤ x then C cs ss t l st' h else C cs ss (pc + 3) l st' h
    | _, _ => bad)
  | .if_icmp .gt _ => (match ex, st with
    | [t], .int y :: .int x :: st' => if y < x then C cs ss t l st' h else C cs ss (pc + 3) l st' h
    | _, _ => bad)
  | .if_icmp .le _ => (match ex, st with
    | [t], .int y :: .int x :: st' => if x ≤ y then C cs ss t l st' h else C cs ss (pc + 3) l st' h
    | _, _ => bad)
  | .goto _ => (match ex with
    | [t] => C cs ss t l st h
    | _ => bad)
  | .tableswitch .. => (match ex, st with
    | d :: r, .int x :: st' => zsw (fun t => C cs ss t l st' h) x d r
    | _, _ => bad)
  | .lookupswitch .. => (match ex, st with
    | d :: r, .int x :: st' => zsw (fun t => C cs ss t l st' h) x d r
    | _, _ => bad)
  | .getfield _ => (match ex, st with
    | [ci, k, _, _], .ref q :: st' => zgetf bad h ci k q (fun v => C cs ss (pc + 3) l (v :: st') h)
    | [fk], .retAddr q :: st' => (match zof q fk with
      | some v => C cs ss (pc + 3) l (v :: st') h
      | none => bad)
    | _, _ => bad)
  | .putfield _ => (match ex, st with
    | [ci, k, _, _], v :: .ref q :: st' => zputf bad h ci k q v (fun h' => C cs ss (pc + 3) l st' h')
    | _, _ => bad)
  | .getstatic _ => (match ex with
    | [sk, _] => C cs ss (pc + 3) l (zst sk :: st) h
    | _ => bad)
  | .iaload => (match st with
    | .int j :: .ref q :: st' => (match h.1[q]? with
      | some (1, n) => if j < 0 ∨ n ≤ j.toNatClampNeg then bad else C cs ss (pc + 1) l (.int (h.2.1 q j.toNatClampNeg) :: st') h
      | _ => bad)
    | .int j :: .retAddr q :: st' => if q = 10 then (match sc with
        | some x => if j < 0 ∨ x.1 ≤ j.toNatClampNeg then bad else C cs ss (pc + 1) l (.int (x.2 j.toNatClampNeg) :: st') h
        | none => bad) else bad
    | _ => bad)
  | .laload => (match st with
    | .int j :: .ref q :: st' => (match h.1[q]? with
      | some (4, n) => if j < 0 ∨ n ≤ j.toNatClampNeg then bad else C cs ss (pc + 1) l (.long (h.2.2.1 q j.toNatClampNeg) :: st') h
      | _ => bad)
    | _ => bad)
  | .baload => (match st with
    | .int j :: .ref q :: st' => (match h.1[q]? with
      | some (2, n) => if j < 0 ∨ n ≤ j.toNatClampNeg then bad else C cs ss (pc + 1) l (.int (h.2.1 q j.toNatClampNeg) :: st') h
      | some (3, n) => if j < 0 ∨ n ≤ j.toNatClampNeg then bad else C cs ss (pc + 1) l (.int (h.2.1 q j.toNatClampNeg) :: st') h
      | _ => bad)
    | .int j :: .retAddr q :: st' => if q = 1 then (if j < 0 ∨ 126 ≤ j.toNatClampNeg then bad else C cs ss (pc + 1) l (.int (zwords.getD j.toNatClampNeg 0) :: st') h) else bad
    | _ => bad)
  | .iastore => (match st with
    | .int x :: .int j :: .ref q :: st' => (match h.1[q]? with
      | some (1, n) => if j < 0 ∨ n ≤ j.toNatClampNeg then bad else C cs ss (pc + 1) l st' (zsI h q j.toNatClampNeg x)
      | _ => bad)
    | _ => bad)
  | .lastore => (match st with
    | .long x :: .int j :: .ref q :: st' => (match h.1[q]? with
      | some (4, n) => if j < 0 ∨ n ≤ j.toNatClampNeg then bad else C cs ss (pc + 1) l st' (zsL h q j.toNatClampNeg x)
      | _ => bad)
    | _ => bad)
  | .bastore => (match st with
    | .int x :: .int j :: .ref q :: st' => (match h.1[q]? with
      | some (2, n) => if j < 0 ∨ n ≤ j.toNatClampNeg then bad else C cs ss (pc + 1) l st' (zsI h q j.toNatClampNeg x.toInt8.toInt32)
      | some (3, n) => if j < 0 ∨ n ≤ j.toNatClampNeg then bad else C cs ss (pc + 1) l st' (zsI h q j.toNatClampNeg (x &&& 1))
      | _ => bad)
    | _ => bad)
  | .arraylength => (match st with
    | .ref q :: st' => (match h.1[q]? with
      | some (0, _) => bad
      | some (1, n) => C cs ss (pc + 1) l (.int (Int32.ofNat n) :: st') h
      | some (2, n) => C cs ss (pc + 1) l (.int (Int32.ofNat n) :: st') h
      | some (3, n) => C cs ss (pc + 1) l (.int (Int32.ofNat n) :: st') h
      | some (4, n) => C cs ss (pc + 1) l (.int (Int32.ofNat n) :: st') h
      | _ => bad)
    | .retAddr q :: st' => if q = 1 then C cs ss (pc + 1) l (.int 126 :: st') h else if q = 10 then (match sc with
        | some x => C cs ss (pc + 1) l (.int (Int32.ofNat x.1) :: st') h
        | none => bad) else bad
    | _ => bad)
  | .new _ => (match ex with
    | [ci, n, _, _, _] => if al = true ∧ cs + 1 ≤ M.2.2.2.2.1 ∧ ss + n ≤ M.2.2.2.2.2 then C (cs + 1) (ss + n) (pc + 3) l (.ref h.1.length :: st) (znew h (0, ci)) else bad
    | _ => bad)
  | .newarray _ => (match ex, st with
    | [t, _], .int n :: st' => if al = true ∧ ¬ n < 0 ∧ n.toNatClampNeg ≤ 100000 ∧ cs + 1 ≤ M.2.2.2.2.1 ∧ ss + n.toNatClampNeg ≤ M.2.2.2.2.2 then C (cs + 1) (ss + n.toNatClampNeg) (pc + 2) l (.ref h.1.length :: st') (znew h (t, n.toNatClampNeg)) else bad
    | _, _ => bad)
  | .invokevirtual _ => (match ex with
    | [mi, n, ci, _, _] => (match st.drop n with
      | .ref q :: rest => if zwd rest ≤ 8 ∧ (st.take n).length = n ∧ cs + zmc mi ≤ M.2.2.2.2.1 ∧ ss + zms mi ≤ M.2.2.2.2.2 ∧ h.1[q]? = some (0, ci) then G mi (.ref q :: (st.take n).reverse) h (fun r h' => C (cs + zmc mi) (ss + zms mi) (pc + 3) l (r.toList ++ rest) h') else bad
      | .retAddr q :: rest => if zwd rest ≤ 8 ∧ (st.take n).length = n ∧ cs + zmc mi ≤ M.2.2.2.2.1 ∧ ss + zms mi ≤ M.2.2.2.2.2 ∧ q = 0 ∧ ci = 999 then G mi (.retAddr q :: (st.take n).reverse) h (fun r h' => C (cs + zmc mi) (ss + zms mi) (pc + 3) l (r.toList ++ rest) h') else bad
      | _ => bad)
    | _ => bad)
  | .invokespecial _ => (match ex with
    | [mi, n, _, _] => (match st.drop n with
      | .ref q :: rest => if zwd rest ≤ 8 ∧ (st.take n).length = n ∧ cs + zmc mi ≤ M.2.2.2.2.1 ∧ ss + zms mi ≤ M.2.2.2.2.2 then G mi (.ref q :: (st.take n).reverse) h (fun r h' => C (cs + zmc mi) (ss + zms mi) (pc + 3) l (r.toList ++ rest) h') else bad
      | _ => bad)
    | [_, _, _] => (match st with
      | .ref _ :: rest => if zwd rest ≤ 8 then C cs ss (pc + 3) l rest h else bad
      | _ => bad)
    | _ => bad)
  | .invokestatic _ => (match ex with
    | [mi, n, _, _, _] => if zwd (st.drop n) ≤ 8 ∧ (st.take n).length = n ∧ cs + zmc mi ≤ M.2.2.2.2.1 ∧ ss + zms mi ≤ M.2.2.2.2.2 then G mi (st.take n).reverse h (fun r h' => C (cs + zmc mi) (ss + zms mi) (pc + 3) l (r.toList ++ st.drop n) h') else bad
    | [mi, n, _, _, _, _, _] => if mi = zGL ∧ zwd (st.drop n) ≤ 8 ∧ (st.take n).length = n ∧ cs + zmc mi ≤ M.2.2.2.2.1 ∧ ss + zms mi ≤ M.2.2.2.2.2 then G mi (st.take n).reverse h (fun r h' => C (cs + zmc mi) (ss + zms mi) (pc + 3) l (r.toList ++ st.drop n) h') else bad
    | [k, _, _, _, _, _] => (match st with
      | .int y :: .int x :: rest => if zwd rest ≤ 8 then C cs ss (pc + 3) l (.int (if k = 0 then (if x < y then y else x) else (if y < x then y else x)) :: rest) h else bad
      | _ => bad)
    | [_, _, _, _] => (match st with
      | .int n :: .int dp :: .ref q1 :: .int sp :: .ref q0 :: rest => (match h.1[q0]?, h.1[q1]? with
        | some (1, n0), some (1, n1) => if zwd rest ≤ 8 ∧ al = false ∧ ¬ sp < 0 ∧ ¬ dp < 0 ∧ ¬ n < 0 ∧ sp.toNatClampNeg + n.toNatClampNeg ≤ n0 ∧ dp.toNatClampNeg + n.toNatClampNeg ≤ n1 then C cs ss (pc + 3) l rest (zcp h q0 q1 sp.toNatClampNeg dp.toNatClampNeg n.toNatClampNeg) else bad
        | _, _ => bad)
      | _ => bad)
    | _ => bad)
  | .ireturn => (match st with
    | [.int v] => (match M.2.2.2.1 with
      | some .int => K (some (.int v)) h
      | some ty => if narrow ty (.int v) = .int v then K (some (.int v)) h else bad
      | none => bad)
    | _ => bad)
  | .lreturn => (match st with
    | [.long v] => if M.2.2.2.1 = some .long then K (some (.long v)) h else bad
    | _ => bad)
  | .return_ => (match st with
    | [] => if M.2.2.2.1 = none then K none h else bad
    | _ => bad)
  | _ => bad
def zstep (M : zM) (al : Bool) (sc : Option (Nat × (Nat → Int32))) (G : Nat → List Value → zH → (Option Value → zH → ρ) → ρ) (K : Option Value → zH → ρ) (C : Nat → Nat → Nat → zL → List Value → zH → ρ) (cs ss pc : Nat) (l : zL) (st : List Value) (h : zH) : ρ :=
  if (M.2.get pc).1 = pc then zins bad M.1 al sc G K C cs ss pc l st h (M.2.get pc).2.2.2 (M.2.get pc).2.1 else bad
end ZX
