def zqV : Nat := 9115
def zqC : Nat := 9116
/-! The links that an instruction needs, checked by program; then: the executor says what the machine does. -/
def zfl (own : String) (idx ci k p nest : Nat) : Bool := match classes[ci]? with
  | some r => decide (k < r.2.2) && decide ((r.2.1 k).1 = r.1) && (if nest = 0 then decide (zwat p = some (.fieldLink own idx r.1 (r.2.1 k).2.1 (r.2.1 k).2.2.1)) else decide (zwat p = some (.fieldLinkNest own idx r.1 (r.2.1 k).2.1 (r.2.1 k).2.2.1 "SandHours")))
  | none => false
def zpf (own nm : String) (ci k nest : Nat) : Bool := match classes[ci]? with
  | some r => !(r.2.1 k).2.2.2 || (decide (own = r.1) && decide (nm = "<init>") && decide (nest = 0))
  | none => false
def zml (own : String) (idx mi p nest : Nat) : Bool := if nest = 0 then decide (zwat p = some (.methodLink own idx (zhd mi).1)) else decide (zwat p = some (.methodLinkNest own idx (zhd mi).1 "SandHours"))
/-- a table's targets -/
def ztb (pc : Nat) : Int → List Int → List Nat → Bool
  | lo, o :: os, v :: t :: r => decide ((Int32.ofNat v).toInt = lo) && decide ((pc : Int) + o = (t : Int)) && ztb pc (lo + 1) os r
  | _, [], [] => true
  | _, _, _ => false
def zlb (pc : Nat) : List (Int × Int) → List Nat → Bool
  | q :: qs, v :: t :: r => decide ((Int32.ofNat v).toInt = q.1) && decide ((pc : Int) + q.2 = (t : Int)) && zlb pc qs r
  | [], [] => true
  | _, _ => false
def ztg (pc : Nat) (off : Int) (ex : List Nat) : Bool := match ex with
  | [t] => decide ((pc : Int) + off = (t : Int))
  | _ => true
def zlkB (own nm : String) (pc : Nat) (i : Instr) (len : Nat) (ex : List Nat) : Bool := match i with
  | .bipush _ => len == 2
  | .iload _ => len == 2
  | .lload _ => len == 2
  | .aload _ => len == 2
  | .istore _ => len == 2
  | .lstore _ => len == 2
  | .astore _ => len == 2
  | .sipush _ => len == 3
  | .iinc .. => len == 3
  | .ldc idx => len == 2 && (match ex with
    | [v, p] => decide (zwat p = some (.constant own idx (Int32.ofNat v)))
    | [s] => s == 1000000 && decide (own = "SandHours$Tokens") && idx == 44
    | _ => true)
  | .ldc_w idx => len == 3 && (match ex with
    | [v, p] => decide (zwat p = some (.constant own idx (Int32.ofNat v)))
    | _ => true)
  | .ldc2_w idx => len == 3 && (match ex with
    | [v, p] => decide (zwat p = some (.constantLong own idx (Int64.ofNat v)))
    | _ => true)
  | .ifCond _ off => len == 3 && ztg pc off ex
  | .if_icmp _ off => len == 3 && ztg pc off ex
  | .goto off => len == 3 && ztg pc off ex
  | .tableswitch d lo hi os => (match ex with
    | t :: r => decide ((pc : Int) + d = (t : Int)) && decide (hi + 1 = lo + (os.size : Int)) && ztb pc lo os.toList r
    | _ => true)
  | .lookupswitch d ps => (match ex with
    | t :: r => decide ((pc : Int) + d = (t : Int)) && (ps.toList.zip (ps.toList.drop 1)).all (fun (a, next) => a.1 < next.1) && zlb pc ps.toList r
    | _ => true)
  | .getfield idx => len == 3 && (match ex with
    | [ci, k, p, nest] => zfl own idx ci k p nest
    | [fk] => decide (own = "java/lang/String") && (if fk = 0 then decide (zwat zqV = some (.fieldLink "java/lang/String" idx "java/lang/String" "value" "[B")) else decide (zwat zqC = some (.fieldLink "java/lang/String" idx "java/lang/String" "coder" "B")))
    | _ => true)
  | .putfield idx => len == 3 && (match ex with
    | [ci, k, p, nest] => zfl own idx ci k p nest && zpf own nm ci k nest
    | _ => true)
  | .getstatic idx => len == 3 && (match ex with
    | [sk, p] => if sk = 0 then decide (zwat p = some (.fieldLink own idx "java/lang/String" "COMPACT_STRINGS" "Z")) else decide (zwat p = some (.fieldLink own idx "jdk/internal/util/Preconditions" "SIOOBE_FORMATTER" zSio))
    | _ => true)
  | .new idx => len == 3 && (match ex with
    | [ci, n, pl, pi, pt] => (match classes[ci]? with
      | some r => decide (n = r.2.2) && decide (zwat pl = some (.classLink own idx r.1)) && decide (zwat pi = some (.instantiable r.1 r.2.2)) && decide (zwat pt = some (.initialized r.1))
      | none => false)
    | _ => true)
  | .newarray a => len == 2 && (match ex with
    | [t, p] => decide ((t = 1 ∧ a = .int) ∨ (t = 2 ∧ a = .byte) ∨ (t = 3 ∧ a = .boolean) ∨ (t = 4 ∧ a = .long)) && decide (zwat p = some (.arrayClass (newarray.typeOf a)))
    | _ => true)
  | .invokevirtual idx => len == 3 && (match ex with
    | [mi, n, ci, p, nest] => (zmp mi).1 == 1 && (zmp mi).2.1 == n && zml own idx mi p nest && (if ci = 999 then decide ((zhd mi).1.cls = "java/lang/String") else decide (classes[ci]?.map (fun r => r.1) = some (zhd mi).1.cls))
    | _ => true)
  | .invokespecial idx => len == 3 && (match ex with
    | [mi, n, p, nest] => (zmp mi).1 == 2 && (zmp mi).2.1 == n && zml own idx mi p nest
    | [pl, pi, pc'] => decide (zwat pl = some (.methodLink own idx Lib.objectInit)) && decide (zwat pi = some (.instanceMethod Lib.objectInit)) && decide (zwat pc' = some (.code Lib.objectInit ⟨#[0xb1]⟩ 1 none))
    | _ => true)
  | .invokestatic idx => len == 3 && (match ex with
    | [mi, n, p, nest, _] => (zmp mi).1 == 0 && (zmp mi).2.1 == n && zml own idx mi p nest
    | [mi, n, pl, ps, pi, _, _] => decide (zwat pl = some (.methodLink own idx (zhd zGL).1)) && decide (zwat ps = some (.static (zhd zGL).1)) && decide (zwat pi = some (.initialized (zhd zGL).1.cls)) && decide (mi = zGL) && decide ((parseMethodDescriptor (zhd zGL).1.desc).map (fun d => d.parameters.length) = some n)
    | [k, pl, ps, pi, _, _] => (if k = 0 then decide (zwat pl = some (.methodLink own idx Lib.Math.max.name)) && decide (zwat ps = some (.static Lib.Math.max.name)) else decide (zwat pl = some (.methodLink own idx Lib.Math.min.name)) && decide (zwat ps = some (.static Lib.Math.min.name))) && decide (zwat pi = some (.initialized "java/lang/Math"))
    | [pl, pn, ps, pi] => decide (zwat pl = some (.methodLink own idx arraycopyName)) && decide (zwat pn = some (.native arraycopyName)) && decide (zwat ps = some (.static arraycopyName)) && decide (zwat pi = some (.initialized "java/lang/System"))
    | _ => true)
  | _ => len == 1
def zallR (f : zEn → Bool) : Lean.RArray zEn → Bool
  | .leaf a => f a
  | .branch _ l r => zallR f l && zallR f r
theorem zallR_get {f : zEn → Bool} : ∀ (a : Lean.RArray zEn), zallR f a = true → ∀ n, f (a.get n) = true
  | .leaf x, h, n => h
  | .branch p l r, h, n => by
    simp only [zallR, Bool.and_eq_true] at h
    show f ((Nat.ble p n).rec (l.get n) (r.get n)) = true
    cases Nat.ble p n
    · exact zallR_get l h.1 n
    · exact zallR_get r h.2 n
/-- a method's printed instructions are its bytes', and its links stand in the tables -/
def zckF (M : zHd) (e : zEn) : Bool := decide (decode M.2.1 e.1 = .ok (e.2.1, e.2.2.1)) && zlkB M.1.cls M.1.name e.1 e.2.1 e.2.2.1 e.2.2.2
def zckB (M : zM) : Bool := zallR (zckF M.1) M.2
theorem zbr {f : zEn → Bool} {p : Nat} {l r : Lean.RArray zEn} (h1 : zallR f l = true) (h2 : zallR f r = true) : zallR f (.branch p l r) = true := by simp only [zallR, h1, h2, Bool.and_self]
