/-! Types of the tables. -/
/-- its pc, the instruction, its length, what it links -/
abbrev zEn : Type := Nat × Instr × Nat × List Nat
abbrev zM : Type := zHd × Lean.RArray zEn
def zmc (mi : Nat) : Nat := (zhd mi).2.2.2.2.1
def zms (mi : Nat) : Nat := (zhd mi).2.2.2.2.2
def zNF (ci : Nat) : Nat := (zkd.getD ci []).length
def zokw : Cond → Bool
  | .fieldLinkNest .. => true
  | .methodLinkNest .. => true
  | .castable .. => true
  | .declares .. => true
  | w => goodWord w
def zSio : String := "Ljava/util/function/BiFunction;"
def zkind (ci k : Nat) : Nat := (zkd.getD ci []).getD k 0
