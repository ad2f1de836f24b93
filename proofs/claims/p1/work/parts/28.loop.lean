theorem zi_succ {k n : Int32} (h : k < n) : (k + 1).toInt = k.toInt + 1 := by
  have h1 := Int32.lt_iff_toInt_lt.mp h
  have h2 := Int32.toInt_lt n
  have h3 := Int32.le_toInt k
  rw [Int32.toInt_add, show (1 : Int32).toInt = 1 from by decide]
  rw [Int.bmod_eq_of_le] <;> omega
theorem zi_mv (m n k : Int32) : m + 1 + (n - (k + 1)) = m + (n - k) := by
  grind
