/-! the reference's text: pieces of its bodies -/
/-- the reference's world, without what is told of laws and knots -/
def swMt : sW := (zshM, swM.2.1, swM.2.2.1, swM.2.2.2.1, [(39, 39, 1, (0, 99), (0, 7), 96, 4)], swM.2.2.2.2.2)
def tkD : sAs := ([(0, 6, (0, 700)), (0, 7, (0, 700))], [], [(0, 6, 0, 7, 0)], [])
def tkW : List (List (Nat × Nat × (Int × Int))) := [[(0, 8, (0, 0))], [(0, 8, (1, 1)), (0, 9, (0, 20))], [(0, 8, (2, 2))], [(0, 8, (3, 3)), (0, 9, (0, 1000000))], [(0, 8, (4, 4))], [(0, 8, (5, 5)), (0, 9, (0, 5))], [(0, 8, (6, 6))]]
def tkK : sAs := ([(0, 6, (0, 700)), (0, 7, (0, 700))], [], [(0, 6, 0, 7, 0)], tkW)
def tkP (L : List (Nat × Nat × (Int × Int))) (A : sAs) : sAs := (L ++ A.1, A.2)
def sA0 : sAs := ([], [], [], [])
def sr0 : sT := .inr (.inl 0)
def sI1 (a b : Int) : sT := .inl (a, b)
/-! grown, waitsFor -/
def gCl : List ((Int × Int) × (Int × Int) × (Int × Int)) := [((0, 0), (0, 9999), (0, 0)), ((1, 1), (0, 6), (0, 0)), ((2, 2), (0, 63), (-1, -1)), ((3, 14), (0, 63), (0, 63))]
def gMd (r : Nat) : sM := [(0, 23, 24), (0, 49, 50), (22, 64 + r, 65 + r), (23, 64 + r, 65 + r), (24, 64 + r, 65 + r), (26, 0, 96)]
def gB (r : Nat) (c : (Int × Int) × (Int × Int) × (Int × Int)) : Bool := spmB swMt sT0 (gMd r) 100 0 221 [] [sr0, .inl c.1, .inl c.2.1, .inl c.2.2] ([(0, 23, ((r : Int), (r : Int)))], [], [], []) [(0, (none, 49), (0, 95))] [] [(none, ([(0, 23, ((r : Int) + 1, (r : Int) + 1)), (22, 64 + r, c.1), (23, 64 + r, c.2.1), (24, 64 + r, c.2.2)], [], [], []), [(0, 49, 0, 1)])]
theorem gB_ok : (List.range 64).all (fun r => gCl.all (fun c => gB r c)) = true := by decide +kernel
def wCl : List (Int × Int) := [(0, 0), (2, 2), (3, 14)]
def wMd (c : Nat) : sM := [(0, 48, 49), (25, c, c + 1)]
def wB (c : Nat) (iv : Int × Int) : Bool := spmB swM sT0 (wMd c) 100 0 217 [] [sr0, .inl iv] ([(0, 48, ((c : Int), (c : Int)))], [], [], []) [] [] [(none, ([(0, 48, ((c : Int) + 1, (c : Int) + 1)), (25, c, iv)], [], [], []), [])]
theorem wB_ok : (List.range 96).all (fun c => wCl.all (fun v => wB c v)) = true := by decide +kernel
/-! bind -/
def bL (a b : Int) : List (Nat × sT) := [(0, sr0), (1, sI1 a b)]
def bMd0 : sM := [(0, 48, 50)]
/-- nothing waits -/
theorem bB0 : spqB swM sT0 [] 100 1 223 (bL 1 6) ([(0, 48, (0, 0))], [], [], []) [] [] 0 [] [(none, sA0, [])] = true := by decide +kernel
def bB (a b : Int) (iv : Int × Int) (lo dl : Int) (e : List sEd) (r : List sRt) : Bool := spqB swM sT0 bMd0 200 1 223 (bL a b) sA0 [(0, (none, 48), (1, 72)), (25, (some 0, -1), iv), (0, (none, 49), (lo, 95))] [] 0 e r
def bE (a b : Int) (k vb : Int × Int) (dl : Int) : sEd := (70, [.inl vb, sI1 0 63, .inl k, sr0], bL a b, sA0, [(0, 48, 0, -1), (0, 49, 2, dl)], [(2, 1, 0)])
def bR : sRt := (none, sA0, [(0, 48, 0, 0), (0, 49, 2, 0)])
theorem bB1 : bB 1 6 (0, 1) 0 0 [] [bR] = true := by decide +kernel
theorem bB2 : bB 1 1 (2, 2) 1 (-1) [bE 1 1 (2, 2) (-1, -1) (-1)] [] = true := by decide +kernel
theorem bB3 : bB 1 1 (3, 14) 2 (-2) [bE 1 1 (3, 14) (0, 63) (-2)] [] = true := by decide +kernel
theorem bB4 : bB 2 6 (2, 2) 1 (-1) [bE 2 6 (2, 2) (-1, -1) (-1)] [bR] = true := by decide +kernel
theorem bB5 : bB 2 6 (3, 14) 2 (-2) [bE 2 6 (3, 14) (0, 63) (-2)] [bR] = true := by decide +kernel
def bE0 (a b : Int) : sEd := (0, [], bL a b, sA0, [], [])
theorem bB6 : spqB swM sT0 [] 100 1 223 (bL 1 1) sA0 [] [] 73 [bE0 1 1] [] = true := by decide +kernel
theorem bB7 : spqB swM sT0 [] 100 1 223 (bL 2 6) sA0 [] [] 73 [bE0 2 6] [] = true := by decide +kernel
/-! leafRead -/
def lL : List (Nat × sT) := [(0, sr0)]
def lMd : sM := [(0, 4, 6), (0, 50, 52)]
def lE0 : sEd := (36, [sI1 0 0, sr0], lL, tkD, [(0, 50, 0, 1), (0, 51, 1, 0)], [])
def lE1 : sEd := (77, [sI1 2 2, sr0], lL, tkD, [(0, 50, 0, 0), (0, 51, 1, 1)], [])
def lE2 : sEd := (161, [sI1 0 0, sI1 0 6, sI1 1 1, sr0], lL, tkD, [(0, 50, 0, 0), (0, 51, 1, 1)], [])
def lE3 : sEd := (161, [sI1 0 0, sI1 0 9999, sI1 0 0, sr0], lL, tkD, [(0, 50, 0, 0), (0, 51, 1, 1)], [])
def sR0 : sRt := (some (sI1 0 0), sA0, [])
theorem lB0 : spmB swM sTP lMd 400 2 216 [] [sr0] tkK [(0, (none, 50), (0, 8)), (0, (none, 51), (0, 64))] [lE0, lE1, lE2, lE3] [sR0] = true := by decide +kernel
theorem lB1 : spqB swM sTP [(0, 7, 11), (0, 53, 54)] 400 2 216 lL tkD [] [] 39 [] [(some (sI1 1 1), tkK, [])] = true := by decide +kernel
theorem lB2 : spqB swM sTP [(0, 7, 11), (0, 53, 54)] 400 2 216 lL tkD [] [] 80 [] [(some (sI1 1 1), tkK, [])] = true := by decide +kernel
theorem lB3 : spqB swM sTP [(0, 7, 11), (0, 52, 53)] 400 2 216 lL tkD [] [] 164 [] [(some (sI1 1 1), tkP [(0, 52, (0, 0))] tkK, [])] = true := by decide +kernel
/-! signs -/
def gL : List (Nat × sT) := [(0, sr0), (1, sI1 3 14)]
def gE0 : sEd := (18, [sI1 1 1, sr0], lL, tkP [(0, 50, (1, 8))] tkD, [], [])
def gE1 : sEd := (175, [sI1 1 6, sr0], gL, tkD, [], [])
theorem gB0 : spmB swM sTP [(0, 4, 6)] 400 2 222 [] [sr0] tkK [] [gE0, gE1] [sR0] = true := by decide +kernel
theorem gB1 : spqB swM sTP [(0, 7, 11), (0, 48, 49), (0, 50, 51)] 400 2 222 lL tkD [(0, (none, 48), (1, 72)), (0, (none, 50), (1, 8))] [] 21 [] [(some (sI1 1 1), tkK, [(0, 48, 0, -1), (0, 50, 1, -1)])] = true := by decide +kernel
def gE2 : sEd := (228, [sI1 3 14, sr0], gL, tkD, [(0, 51, 0, 1)], [])
theorem gB2 : spqB swM sTP [(0, 4, 6), (0, 51, 52)] 400 2 222 gL tkD [(0, (none, 51), (0, 64))] [] 178 [gE2] [sR0] = true := by decide +kernel
theorem gB3 : spqB swM sTP [(0, 7, 11), (0, 52, 54)] 400 2 222 gL tkD [] [] 231 [] [(some (sI1 1 1), tkP [(0, 52, (1, 1))] tkK, [])] = true := by decide +kernel
/-! sumRead -/
def uE0 : sEd := (25, [], lL, tkP [(0, 48, (0, 0)), (0, 49, (0, 0)), (0, 50, (0, 0)), (0, 52, (1, 1))] tkK, [], [])
theorem uB0 : spmB swM sT0 [(0, 48, 51), (0, 52, 54)] 400 2 214 [] [sr0] tkK [] [uE0] [] = true := by decide +kernel
def uE1 : sEd := (56, [sr0], lL, tkP [(0, 52, (1, 1))] tkK, [], [])
def uE2 : sEd := (66, [sr0], lL, tkP [(0, 52, (0, 0))] tkK, [], [])
def uE3 : sEd := (76, [sI1 1 1, sr0], lL, tkP [(0, 52, (0, 0)), (0, 50, (0, 0))] tkK, [], [])
theorem uB1 : spqB swM sT0 [] 400 2 214 lL tkK [] [] 25 [uE1, uE2, uE3] [] = true := by decide +kernel
def uE4 : sEd := (25, [], lL, sA0, [], [])
theorem uB2 : spqB swM sT0 [] 100 1 214 lL sA0 [] [0] 59 [] [sR0] = true := by decide +kernel
theorem uB3 : spqB swM sT0 [] 100 1 214 lL sA0 [] [1] 59 [uE4] [] = true := by decide +kernel
theorem uB4 : spqB swM sT0 [] 100 1 214 lL sA0 [] [0] 69 [] [sR0] = true := by decide +kernel
theorem uB5 : spqB swM sT0 [] 100 1 214 lL sA0 [] [1] 69 [uE4] [] = true := by decide +kernel
theorem uB6 : spqB swM sT0 [] 100 1 214 lL sA0 [] [] 79 [] [(some (sI1 1 1), sA0, [])] = true := by decide +kernel
/-! lineRead -/
def nMd : sM := [(0, 4, 6), (0, 7, 12), (0, 18, 23), (3, 0, 2), (4, 2, 4), (5, 5, 10), (6, 8, 16), (7, 8, 16), (8, 8, 16), (9, 8, 16), (10, 8, 16), (11, 8, 16), (12, 10, 20), (13, 10, 20), (14, 10, 20), (15, 10, 20), (16, 10, 20), (17, 10, 20), (18, 6, 12), (19, 3, 6), (20, 3, 6)]
def nP : List sP0 := [(0, (none, 18), (0, 5)), (0, (none, 19), (0, 8)), (0, (none, 20), (0, 10)), (0, (none, 21), (0, 10)), (0, (none, 22), (0, 6)), (3, (none, 0), (0, 1)), (3, (none, 1), (0, 1)), (19, (none, 3), (0, 1)), (19, (none, 4), (0, 1)), (19, (none, 5), (0, 1))]
/-- the i-th is one more, the others are as they were -/
def nRl (i : Nat) : List (Nat × Nat × Nat × Int) := [(0, 18, 0, if i = 0 then 1 else 0), (0, 19, 1, if i = 1 then 1 else 0), (0, 20, 2, if i = 2 then 1 else 0), (0, 21, 3, if i = 3 then 1 else 0), (0, 22, 4, if i = 4 then 1 else 0), (3, 0, 5, if i = 5 then 1 else 0), (3, 1, 6, if i = 6 then 1 else 0), (19, 3, 7, if i = 7 then 1 else 0), (19, 4, 8, if i = 8 then 1 else 0), (19, 5, 9, if i = 9 then 1 else 0)]
def nL (k : Int) : List (Nat × sT) := [(0, sr0), (2, sI1 k k)]
def nE (i : Nat) (k : Int) : sEd := (213, [sr0], nL k, tkK, nRl i, [])
def nR (i : Nat) : sRt := (some (sI1 1 1), tkK, nRl i)
theorem nB0 : spmB swM sTP nMd 2000 4 201 [(176, 2)] [sr0] tkK nP [nE 7 3, nE 8 4, nE 9 5] [sR0, nR 0, nR 1, nR 2, nR 3, nR 4, nR 5, nR 6] = true := by decide +kernel
def nB1 (k : Nat) : Bool := spqB swM sTP [(21, 3, 6)] 400 2 201 (nL k) sA0 [] [0] 216 [] [sR0]
theorem nB1_ok : [3, 4, 5].all nB1 = true := by decide +kernel
def nB2 (k : Nat) : Bool := spqB swM sTP [(21, k, k + 1), (0, 4, 6), (0, 7, 11)] 400 2 201 (nL k) (tkP [(0, 23, (1, 64))] tkK) [] [1] 216 [] [sR0, (some (sI1 1 1), tkP [(21, k, (1, 64))] tkK, [])]
theorem nB2_ok : [3, 4, 5].all nB2 = true := by decide +kernel
/-! copies of knots -/
def cL (q : Nat) (k : Int) : List (Nat × sT) := [(0, .inr (.inl q)), (1, sI1 64 64), (2, sI1 k k)]
def cB (q k : Nat) : Bool := spqB swMt sT0 [(q, k, k + 1)] 100 0 189 (cL q k) sA0 [(q, (none, 64 + (k : Int)), if q = 24 then (-1, 63) else if q = 23 then (0, 9999) else (0, 14))] [] 2 [(2, [], cL q ((k : Int) + 1), sA0, [(q, k, 0, 0)], [])] []
theorem cB_ok : [22, 23, 24].all (fun q => (List.range 64).all (cB q)) = true := by decide +kernel
def cB0 (q : Nat) : Bool := spmB swMt sT0 [] 100 0 189 [] [.inr (.inl q), sI1 64 64] sA0 [] [(2, [], cL q 0, sA0, [], [])] []
theorem cB0_ok : [22, 23, 24].all cB0 = true := by decide +kernel
def cB1 (q : Nat) : Bool := spqB swMt sT0 [] 100 0 189 (cL q 64) sA0 [] [] 2 [] [(none, sA0, [])]
theorem cB1_ok : [22, 23, 24].all cB1 = true := by decide +kernel
