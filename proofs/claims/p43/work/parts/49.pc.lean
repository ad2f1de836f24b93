/-! keepText -/
def kMd : sM := [(0, 12, 18), (4, 0, 2), (5, 0, 5), (6, 0, 8), (7, 0, 8), (8, 0, 8), (9, 0, 8), (10, 0, 8), (11, 0, 8), (12, 0, 10), (13, 0, 10), (14, 0, 10), (15, 0, 10), (16, 0, 10), (17, 0, 10), (18, 0, 6)]
def kIv (t : Int) : Int × Int := if t = 1 then (1, 64) else (0, 64)
def kA (o : Nat) (a b c : Int) : List (Nat × Nat × (Int × Int)) := [(19, o, (a, a)), (19, o + 1, (b, b)), (19, o + 2, (c, c)), (21, o, kIv a), (21, o + 1, kIv b), (21, o + 2, kIv c)]
/-- copies of the other rows -/
def kCs : List (Nat × Nat) := [(5, 5), (6, 8), (7, 8), (8, 8), (9, 8), (10, 8), (11, 8), (12, 10), (13, 10), (14, 10), (15, 10), (16, 10), (17, 10), (18, 6), (20, 3)]
def kCt (t : Nat × Nat) : sCt := ([.inr (.inl t.1), .inl ((t.2 : Int), (t.2 : Int))], sA0, none, sA0, [(t.1, 0, t.2)], 1)
def kCu (t : Nat × Nat) : sCut := (2, [(0, .inr (.inl t.1)), (1, .inl ((t.2 : Int), (t.2 : Int))), (2, .inl (0, (t.2 : Int)))], sA0, [(2, -1)], (t.2 : Int), [], [])
theorem kCs_ok : kCs.all (fun t => schk swMt sT0 200 189 (kCt t) [] [kCu t]) = true := by decide +kernel
def kT (mi : Nat) : List sCt := if mi = 189 then kCs.map kCt else []
theorem kB_0 : spmB swMt kT kMd 1000 1 188 [] [sr0] sA0 [] [(181, [], lL, sA0, [], [])] [] = true := by decide +kernel
def kB (a b c : Int) : Bool := spqB swMt kT [(19, 0, 3), (20, 0, 3), (21, 0, 3)] 1000 1 188 lL (kA 3 a b c, [], [], []) [] [] 181 [(230, [sI1 64 64, .inr (.inl 22)], lL, (kA 0 a b c, [], [], []), [], [])] []
theorem kB_ok : [0, 1].all (fun a => [0, 1].all (fun b => [0, 1].all (fun c => kB a b c))) = true := by decide +kernel
theorem kB1 : spqB swMt sT0 [] 100 0 188 lL sA0 [] [] 233 [(239, [sI1 64 64, .inr (.inl 23)], lL, sA0, [], [])] [] = true := by decide +kernel
theorem kB2 : spqB swMt sT0 [] 100 0 188 lL sA0 [] [] 242 [(248, [sI1 64 64, .inr (.inl 24)], lL, sA0, [], [])] [] = true := by decide +kernel
/-- everything but the tape's length -/
def aMd : sM := (0, 0, 1) :: (0, 2, 100) :: (List.range 43).map (fun q => (q + 1, 0, 2000))
theorem kB3 : spqB swM sTM aMd 4000 8 188 lL sA0 [] [] 251 [] [(none, sA0, [])] = true := by decide +kernel
/-! text -/
def xL : List (Nat × sT) := [(0, sr0), (2, .inl sf32)]
def xMd : sM := [(0, 1, 2), (0, 4, 11), (0, 18, 24), (0, 51, 52), (3, 0, 2), (4, 2, 4), (19, 3, 6)]
def xE0 : sEd := (55, [], xL, tkP [(0, 1, (0, 0)), (0, 23, (0, 0)), (0, 51, (0, 0)), (19, 3, (0, 0)), (19, 4, (0, 0)), (19, 5, (0, 0))] tkK, [], [])
def xLn : List (Nat × sT) := [(0, sr0), (1, sI1 0 700)]
def xA0 (i : Nat) : Bool := spmB swM sT0 [(0, 2, 3)] 100 0 194 [] [sr0, sI1 0 (20 * (i : Int))] ([(0, 1, (20 * (i : Int), 20 * (i : Int)))], [], [], []) [] [(20, [], xLn, sA0, [], [])] []
theorem xA0_ok : (List.range 36).all xA0 = true := by decide +kernel
theorem xB0 : spqB swM sTP xMd 1000 2 194 xLn sA0 [] [] 20 [xE0] [] = true := by decide +kernel
def xE1 : sEd := (63, [sr0], xL, tkK, [], [])
def xE2 : sEd := (78, [sr0], xL, sA0, [], [])
theorem xB1 : spqB swM sT0 [] 100 1 194 xL tkK [] [] 55 [xE1, xE2] [] = true := by decide +kernel
theorem xB2 : spqB swM sT0 [] 100 1 194 xL sA0 [] [0] 66 [] [(some (sI1 (-1) (-1)), sA0, [])] = true := by decide +kernel
theorem xB3 : spqB swM sT0 [] 100 1 194 xL sA0 [] [1] 66 [(55, [], xL, sA0, [], [])] [] = true := by decide +kernel
theorem xB4 : spqB swM sT0 [] 100 1 194 xL sA0 [] [] 81 [] [(some (.inl sf32), sA0, [])] = true := by decide +kernel
/-! the calls -/
theorem zv_b : zcvB 223 70 12 3 221 = true := by decide +kernel
theorem zv_l0 : zcvB 216 36 12 1 217 = true := by decide +kernel
theorem zv_l1 : zcvB 216 77 12 1 217 = true := by decide +kernel
theorem zv_l2 : zcvB 216 161 12 3 221 = true := by decide +kernel
theorem zv_g0 : zcvB 222 18 12 1 223 = true := by decide +kernel
theorem zv_g1 : zcvB 222 175 12 1 223 = true := by decide +kernel
theorem zv_g2 : zcvB 222 228 12 1 217 = true := by decide +kernel
theorem zv_u0 : zcvB 214 56 12 0 216 = true := by decide +kernel
theorem zv_u1 : zcvB 214 66 12 0 222 = true := by decide +kernel
theorem zv_u2 : zcvB 214 76 12 1 223 = true := by decide +kernel
theorem zv_n : zcvB 201 213 12 0 214 = true := by decide +kernel
theorem zv_k0 : zcsB 188 230 2 189 = true := by decide +kernel
theorem zv_k1 : zcsB 188 239 2 189 = true := by decide +kernel
theorem zv_k2 : zcsB 188 248 2 189 = true := by decide +kernel
theorem zv_x0 : zcvB 194 63 12 0 201 = true := by decide +kernel
theorem zv_x1 : zcvB 194 78 12 0 188 = true := by decide +kernel
