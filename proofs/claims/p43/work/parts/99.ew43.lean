/-! what is tried draws no number: the calls that try leave the number drawn as it is -/
def tnM55 : sCt := ([.inr (.inl 0)], ([(0, 66, (0, 0))], [], [], []), some (.inl (0, 1)), ([], [], [], []), [], 2)
def tnM1 : sCt := ([.inr (.inl 0)], ([], [], [], []), none, ([(0, 66, (0, 0))], [], [], []), [(0, 66, 74)], 1)
def tnM64 : sCt := ([.inr (.inl 0)], ([], [], [], []), none, ([(0, 66, (0, 0))], [], [], []), [(0, 66, 74), (29, 8, 16), (30, 8, 16), (31, 8, 16), (32, 8, 16), (33, 8, 16), (34, 10, 20), (35, 1, 2), (36, 1, 2)], 2)
def tnM49 : sCt := ([.inr (.inl 0), .inl (1, 1)], ([(0, 66, (0, 0))], [], [], []), none, ([], [], [], []), [(0, 56, 57), (27, 0, 7), (28, 0, 64), (29, 8, 16), (30, 8, 16), (31, 8, 16), (32, 8, 16), (33, 8, 16), (34, 10, 20), (35, 1, 2), (36, 1, 2)], 7)
def tnM65 : sCt := ([.inr (.inl 0), .inl (0, 200)], ([(0, 66, (0, 0))], [], [], []), none, ([], [], [], []), [(0, 56, 57), (27, 0, 7), (28, 0, 64), (29, 8, 16), (30, 8, 16), (31, 8, 16), (32, 8, 16), (33, 8, 16), (34, 10, 20), (35, 1, 2), (36, 1, 2)], 8)
def tnM148 : sCt := ([.inr (.inl 0), .inl (0, 7), .inl (0, 9)], ([], [], [], []), some (.inl (0, 1)), ([], [], [], []), [(0, 56, 57), (0, 66, 74), (27, 0, 7), (28, 0, 64), (29, 8, 16), (30, 8, 16), (31, 8, 16), (32, 8, 16), (33, 8, 16), (34, 10, 20), (35, 1, 2), (36, 1, 2)], 8)
def tnM63 : sCt := ([.inr (.inl 0), .inl (-2147483648, 2147483647), .inl (-2147483648, 2147483647), .inl (-2147483648, 2147483647)], ([], [], [], []), some (.inl (-2147483648, 2147483647)), ([], [], [], []), [(0, 2, 3), (0, 56, 57), (0, 66, 74), (27, 0, 7), (28, 0, 64), (29, 8, 16), (30, 8, 16), (31, 8, 16), (32, 8, 16), (33, 8, 16), (34, 10, 20), (35, 1, 2), (36, 1, 2)], 9)
def tnM70 : sCt := ([.inr (.inl 0), .inl (-2147483648, 2147483647)], ([], [], [], []), some (.inl (-2, 199)), ([], [], [], []), [(0, 2, 3), (0, 56, 57), (0, 66, 74), (27, 0, 7), (28, 0, 64), (29, 8, 16), (30, 8, 16), (31, 8, 16), (32, 8, 16), (33, 8, 16), (34, 10, 20), (35, 1, 2), (36, 1, 2)], 8)
def tnM90 : sCt := ([.inr (.inl 0), .inl (-2147483648, 2147483647)], ([], [], [], []), some (.inl (-2, 200)), ([], [], [], []), [(0, 2, 3), (0, 56, 57), (0, 66, 74), (27, 0, 7), (28, 0, 64), (29, 8, 16), (30, 8, 16), (31, 8, 16), (32, 8, 16), (33, 8, 16), (34, 10, 20), (35, 1, 2), (36, 1, 2)], 8)
def tnM83 : sCt := ([.inr (.inl 0), .inl (-2147483648, 2147483647)], ([], [], [], []), some (.inl (-1, 4)), ([], [], [], []), [(0, 2, 3), (0, 56, 57), (0, 66, 74), (27, 0, 7), (28, 0, 64), (29, 8, 16), (30, 8, 16), (31, 8, 16), (32, 8, 16), (33, 8, 16), (34, 10, 20), (35, 1, 2), (36, 1, 2)], 9)
def tnM146 : sCt := ([.inr (.inl 0), .inl (-2147483648, 2147483647)], ([], [], [], []), some (.inl (-2147483648, 2147483647)), ([], [], [], []), [(0, 2, 3), (0, 56, 57), (0, 66, 74), (27, 0, 7), (28, 0, 64), (29, 8, 16), (30, 8, 16), (31, 8, 16), (32, 8, 16), (33, 8, 16), (34, 10, 20), (35, 1, 2), (36, 1, 2), (40, 0, 24)], 9)
def tnM151 : sCt := ([.inr (.inl 0), .inl (-2147483648, 2147483647), .inl (-2147483648, 2147483647), .inl (-2147483648, 2147483647)], ([], [], [], []), some (.inl (-2147483648, 2147483647)), ([], [], [], []), [(0, 2, 3), (0, 56, 57), (0, 66, 74), (27, 0, 7), (28, 0, 64), (29, 8, 16), (30, 8, 16), (31, 8, 16), (32, 8, 16), (33, 8, 16), (34, 10, 20), (35, 1, 2), (36, 1, 2)], 9)
def sTN (mi : Nat) : List sCt := if mi = 257 then [tnM55] else if mi = 192 then [tnM1] else if mi = 263 then [tnM64] else if mi = 253 then [tnM49] else if mi = 264 then [tnM65] else if mi = 301 then [tnM148] else sTM mi
theorem sTN_h {l : Launch} {Γ : zG} {D : Nat} (h0 : 2 < D → sCon l Γ swM 257 tnM55) (h1 : 1 < D → sCon l Γ swM 192 tnM1) (h2 : 2 < D → sCon l Γ swM 263 tnM64) (h3 : 7 < D → sCon l Γ swM 253 tnM49) (h4 : 8 < D → sCon l Γ swM 264 tnM65) (h5 : 8 < D → sCon l Γ swM 301 tnM148) : ∀ mi, ∀ c ∈ sTN mi, c.2.2.2.2.2 < D → sCon l Γ swM mi c := fun mi c hc hd => by
  unfold sTN at hc
  split at hc
  · rename_i e
    subst e
    cases List.mem_singleton.mp hc
    exact h0 hd
  split at hc
  · rename_i e
    subst e
    cases List.mem_singleton.mp hc
    exact h1 hd
  split at hc
  · rename_i e
    subst e
    cases List.mem_singleton.mp hc
    exact h2 hd
  split at hc
  · rename_i e
    subst e
    cases List.mem_singleton.mp hc
    exact h3 hd
  split at hc
  · rename_i e
    subst e
    cases List.mem_singleton.mp hc
    exact h4 hd
  split at hc
  · rename_i e
    subst e
    cases List.mem_singleton.mp hc
    exact h5 hd
  exact sTM_ok l Γ mi c hc
theorem knM1 : schk swM sTN 4000 192 tnM1 [] [] = true := by decide +kernel
theorem snM1 (l : Launch) (Γ : zG) : sCon l Γ swM 192 tnM1 := schk_ok (mi := 192) (ct := tnM1) (T := sTN) (sTN_h (D := 1) (fun h => absurd h (by decide)) (fun h => absurd h (by decide)) (fun h => absurd h (by decide)) (fun h => absurd h (by decide)) (fun h => absurd h (by decide)) (fun h => absurd h (by decide))) knM1
theorem knM55 : schk swM sTN 4000 257 tnM55 [] [] = true := by decide +kernel
theorem snM55 (l : Launch) (Γ : zG) : sCon l Γ swM 257 tnM55 := schk_ok (mi := 257) (ct := tnM55) (T := sTN) (sTN_h (D := 2) (fun h => absurd h (by decide)) (fun _ => snM1 l Γ) (fun h => absurd h (by decide)) (fun h => absurd h (by decide)) (fun h => absurd h (by decide)) (fun h => absurd h (by decide))) knM55
theorem knM64 : schk swM sTN 4000 263 tnM64 [] [(2, [(0, .inr (.inl 0)), (1, .inl (0, 8))], ([], [], [], []), [(1, -1)], 19, [], []), (91, [(0, .inr (.inl 0)), (1, .inl (0, 10))], ([], [], [], []), [(1, -1)], 10, [], [])] = true := by decide +kernel
theorem snM64 (l : Launch) (Γ : zG) : sCon l Γ swM 263 tnM64 := schk_ok (mi := 263) (ct := tnM64) (T := sTN) (sTN_h (D := 2) (fun h => absurd h (by decide)) (fun _ => snM1 l Γ) (fun h => absurd h (by decide)) (fun h => absurd h (by decide)) (fun h => absurd h (by decide)) (fun h => absurd h (by decide))) knM64
theorem knM49 : schk swM sTN 4000 253 tnM49 [] [(2, [(0, .inr (.inl 0)), (1, .inl (1, 1)), (2, .inl (0, 10))], ([(0, 66, (0, 0))], [], [], []), [(2, -1)], 48, [], []), (55, [(0, .inr (.inl 0)), (1, .inl (1, 1)), (2, .inl (0, 10))], ([(0, 66, (0, 0)), (0, 14, (0, 10))], [], [], []), [(2, -1)], 37, [], []), (105, [(0, .inr (.inl 0)), (1, .inl (1, 1)), (2, .inl (0, 8))], ([(0, 66, (0, 0)), (0, 14, (0, 10)), (0, 15, (0, 10))], [], [], []), [(2, -1)], 26, [], []), (150, [(0, .inr (.inl 0)), (1, .inl (1, 1)), (2, .inl (0, 8))], ([(0, 66, (0, 0)), (0, 13, (0, 8)), (0, 14, (0, 10)), (0, 15, (0, 10))], [], [], []), [(2, -1)], 17, [], []), (172, [(0, .inr (.inl 0)), (1, .inl (1, 1)), (2, .inl (0, 8))], ([(0, 66, (0, 0)), (0, 13, (0, 8)), (0, 14, (0, 10)), (0, 15, (0, 10))], [], [], []), [(2, -1)], 8, [], [])] = true := by decide +kernel
theorem snM49 (l : Launch) (Γ : zG) : sCon l Γ swM 253 tnM49 := schk_ok (mi := 253) (ct := tnM49) (T := sTN) (sTN_h (D := 7) (fun _ => snM55 l Γ) (fun _ => snM1 l Γ) (fun _ => snM64 l Γ) (fun h => absurd h (by decide)) (fun h => absurd h (by decide)) (fun h => absurd h (by decide))) knM49
theorem knM65 : schk swM sTN 4000 264 tnM65 [] [(2, [(0, .inr (.inl 0)), (1, .inl (0, 200)), (2, .inl (0, 200))], ([(0, 66, (0, 0))], [], [], []), [(2, -1)], 200, [], [])] = true := by decide +kernel
theorem snM65 (l : Launch) (Γ : zG) : sCon l Γ swM 264 tnM65 := schk_ok (mi := 264) (ct := tnM65) (T := sTN) (sTN_h (D := 8) (fun _ => snM55 l Γ) (fun _ => snM1 l Γ) (fun _ => snM64 l Γ) (fun _ => snM49 l Γ) (fun h => absurd h (by decide)) (fun h => absurd h (by decide))) knM65
theorem knM148 : schk swM sTN 4000 301 tnM148 [] [(21, [(0, .inr (.inl 0)), (1, .inl (0, 7)), (2, .inl (0, 9)), (3, .inl (1, 100))], ([(0, 66, (0, 0)), (0, 72, (0, 7)), (0, 73, (0, 9))], [], [], []), [(3, -1)], 100, [], [])] = true := by decide +kernel
theorem snM148 (l : Launch) (Γ : zG) : sCon l Γ swM 301 tnM148 := schk_ok (mi := 301) (ct := tnM148) (T := sTN) (sTN_h (D := 8) (fun _ => snM55 l Γ) (fun _ => snM1 l Γ) (fun _ => snM64 l Γ) (fun _ => snM49 l Γ) (fun h => absurd h (by decide)) (fun h => absurd h (by decide))) knM148
theorem knM70 : schk swM sTN 4000 267 tnM70 [] [(21, [(0, .inr (.inl 0)), (1, .inl (0, 7)), (2, .inl (0, 200))], ([(0, 66, (0, 0)), (0, 2, (0, 0)), (0, 13, (1, 8))], [], [], []), [(2, -1)], 200, [], [])] = true := by decide +kernel
theorem snM70 (l : Launch) (Γ : zG) : sCon l Γ swM 267 tnM70 := schk_ok (mi := 267) (ct := tnM70) (T := sTN) (sTN_h (D := 8) (fun _ => snM55 l Γ) (fun _ => snM1 l Γ) (fun _ => snM64 l Γ) (fun _ => snM49 l Γ) (fun h => absurd h (by decide)) (fun h => absurd h (by decide))) knM70
theorem knM90 : schk swM sTN 4000 289 tnM90 [] [(22, [(0, .inr (.inl 0)), (1, .inl (0, 1)), (2, .inl (1, 255))], ([(0, 66, (0, 0)), (0, 2, (0, 0))], [], [], []), [(2, -12)], 3071, [], []), (36, [(0, .inr (.inl 0)), (1, .inl (0, 1)), (2, .inl (1, 200)), (3, .inl (0, 10))], ([(0, 66, (0, 0)), (0, 2, (0, 0))], [], [], []), [(2, -12), (3, -1)], 3070, [], [])] = true := by decide +kernel
theorem snM90 (l : Launch) (Γ : zG) : sCon l Γ swM 289 tnM90 := schk_ok (mi := 289) (ct := tnM90) (T := sTN) (sTN_h (D := 8) (fun _ => snM55 l Γ) (fun _ => snM1 l Γ) (fun _ => snM64 l Γ) (fun _ => snM49 l Γ) (fun h => absurd h (by decide)) (fun h => absurd h (by decide))) knM90
theorem knM63 : schk swM sTN 4000 262 tnM63 [] [] = true := by decide +kernel
theorem snM63 (l : Launch) (Γ : zG) : sCon l Γ swM 262 tnM63 := schk_ok (mi := 262) (ct := tnM63) (T := sTN) (sTN_h (D := 9) (fun _ => snM55 l Γ) (fun _ => snM1 l Γ) (fun _ => snM64 l Γ) (fun _ => snM49 l Γ) (fun _ => snM65 l Γ) (fun _ => snM148 l Γ)) knM63
theorem knM83 : schk swM sTN 4000 281 tnM83 [] [] = true := by decide +kernel
theorem snM83 (l : Launch) (Γ : zG) : sCon l Γ swM 281 tnM83 := schk_ok (mi := 281) (ct := tnM83) (T := sTN) (sTN_h (D := 9) (fun _ => snM55 l Γ) (fun _ => snM1 l Γ) (fun _ => snM64 l Γ) (fun _ => snM49 l Γ) (fun _ => snM65 l Γ) (fun _ => snM148 l Γ)) knM83
theorem knM146 : schk swM sTN 4000 299 tnM146 [(45, 2)] [(17, [(0, .inr (.inl 0)), (1, .inl (0, 7)), (2, .inl (0, 24))], ([(0, 2, (0, 0)), (0, 13, (1, 8))], [], [], []), [(2, -1)], 60, [], []), (45, [(0, .inr (.inl 0)), (1, .inl (0, 7)), (2, .inl (-1, -1))], ([(0, 2, (0, 0)), (0, 13, (1, 8))], [], [], []), [], 11, [], []), (45, [(0, .inr (.inl 0)), (1, .inl (0, 7)), (2, .inl (0, 0))], ([(0, 2, (0, 0)), (0, 13, (1, 8))], [], [], []), [], 12, [], []), (45, [(0, .inr (.inl 0)), (1, .inl (0, 7)), (2, .inl (1, 1))], ([(0, 2, (0, 0)), (0, 13, (1, 8))], [], [], []), [], 13, [], []), (45, [(0, .inr (.inl 0)), (1, .inl (0, 7)), (2, .inl (2, 2))], ([(0, 2, (0, 0)), (0, 13, (1, 8))], [], [], []), [], 14, [], []), (45, [(0, .inr (.inl 0)), (1, .inl (0, 7)), (2, .inl (3, 3))], ([(0, 2, (0, 0)), (0, 13, (1, 8))], [], [], []), [], 15, [], []), (45, [(0, .inr (.inl 0)), (1, .inl (0, 7)), (2, .inl (4, 4))], ([(0, 2, (0, 0)), (0, 13, (1, 8))], [], [], []), [], 16, [], []), (45, [(0, .inr (.inl 0)), (1, .inl (0, 7)), (2, .inl (5, 5))], ([(0, 2, (0, 0)), (0, 13, (1, 8))], [], [], []), [], 17, [], []), (45, [(0, .inr (.inl 0)), (1, .inl (0, 7)), (2, .inl (6, 6))], ([(0, 2, (0, 0)), (0, 13, (1, 8))], [], [], []), [], 18, [], []), (45, [(0, .inr (.inl 0)), (1, .inl (0, 7)), (2, .inl (7, 7))], ([(0, 2, (0, 0)), (0, 13, (1, 8))], [], [], []), [], 19, [], []), (45, [(0, .inr (.inl 0)), (1, .inl (0, 7)), (2, .inl (8, 8))], ([(0, 2, (0, 0)), (0, 13, (1, 8))], [], [], []), [], 20, [], []), (45, [(0, .inr (.inl 0)), (1, .inl (0, 7)), (2, .inl (9, 9))], ([(0, 2, (0, 0)), (0, 13, (1, 8))], [], [], []), [], 21, [], []), (45, [(0, .inr (.inl 0)), (1, .inl (0, 7)), (2, .inl (10, 10))], ([(0, 2, (0, 0)), (0, 13, (1, 8))], [], [], []), [], 22, [], []), (45, [(0, .inr (.inl 0)), (1, .inl (0, 7)), (2, .inl (11, 11))], ([(0, 2, (0, 0)), (0, 13, (1, 8))], [], [], []), [], 23, [], []), (45, [(0, .inr (.inl 0)), (1, .inl (0, 7)), (2, .inl (12, 12))], ([(0, 2, (0, 0)), (0, 13, (1, 8))], [], [], []), [], 24, [], []), (45, [(0, .inr (.inl 0)), (1, .inl (0, 7)), (2, .inl (13, 13))], ([(0, 2, (0, 0)), (0, 13, (1, 8))], [], [], []), [], 25, [], []), (45, [(0, .inr (.inl 0)), (1, .inl (0, 7)), (2, .inl (14, 14))], ([(0, 2, (0, 0)), (0, 13, (1, 8))], [], [], []), [], 26, [], []), (45, [(0, .inr (.inl 0)), (1, .inl (0, 7)), (2, .inl (15, 15))], ([(0, 2, (0, 0)), (0, 13, (1, 8))], [], [], []), [], 27, [], []), (45, [(0, .inr (.inl 0)), (1, .inl (0, 7)), (2, .inl (16, 16))], ([(0, 2, (0, 0)), (0, 13, (1, 8))], [], [], []), [], 28, [], []), (45, [(0, .inr (.inl 0)), (1, .inl (0, 7)), (2, .inl (17, 17))], ([(0, 2, (0, 0)), (0, 13, (1, 8))], [], [], []), [], 29, [], []), (45, [(0, .inr (.inl 0)), (1, .inl (0, 7)), (2, .inl (18, 18))], ([(0, 2, (0, 0)), (0, 13, (1, 8))], [], [], []), [], 30, [], []), (45, [(0, .inr (.inl 0)), (1, .inl (0, 7)), (2, .inl (19, 19))], ([(0, 2, (0, 0)), (0, 13, (1, 8))], [], [], []), [], 31, [], []), (45, [(0, .inr (.inl 0)), (1, .inl (0, 7)), (2, .inl (20, 20))], ([(0, 2, (0, 0)), (0, 13, (1, 8))], [], [], []), [], 32, [], []), (45, [(0, .inr (.inl 0)), (1, .inl (0, 7)), (2, .inl (21, 21))], ([(0, 2, (0, 0)), (0, 13, (1, 8))], [], [], []), [], 33, [], []), (45, [(0, .inr (.inl 0)), (1, .inl (0, 7)), (2, .inl (22, 22))], ([(0, 2, (0, 0)), (0, 13, (1, 8))], [], [], []), [], 34, [], []), (45, [(0, .inr (.inl 0)), (1, .inl (0, 7)), (2, .inl (23, 23))], ([(0, 2, (0, 0)), (0, 13, (1, 8))], [], [], []), [], 35, [], []), (95, [(0, .inr (.inl 0)), (1, .inl (0, 7)), (2, .inl (-2147483648, 2147483647)), (3, .inl (0, 10))], ([(0, 2, (0, 0)), (0, 13, (1, 8))], [], [], []), [(3, -1)], 10, [], [])] = true := by decide +kernel
theorem snM146 (l : Launch) (Γ : zG) : sCon l Γ swM 299 tnM146 := schk_ok (mi := 299) (ct := tnM146) (T := sTN) (sTN_h (D := 9) (fun _ => snM55 l Γ) (fun _ => snM1 l Γ) (fun _ => snM64 l Γ) (fun _ => snM49 l Γ) (fun _ => snM65 l Γ) (fun _ => snM148 l Γ)) knM146
theorem knM151 : schk swM sTN 4000 304 tnM151 [] [] = true := by decide +kernel
theorem snM151 (l : Launch) (Γ : zG) : sCon l Γ swM 304 tnM151 := schk_ok (mi := 304) (ct := tnM151) (T := sTN) (sTN_h (D := 9) (fun _ => snM55 l Γ) (fun _ => snM1 l Γ) (fun _ => snM64 l Γ) (fun _ => snM49 l Γ) (fun _ => snM65 l Γ) (fun _ => snM148 l Γ)) knM151
