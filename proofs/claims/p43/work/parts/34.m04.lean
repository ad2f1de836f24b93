theorem skM80 : schk swM sTM 4000 279 scM80 [] [] = true := by decide +kernel
theorem skM81 : schk swM sTM 4000 280 scM81 [] [(4, [(0, .inr (.inl 0)), (1, .inl (0, 0)), (2, .inl (-1, 4)), (3, .inl (0, 5))], ([], [], [], []), [(3, -1)], 5, [], [])] = true := by decide +kernel
theorem skM82 : schk swM sTM 4000 280 scM82 [] [(4, [(0, .inr (.inl 0)), (1, .inl (1, 1)), (2, .inl (-1, 4)), (3, .inl (0, 5))], ([], [], [], []), [(3, -1)], 5, [], [])] = true := by decide +kernel
theorem skM83 : schk swM sTM 4000 281 scM83 [] [] = true := by decide +kernel
theorem skM84 : schk swM sTM 4000 282 scM84 [] [] = true := by decide +kernel
theorem skM85 : schk swM sTM 4000 283 scM85 [] [(5, [(0, .inr (.inl 0)), (1, .inl (0, 7)), (2, .inl (-1, 2147483647)), (3, .inl (-2147483648, 2147483647)), (4, .inl (0, 16))], ([], [], [], []), [(4, -6)], 101, [], []), (30, [(0, .inr (.inl 0)), (1, .inl (0, 7)), (2, .inl (-1, 2147483647)), (3, .inl (-2147483648, 2147483647)), (4, .inl (0, 15)), (5, .inl (0, 15)), (6, .inl (0, 3)), (7, .inl (0, 1)), (8, .inl (0, 4))], ([], [], [], []), [(4, -6), (8, -1)], 100, [], [])] = true := by decide +kernel
theorem skM86 : schk swM sTM 4000 284 scM86 [] [] = true := by decide +kernel
theorem skM87 : schk swM sTM 4000 286 scM87 [] [] = true := by decide +kernel
theorem skM88 : schk swM sTM 4000 287 scM88 [] [(46, [(0, .inr (.inl 0)), (1, .inl (0, 4)), (2, .inl (1, 999)), (3, .inl (0, 1)), (4, .inl (-2, 7)), (5, .inl (-2, 1998)), (6, .inl (0, 8))], ([(0, 2, (0, 0)), (0, 12, (1, 5))], [], [], []), [(6, -1)], 8, [], [])] = true := by decide +kernel
theorem skM89 : schk swM sTM 4000 288 scM89 [] [] = true := by decide +kernel
theorem skM90 : schk swM sTM 4000 289 scM90 [] [(22, [(0, .inr (.inl 0)), (1, .inl (0, 1)), (2, .inl (1, 255))], ([(0, 2, (0, 0))], [], [], []), [(2, -12)], 3071, [], []), (36, [(0, .inr (.inl 0)), (1, .inl (0, 1)), (2, .inl (1, 200)), (3, .inl (0, 10))], ([(0, 2, (0, 0))], [], [], []), [(2, -12), (3, -1)], 3070, [], [])] = true := by decide +kernel
theorem skM91 : schk swM sTM 4000 290 scM91 [] [(9, [(0, .inr (.inl 0)), (1, .inl (-1, 7)), (2, .inl (0, 8))], ([(0, 2, (0, 0))], [], [], []), [(2, -1)], 8, [], [])] = true := by decide +kernel
theorem skM92 : schk swM sTM 4000 291 scM92 [] [(9, [(0, .inr (.inl 0)), (1, .inl (-2147483648, 2147483647)), (2, .inl (0, 8))], ([(0, 2, (0, 0))], [], [], []), [(2, -1)], 8, [], [])] = true := by decide +kernel
theorem skM93 : schk swM sTM 4000 292 scM93 [] [(9, [(0, .inr (.inl 0)), (1, .inl (-2147483648, 2147483647)), (2, .inl (0, 10))], ([(0, 2, (0, 0))], [], [], []), [(2, -1)], 10, [], [])] = true := by decide +kernel
theorem skM94 : schk swM sTM 4000 293 scM94 [] [(21, [(0, .inr (.inl 0)), (1, .inl (1, 9)), (2, .inl (-2147483648, 2147483647)), (3, .inl (0, 8))], ([(0, 2, (0, 0))], [], [], []), [(3, -1)], 8, [], [])] = true := by decide +kernel
theorem skM95 : schk swM sTM 4000 294 scM95 [] [(19, [(0, .inr (.inl 0)), (1, .inl (0, 4)), (2, .inl (-2147483648, 2147483647)), (3, .inl (0, 5))], ([(0, 2, (0, 0)), (0, 12, (1, 5))], [], [], []), [(3, -1)], 5, [], [])] = true := by decide +kernel
theorem skM96 : schk swM sTM 4000 295 scM96 [] [] = true := by decide +kernel
theorem skM97 : schk swMs sT0 4000 296 scM97 [] [] = true := by decide +kernel
theorem skM98 : schk swMs sT0 4000 296 scM98 [] [] = true := by decide +kernel
theorem skM99 : schk swMs sT0 4000 296 scM99 [] [] = true := by decide +kernel
