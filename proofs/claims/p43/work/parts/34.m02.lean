theorem skM40 : schk swM sTM 4000 247 scM40 [] [(2, [(0, .inr (.inl 0)), (1, .inr (.inl 41)), (2, .inl (576, 576)), (3, .inl (0, 8))], ([], [], [], []), [(3, -1)], 8, [], [])] = true := by decide +kernel
theorem skM41 : schk swM sTM 4000 247 scM41 [] [(2, [(0, .inr (.inl 0)), (1, .inr (.inl 41)), (2, .inl (608, 608)), (3, .inl (0, 8))], ([], [], [], []), [(3, -1)], 8, [], [])] = true := by decide +kernel
theorem skM42 : schk swM sTM 4000 247 scM42 [] [(2, [(0, .inr (.inl 0)), (1, .inr (.inl 41)), (2, .inl (64, 64)), (3, .inl (0, 8))], ([], [], [], []), [(3, -1)], 8, [], [])] = true := by decide +kernel
theorem skM43 : schk swM sTM 4000 247 scM43 [] [(2, [(0, .inr (.inl 0)), (1, .inr (.inl 41)), (2, .inl (96, 96)), (3, .inl (0, 8))], ([], [], [], []), [(3, -1)], 8, [], [])] = true := by decide +kernel
theorem skM44 : schk swM sTM 4000 247 scM44 [] [(2, [(0, .inr (.inl 0)), (1, .inr (.inl 42)), (2, .inl (0, 0)), (3, .inl (0, 8))], ([], [], [], []), [(3, -1)], 8, [], [])] = true := by decide +kernel
theorem skM45 : schk swM sTM 4000 249 scM45 [] [] = true := by decide +kernel
theorem skM46 : schk swM sTM 4000 251 scM46 [] [] = true := by decide +kernel
theorem skM47 : schk swM sTM 4000 252 scM47 [] [(43, [(0, .inr (.inl 0)), (1, .inl (0, 200)), (2, .inl (0, 200))], ([(0, 2, (0, 0)), (0, 66, (1, 1))], [], [], []), [(2, -1)], 200, [], [])] = true := by decide +kernel
theorem skM48 : schk swM sTM 4000 253 scM48 [] [(2, [(0, .inr (.inl 0)), (1, .inl (0, 0)), (2, .inl (0, 10))], ([], [], [], []), [(2, -1)], 48, [], []), (55, [(0, .inr (.inl 0)), (1, .inl (0, 0)), (2, .inl (0, 10))], ([(0, 14, (0, 10))], [], [], []), [(2, -1)], 37, [], []), (105, [(0, .inr (.inl 0)), (1, .inl (0, 0)), (2, .inl (0, 8))], ([(0, 14, (0, 10)), (0, 15, (0, 10))], [], [], []), [(2, -1)], 26, [], []), (150, [(0, .inr (.inl 0)), (1, .inl (0, 0)), (2, .inl (0, 8))], ([(0, 13, (0, 8)), (0, 14, (0, 10)), (0, 15, (0, 10))], [], [], []), [(2, -1)], 17, [], []), (172, [(0, .inr (.inl 0)), (1, .inl (0, 0)), (2, .inl (0, 8))], ([(0, 13, (0, 8)), (0, 14, (0, 10)), (0, 15, (0, 10))], [], [], []), [(2, -1)], 8, [], [])] = true := by decide +kernel
theorem skM49 : schk swM sTM 4000 253 scM49 [] [(2, [(0, .inr (.inl 0)), (1, .inl (1, 1)), (2, .inl (0, 10))], ([], [], [], []), [(2, -1)], 48, [], []), (55, [(0, .inr (.inl 0)), (1, .inl (1, 1)), (2, .inl (0, 10))], ([(0, 14, (0, 10))], [], [], []), [(2, -1)], 37, [], []), (105, [(0, .inr (.inl 0)), (1, .inl (1, 1)), (2, .inl (0, 8))], ([(0, 14, (0, 10)), (0, 15, (0, 10))], [], [], []), [(2, -1)], 26, [], []), (150, [(0, .inr (.inl 0)), (1, .inl (1, 1)), (2, .inl (0, 8))], ([(0, 13, (0, 8)), (0, 14, (0, 10)), (0, 15, (0, 10))], [], [], []), [(2, -1)], 17, [], []), (172, [(0, .inr (.inl 0)), (1, .inl (1, 1)), (2, .inl (0, 8))], ([(0, 13, (0, 8)), (0, 14, (0, 10)), (0, 15, (0, 10))], [], [], []), [(2, -1)], 8, [], [])] = true := by decide +kernel
theorem skM50 : schk swM sTM 4000 254 scM50 [] [] = true := by decide +kernel
theorem skM51 : schk swM sTM 4000 254 scM51 [] [] = true := by decide +kernel
theorem skM52 : schk swM sTM 4000 256 scM52 [] [] = true := by decide +kernel
theorem skM53 : schk swM sTM 4000 256 scM53 [] [] = true := by decide +kernel
theorem skM54 : schk swM sTM 4000 256 scM54 [] [] = true := by decide +kernel
theorem skM55 : schk swM sTM 4000 257 scM55 [] [] = true := by decide +kernel
theorem skM56 : schk swM sTM 4000 258 scM56 [] [] = true := by decide +kernel
theorem skM57 : schk swM sTM 4000 259 scM57 [] [] = true := by decide +kernel
theorem skM58 : schk swM sTM 4000 259 scM58 [] [] = true := by decide +kernel
theorem skM59 : schk swM sTM 4000 260 scM59 [] [] = true := by decide +kernel
