theorem skM0 : schk swM sTM 4000 191 scM0 [] [(2, [(0, .inr (.inl 0)), (1, .inl (1, 1)), (2, .inl (0, 8))], ([], [], [], []), [(2, -1)], 19, [], []), (86, [(0, .inr (.inl 0)), (1, .inl (1, 1)), (2, .inl (0, 10))], ([], [], [], []), [(2, -1)], 10, [], [])] = true := by decide +kernel
theorem skM1 : schk swM sTM 4000 192 scM1 [] [] = true := by decide +kernel
theorem skM2 : schk swM sTM 4000 193 scM2 [] [(23, [(0, .inr (.inl 0)), (1, .inl (-2147483648, 2147483647)), (2, .inl (-2147483648, 2147483647)), (3, .inl (-2147483648, 2147483647)), (4, .inl (-2147483648, 2147483647)), (5, .inl (-2147483648, 2147483647)), (6, .inl (0, 20))], ([(0, 1, (0, 680)), (0, 2, (0, 0))], [], [], []), [(6, -1)], 20, [], [])] = true := by decide +kernel
theorem skM3 : schk swM sTM 4000 205 scM3 [] [(3, [(0, .inr (.inl 5)), (1, .inl (0, 0)), (2, .inl (0, 5)), (3, .inl (-2147483648, 2147483647)), (4, .inl (0, 5))], ([], [], [], []), [(4, -1)], 5, [], [])] = true := by decide +kernel
theorem skM4 : schk swM sTM 4000 205 scM4 [] [(3, [(0, .inr (.inl 6)), (1, .inl (0, 0)), (2, .inl (0, 8)), (3, .inl (-2147483648, 2147483647)), (4, .inl (0, 8))], ([], [], [], []), [(4, -1)], 8, [], [])] = true := by decide +kernel
theorem skM5 : schk swM sTM 4000 226 scM5 [] [] = true := by decide +kernel
theorem skM6 : schk swM sTM 4000 227 scM6 [] [] = true := by decide +kernel
theorem skM7 : schk swM sTM 4000 228 scM7 [] [] = true := by decide +kernel
theorem skM8 : schk swM sTM 4000 231 scM8 [] [] = true := by decide +kernel
theorem skM9 : schk swM sTM 4000 233 scM9 [] [(5, [(0, .inr (.inl 0)), (1, .inl (0, 0)), (2, .inl (0, 4)), (3, .inl (-2147483648, 2147483647)), (4, .inl (0, 8))], ([], [], [], []), [(4, -1)], 8, [], [])] = true := by decide +kernel
theorem skM10 : schk swM sTM 4000 233 scM10 [] [(5, [(0, .inr (.inl 0)), (1, .inl (1, 1)), (2, .inl (-2147483648, 2147483647)), (3, .inl (-2147483648, 2147483647)), (4, .inl (0, 8))], ([], [], [], []), [(4, -1)], 8, [], [])] = true := by decide +kernel
theorem skM11 : schk swM sTM 4000 234 scM11 [] [(5, [(0, .inr (.inl 0)), (1, .inl (0, 4)), (2, .inl (0, 1)), (3, .inl (-2147483648, 2147483647)), (4, .inl (0, 8))], ([], [], [], []), [(4, -1)], 8, [], [])] = true := by decide +kernel
theorem skM12 : schk swM sTM 4000 235 scM12 [] [] = true := by decide +kernel
theorem skM13 : schk swM sTM 4000 237 scM13 [(14, 1)] [] = true := by decide +kernel
theorem skM14 : schk swM sTM 4000 238 scM14 [] [] = true := by decide +kernel
theorem skM15 : schk swM sTM 4000 238 scM15 [] [] = true := by decide +kernel
theorem skM16 : schk swM sTM 4000 240 scM16 [] [(12, [(0, .inr (.inl 0)), (1, .inl (0, 0)), (2, .inl (0, 64))], ([(0, 56, (0, 1)), (19, 0, (1, 1))], [], [], []), [(2, -1)], 64, [], [])] = true := by decide +kernel
theorem skM17 : schk swM sTM 4000 240 scM17 [] [(12, [(0, .inr (.inl 0)), (1, .inl (1, 1)), (2, .inl (0, 64))], ([(0, 56, (0, 1)), (19, 1, (1, 1))], [], [], []), [(2, -1)], 64, [], [])] = true := by decide +kernel
theorem skM18 : schk swM sTM 4000 240 scM18 [] [(12, [(0, .inr (.inl 0)), (1, .inl (2, 2)), (2, .inl (0, 64))], ([(0, 56, (0, 1)), (19, 2, (1, 1))], [], [], []), [(2, -1)], 64, [], [])] = true := by decide +kernel
theorem skM19 : schk swM sTM 4000 241 scM19 [] [] = true := by decide +kernel
