theorem skM20 : schk swM sTM 4000 243 scM20 [] [] = true := by decide +kernel
theorem skM21 : schk swM sTM 4000 244 scM21 [] [] = true := by decide +kernel
theorem skM22 : schk swM sTM 4000 245 scM22 [] [] = true := by decide +kernel
theorem skM23 : schk swM sTM 4000 246 scM23 [] [(11, [(0, .inr (.inl 0)), (1, .inl (0, 608))], ([(0, 80, (20, 20))], [], [], []), [(1, -1)], 608, [], [])] = true := by decide +kernel
theorem skM24 : schk swM sTM 4000 247 scM24 [] [(2, [(0, .inr (.inl 0)), (1, .inr (.inl 41)), (2, .inl (0, 0)), (3, .inl (0, 8))], ([], [], [], []), [(3, -1)], 8, [], [])] = true := by decide +kernel
theorem skM25 : schk swM sTM 4000 247 scM25 [] [(2, [(0, .inr (.inl 0)), (1, .inr (.inl 41)), (2, .inl (128, 128)), (3, .inl (0, 8))], ([], [], [], []), [(3, -1)], 8, [], [])] = true := by decide +kernel
theorem skM26 : schk swM sTM 4000 247 scM26 [] [(2, [(0, .inr (.inl 0)), (1, .inr (.inl 41)), (2, .inl (160, 160)), (3, .inl (0, 8))], ([], [], [], []), [(3, -1)], 8, [], [])] = true := by decide +kernel
theorem skM27 : schk swM sTM 4000 247 scM27 [] [(2, [(0, .inr (.inl 0)), (1, .inr (.inl 41)), (2, .inl (192, 192)), (3, .inl (0, 8))], ([], [], [], []), [(3, -1)], 8, [], [])] = true := by decide +kernel
theorem skM28 : schk swM sTM 4000 247 scM28 [] [(2, [(0, .inr (.inl 0)), (1, .inr (.inl 41)), (2, .inl (224, 224)), (3, .inl (0, 8))], ([], [], [], []), [(3, -1)], 8, [], [])] = true := by decide +kernel
theorem skM29 : schk swM sTM 4000 247 scM29 [] [(2, [(0, .inr (.inl 0)), (1, .inr (.inl 41)), (2, .inl (256, 256)), (3, .inl (0, 8))], ([], [], [], []), [(3, -1)], 8, [], [])] = true := by decide +kernel
theorem skM30 : schk swM sTM 4000 247 scM30 [] [(2, [(0, .inr (.inl 0)), (1, .inr (.inl 41)), (2, .inl (288, 288)), (3, .inl (0, 8))], ([], [], [], []), [(3, -1)], 8, [], [])] = true := by decide +kernel
theorem skM31 : schk swM sTM 4000 247 scM31 [] [(2, [(0, .inr (.inl 0)), (1, .inr (.inl 41)), (2, .inl (32, 32)), (3, .inl (0, 8))], ([], [], [], []), [(3, -1)], 8, [], [])] = true := by decide +kernel
theorem skM32 : schk swM sTM 4000 247 scM32 [] [(2, [(0, .inr (.inl 0)), (1, .inr (.inl 41)), (2, .inl (320, 320)), (3, .inl (0, 8))], ([], [], [], []), [(3, -1)], 8, [], [])] = true := by decide +kernel
theorem skM33 : schk swM sTM 4000 247 scM33 [] [(2, [(0, .inr (.inl 0)), (1, .inr (.inl 41)), (2, .inl (352, 352)), (3, .inl (0, 8))], ([], [], [], []), [(3, -1)], 8, [], [])] = true := by decide +kernel
theorem skM34 : schk swM sTM 4000 247 scM34 [] [(2, [(0, .inr (.inl 0)), (1, .inr (.inl 41)), (2, .inl (384, 384)), (3, .inl (0, 8))], ([], [], [], []), [(3, -1)], 8, [], [])] = true := by decide +kernel
theorem skM35 : schk swM sTM 4000 247 scM35 [] [(2, [(0, .inr (.inl 0)), (1, .inr (.inl 41)), (2, .inl (416, 416)), (3, .inl (0, 8))], ([], [], [], []), [(3, -1)], 8, [], [])] = true := by decide +kernel
theorem skM36 : schk swM sTM 4000 247 scM36 [] [(2, [(0, .inr (.inl 0)), (1, .inr (.inl 41)), (2, .inl (448, 448)), (3, .inl (0, 8))], ([], [], [], []), [(3, -1)], 8, [], [])] = true := by decide +kernel
theorem skM37 : schk swM sTM 4000 247 scM37 [] [(2, [(0, .inr (.inl 0)), (1, .inr (.inl 41)), (2, .inl (480, 480)), (3, .inl (0, 8))], ([], [], [], []), [(3, -1)], 8, [], [])] = true := by decide +kernel
theorem skM38 : schk swM sTM 4000 247 scM38 [] [(2, [(0, .inr (.inl 0)), (1, .inr (.inl 41)), (2, .inl (512, 512)), (3, .inl (0, 8))], ([], [], [], []), [(3, -1)], 8, [], [])] = true := by decide +kernel
theorem skM39 : schk swM sTM 4000 247 scM39 [] [(2, [(0, .inr (.inl 0)), (1, .inr (.inl 41)), (2, .inl (544, 544)), (3, .inl (0, 8))], ([], [], [], []), [(3, -1)], 8, [], [])] = true := by decide +kernel
