theorem skC34 : schk swC sTC 4000 41 scC34 [] [] = true := by decide +kernel
theorem skC35 : schk swC sTC 4000 41 scC35 [] [] = true := by decide +kernel
theorem skC36 : schk swC sTC 4000 41 scC36 [] [] = true := by decide +kernel
theorem skC37 : schk swC sTC 4000 43 scC37 [] [] = true := by decide +kernel
theorem skC38 : schk swC sTC 4000 44 scC38 [] [] = true := by decide +kernel
theorem skC39 : schk swC sTC 4000 44 scC39 [] [] = true := by decide +kernel
theorem skC40 : schk swC sTC 4000 44 scC40 [] [] = true := by decide +kernel
theorem skC41 : schk swC sTC 4000 44 scC41 [] [] = true := by decide +kernel
theorem skC42 : schk swC sTC 4000 45 scC42 [] [(2, [(0, .inr (.inl 10)), (1, .inl (-2147483648, 2147483647)), (2, .inl (0, 5))], ([], [], [], []), [(2, -1)], 5, [], [])] = true := by decide +kernel
theorem skC43 : schk swC sTC 4000 45 scC43 [] [(2, [(0, .inr (.inl 12)), (1, .inl (-2147483648, 2147483647)), (2, .inl (0, 8))], ([], [], [], []), [(2, -1)], 8, [], [])] = true := by decide +kernel
theorem skC44 : schk swC sTC 4000 45 scC44 [] [(2, [(0, .inr (.inl 27)), (1, .inl (-2147483648, 2147483647)), (2, .inl (0, 5))], ([], [], [], []), [(2, -1)], 5, [], [])] = true := by decide +kernel
theorem skC45 : schk swC sTC 4000 45 scC45 [] [(2, [(0, .inr (.inl 29)), (1, .inl (-2147483648, 2147483647)), (2, .inl (0, 8))], ([], [], [], []), [(2, -1)], 8, [], [])] = true := by decide +kernel
theorem skC46 : schk swC sTC 4000 46 scC46 [] [] = true := by decide +kernel
theorem skC47 : schk swC sTC 4000 46 scC47 [] [] = true := by decide +kernel
theorem skC48 : schk swC sTC 4000 46 scC48 [] [] = true := by decide +kernel
theorem skC49 : schk swC sTC 4000 46 scC49 [] [] = true := by decide +kernel
theorem skC50 : schk swC sTC 4000 46 scC50 [] [] = true := by decide +kernel
theorem skC51 : schk swC sTC 4000 46 scC51 [] [] = true := by decide +kernel
theorem skC52 : schk swC sTC 4000 46 scC52 [] [] = true := by decide +kernel
theorem skC53 : schk swC sTC 4000 46 scC53 [] [] = true := by decide +kernel
theorem skC54 : schk swC sTC 4000 46 scC54 [] [] = true := by decide +kernel
theorem skC55 : schk swC sTC 4000 46 scC55 [] [] = true := by decide +kernel
theorem skC56 : schk swC sTC 4000 46 scC56 [] [] = true := by decide +kernel
theorem skC57 : schk swC sTC 4000 46 scC57 [] [] = true := by decide +kernel
theorem skC58 : schk swC sTC 4000 46 scC58 [] [] = true := by decide +kernel
theorem skC59 : schk swC sTC 4000 47 scC59 [] [] = true := by decide +kernel
theorem skC60 : schk swC sTC 4000 47 scC60 [] [] = true := by decide +kernel
theorem skC61 : schk swC sTC 4000 47 scC61 [] [] = true := by decide +kernel
theorem skC62 : schk swC sTC 4000 47 scC62 [] [] = true := by decide +kernel
theorem skC63 : schk swC sTC 4000 47 scC63 [] [] = true := by decide +kernel
theorem skC64 : schk swC sTC 4000 47 scC64 [] [] = true := by decide +kernel
theorem skC65 : schk swC sTC 4000 47 scC65 [] [] = true := by decide +kernel
theorem skC66 : schk swC sTC 4000 47 scC66 [] [] = true := by decide +kernel
theorem skC67 : schk swC sTC 4000 47 scC67 [] [] = true := by decide +kernel
