theorem skC102 : schk swC sTC 4000 61 scC102 [] [(22, [(0, .inr (.inl 6)), (1, .inr (.inl 3)), (2, .inr (.inl 37)), (3, .inl (0, 700))], ([(6, 1, (0, 72)), (6, 2, (-2147483648, 2147483647)), (6, 3, (0, 1)), (6, 4, (0, 1)), (3, 8, (0, 5))], [(3, 1, 1)], [], []), [(3, -1)], 700, [], [])] = true := by decide +kernel
theorem skC103 : schk swC sTC 4000 62 scC103 [] [] = true := by decide +kernel
theorem skC104 : schk swC sTC 4000 62 scC104 [] [] = true := by decide +kernel
theorem skC105 : schk swC sTC 4000 63 scC105 [] [] = true := by decide +kernel
theorem skC106 : schk swC sTC 4000 64 scC106 [] [] = true := by decide +kernel
theorem skC107 : schk swC sTC 4000 65 scC107 [] [] = true := by decide +kernel
theorem skC108 : schk swC sTC 4000 65 scC108 [] [] = true := by decide +kernel
theorem skC109 : schk swC sTC 4000 66 scC109 [] [] = true := by decide +kernel
theorem skC110 : schk swC sTC 4000 66 scC110 [] [] = true := by decide +kernel
theorem skC111 : schk swC sTC 4000 67 scC111 [] [] = true := by decide +kernel
theorem skC112 : schk swC sTC 4000 67 scC112 [] [] = true := by decide +kernel
theorem skC113 : schk swC sTC 4000 68 scC113 [] [(0, [(0, .inr (.inl 6)), (1, .inr (.inl 20)), (2, .inl (0, 6))], ([(6, 1, (0, 71))], [], [], []), [], 0, [(6, 1, 1)], [])] = true := by decide +kernel
theorem skC114 : schk swC sTC 4000 68 scC114 [] [(0, [(0, .inr (.inl 6)), (1, .inr (.inl 37)), (2, .inl (0, 6))], ([(6, 1, (0, 71))], [], [], []), [], 0, [(6, 1, 1)], [])] = true := by decide +kernel
theorem skC115 : schk swC sTC 4000 69 scC115 [] [] = true := by decide +kernel
theorem skC116 : schk swC sTC 4000 70 scC116 [] [] = true := by decide +kernel
theorem skC117 : schk swC sTC 4000 71 scC117 [] [] = true := by decide +kernel
theorem skC118 : schk swC sTC 4000 71 scC118 [] [] = true := by decide +kernel
theorem skC119 : schk swC sTC 4000 72 scC119 [] [] = true := by decide +kernel
theorem skC120 : schk swC sTC 4000 72 scC120 [] [] = true := by decide +kernel
theorem skC121 : schk swC sTC 4000 73 scC121 [] [(26, [(0, .inr (.inl 43)), (1, .inr (.inl 26)), (2, .inl (0, 8))], ([(26, 7, (-2147483648, 2147483647)), (43, 0, (0, 0)), (43, 2, (0, 0)), (43, 3, (0, 0))], [], [], []), [(2, -1)], 8, [], [])] = true := by decide +kernel
theorem skC122 : schk swC sTC 4000 73 scC122 [] [(26, [(0, .inr (.inl 43)), (1, .inr (.inl 9)), (2, .inl (0, 8))], ([(9, 7, (-2147483648, 2147483647)), (43, 0, (0, 0)), (43, 2, (0, 0)), (43, 3, (0, 0))], [], [], []), [(2, -1)], 8, [], [])] = true := by decide +kernel
theorem skC123 : schk swC sTC 4000 73 scC123 [] [(26, [(0, .inr (.inl 55)), (1, .inr (.inl 26)), (2, .inl (0, 8))], ([(26, 7, (-2147483648, 2147483647)), (55, 0, (0, 0)), (55, 2, (0, 0)), (55, 3, (0, 0))], [], [], []), [(2, -1)], 8, [], [])] = true := by decide +kernel
theorem skC124 : schk swC sTC 4000 73 scC124 [] [(26, [(0, .inr (.inl 55)), (1, .inr (.inl 9)), (2, .inl (0, 8))], ([(9, 7, (-2147483648, 2147483647)), (55, 0, (0, 0)), (55, 2, (0, 0)), (55, 3, (0, 0))], [], [], []), [(2, -1)], 8, [], [])] = true := by decide +kernel
theorem skC125 : schk swC sTC 4000 74 scC125 [] [] = true := by decide +kernel
theorem skC126 : schk swC sTC 4000 75 scC126 [] [] = true := by decide +kernel
theorem skC127 : schk swC sTC 4000 76 scC127 [] [] = true := by decide +kernel
theorem skC128 : schk swC sTC 4000 77 scC128 [] [] = true := by decide +kernel
theorem skC129 : schk swC sTC 4000 78 scC129 [] [] = true := by decide +kernel
theorem skC130 : schk swC sTC 4000 80 scC130 [] [(5, [(0, .inr (.inl 43)), (1, .inr (.inl 26)), (2, .inl (0, 4)), (3, .inl (-2147483648, 2147483647)), (4, .inl (0, 8))], ([], [], [], []), [(4, -1)], 8, [], [])] = true := by decide +kernel
theorem skC131 : schk swC sTC 4000 80 scC131 [] [(5, [(0, .inr (.inl 43)), (1, .inr (.inl 9)), (2, .inl (0, 4)), (3, .inl (-2147483648, 2147483647)), (4, .inl (0, 8))], ([], [], [], []), [(4, -1)], 8, [], [])] = true := by decide +kernel
theorem skC132 : schk swC sTC 4000 80 scC132 [] [(5, [(0, .inr (.inl 55)), (1, .inr (.inl 26)), (2, .inl (-2147483648, 2147483647)), (3, .inl (-2147483648, 2147483647)), (4, .inl (0, 8))], ([], [], [], []), [(4, -1)], 8, [], [])] = true := by decide +kernel
theorem skC133 : schk swC sTC 4000 80 scC133 [] [(5, [(0, .inr (.inl 55)), (1, .inr (.inl 9)), (2, .inl (-2147483648, 2147483647)), (3, .inl (-2147483648, 2147483647)), (4, .inl (0, 8))], ([], [], [], []), [(4, -1)], 8, [], [])] = true := by decide +kernel
theorem skC134 : schk swC sTC 4000 81 scC134 [] [(4, [(0, .inr (.inl 26)), (1, .inl (0, 4)), (2, .inl (-2147483648, 2147483647)), (3, .inl (0, 8))], ([], [], [], []), [(3, -1)], 8, [], [])] = true := by decide +kernel
theorem skC135 : schk swC sTC 4000 81 scC135 [] [(4, [(0, .inr (.inl 9)), (1, .inl (0, 4)), (2, .inl (-2147483648, 2147483647)), (3, .inl (0, 8))], ([], [], [], []), [(3, -1)], 8, [], [])] = true := by decide +kernel
