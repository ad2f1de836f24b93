theorem skC0 : schk swC sTC 4000 20 scC0 [] [(5, [(0, .inr (.inl 22)), (1, .inl (-1, -1)), (2, .inl (0, 3)), (3, .inl (3, 3))], ([], [], [], []), [(2, -1)], 3, [], [])] = true := by decide +kernel
theorem skC1 : schk swC sTC 4000 20 scC1 [] [(5, [(0, .inr (.inl 39)), (1, .inl (-1, -1)), (2, .inl (0, 3)), (3, .inl (3, 3))], ([], [], [], []), [(2, -1)], 3, [], [])] = true := by decide +kernel
theorem skC2 : schk swC sTC 4000 20 scC2 [] [(5, [(0, .inr (.inl 46)), (1, .inl (0, 0)), (2, .inl (0, 8)), (3, .inl (8, 8))], ([], [], [], []), [(2, -1)], 8, [], [])] = true := by decide +kernel
theorem skC3 : schk swC sTC 4000 20 scC3 [] [(5, [(0, .inr (.inl 47)), (1, .inl (0, 0)), (2, .inl (0, 8)), (3, .inl (8, 8))], ([], [], [], []), [(2, -1)], 8, [], [])] = true := by decide +kernel
theorem skC4 : schk swC sTC 4000 20 scC4 [] [(5, [(0, .inr (.inl 48)), (1, .inl (0, 0)), (2, .inl (0, 10)), (3, .inl (10, 10))], ([], [], [], []), [(2, -1)], 10, [], [])] = true := by decide +kernel
theorem skC5 : schk swC sTC 4000 20 scC5 [] [(5, [(0, .inr (.inl 58)), (1, .inl (0, 0)), (2, .inl (0, 8)), (3, .inl (8, 8))], ([], [], [], []), [(2, -1)], 8, [], [])] = true := by decide +kernel
theorem skC6 : schk swC sTC 4000 20 scC6 [] [(5, [(0, .inr (.inl 59)), (1, .inl (0, 0)), (2, .inl (0, 8)), (3, .inl (8, 8))], ([], [], [], []), [(2, -1)], 8, [], [])] = true := by decide +kernel
theorem skC7 : schk swC sTC 4000 20 scC7 [] [(5, [(0, .inr (.inl 60)), (1, .inl (0, 0)), (2, .inl (0, 10)), (3, .inl (10, 10))], ([], [], [], []), [(2, -1)], 10, [], [])] = true := by decide +kernel
theorem skC8 : schk swC sTC 4000 20 scC8 [] [(5, [(0, .inr (.inl 82)), (1, .inl (0, 0)), (2, .inl (0, 64)), (3, .inl (64, 64))], ([], [], [], []), [(2, -1)], 64, [], [])] = true := by decide +kernel
theorem skC9 : schk swC sTC 4000 20 scC9 [] [(5, [(0, .inr (.inl 83)), (1, .inl (-1, -1)), (2, .inl (0, 8)), (3, .inl (8, 8))], ([], [], [], []), [(2, -1)], 8, [], [])] = true := by decide +kernel
theorem skC10 : schk swC sTC 4000 26 scC10 [] [] = true := by decide +kernel
theorem skC11 : schk swC sTC 4000 27 scC11 [] [(3, [(0, .inr (.inl 0)), (1, .inl (-2147483648, 2147483647)), (2, .inl (-8, 24))], ([(0, 1, (0, 700))], [], [], []), [(2, 1)], 8, [], [])] = true := by decide +kernel
theorem skC12 : schk swC sTC 4000 28 scC12 [] [] = true := by decide +kernel
theorem skC13 : schk swC sTC 4000 29 scC13 [] [(19, [(0, .inr (.inl 2)), (1, .inr (.inl 26)), (2, .inr (.inl 1)), (3, .inl (0, 700)), (4, .inl (-2147483648, 2147483647)), (5, .inl (0, 700))], ([(3, 4, (0, 63))], [(3, 1, 1)], [], []), [(5, -1)], 700, [], [])] = true := by decide +kernel
theorem skC14 : schk swC sTC 4000 29 scC14 [] [(19, [(0, .inr (.inl 2)), (1, .inr (.inl 9)), (2, .inr (.inl 1)), (3, .inl (0, 700)), (4, .inl (-2147483648, 2147483647)), (5, .inl (0, 700))], ([(3, 4, (0, 63))], [(3, 1, 1)], [], []), [(5, -1)], 700, [], [])] = true := by decide +kernel
theorem skC15 : schk swC sTC 4000 30 scC15 [] [] = true := by decide +kernel
theorem skC16 : schk swC sTC 4000 30 scC16 [] [] = true := by decide +kernel
theorem skC17 : schk swC sTC 4000 31 scC17 [] [] = true := by decide +kernel
theorem skC18 : schk swC sTC 4000 31 scC18 [] [] = true := by decide +kernel
theorem skC19 : schk swC sTC 4000 32 scC19 [] [] = true := by decide +kernel
theorem skC20 : schk swC sTC 4000 34 scC20 [] [(0, [(0, .inr (.inl 3))], ([(3, 2, (1, 700)), (3, 3, (1, 700))], [(3, 1, 1)], [], []), [], 700, [(3, 3, -1)], [])] = true := by decide +kernel
theorem skC21 : schk swC sTC 4000 35 scC21 [] [(8, [(0, .inr (.inl 3)), (1, .inl (-2147483648, 2147483647))], ([(3, 6, (-2147483648, 2147483647)), (3, 3, (0, 700))], [(3, 1, 1)], [], []), [], 724, [(3, 3, -1)], []), (107, [(0, .inr (.inl 3)), (1, .inl (-2147483648, 2147483647)), (2, .inl (0, 23))], ([(3, 2, (0, 700)), (3, 3, (0, 700)), (3, 4, (1, 31)), (3, 6, (-2147483648, 2147483647))], [(3, 1, 1)], [], []), [(2, -1)], 23, [], [])] = true := by decide +kernel
theorem skC22 : schk swC sTC 4000 36 scC22 [] [(5, [(0, .inr (.inl 3))], ([(3, 7, (0, 1073741824)), (3, 3, (0, 700))], [(3, 1, 1)], [], []), [], 700, [(3, 3, -1)], [])] = true := by decide +kernel
theorem skC23 : schk swC sTC 4000 37 scC23 [] [] = true := by decide +kernel
theorem skC24 : schk swC sTC 4000 38 scC24 [] [] = true := by decide +kernel
theorem skC25 : schk swC sTC 4000 40 scC25 [] [] = true := by decide +kernel
theorem skC26 : schk swC sTC 4000 40 scC26 [] [] = true := by decide +kernel
theorem skC27 : schk swC sTC 4000 41 scC27 [] [] = true := by decide +kernel
theorem skC28 : schk swC sTC 4000 41 scC28 [] [] = true := by decide +kernel
theorem skC29 : schk swC sTC 4000 41 scC29 [] [] = true := by decide +kernel
theorem skC30 : schk swC sTC 4000 41 scC30 [] [] = true := by decide +kernel
theorem skC31 : schk swC sTC 4000 41 scC31 [] [] = true := by decide +kernel
theorem skC32 : schk swC sTC 4000 41 scC32 [] [] = true := by decide +kernel
theorem skC33 : schk swC sTC 4000 41 scC33 [] [] = true := by decide +kernel
