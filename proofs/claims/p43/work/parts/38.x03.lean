theorem xtCh35 : schk swC sT0 4000 28 (stCh 700) [] [] = true := by decide +kernel
theorem xtMh35 : schk swM sT0 4000 194 (stMh 700) [] [] = true := by decide +kernel
