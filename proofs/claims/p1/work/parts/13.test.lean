theorem ztest1 : zrun false true (fun _ => false) (zno false) 100000 8 17 [.ref 0] (znew zh00 (0, 5)) (fun r h => h.1.length == 2) = false := by decide +kernel
theorem ztest2 : zrun false true (fun _ => false) (zno false) 100000 8 17 [.ref 0, .int 5, .int 2] (znew zh00 (0, 5)) (fun r h => h.1.length == 2) = true := by decide +kernel
theorem ztest3 : zrun false true (fun _ => false) (zno false) 100000 8 3 [.ref 0] (znew zh00 (0, 2)) (fun r h => decide (h.2.1 1 3 = 538738688)) = true := by decide +kernel
