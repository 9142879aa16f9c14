/-! the right sides, by the kernel (wip/p32/floatgen.py) -/
theorem chkR_0 : allB 4 (fun w => n64 (FP.ddiv (dN 2) (dN (w + 1))) && allB 129 (fun t => chkR (FP.ddiv (dN 2) (dN (w + 1))) 2 (w + 1) t)) = true := by decide +kernel
theorem chkR_1 : allB 4 (fun w => n64 (FP.ddiv (dN 3) (dN (w + 1))) && allB 129 (fun t => chkR (FP.ddiv (dN 3) (dN (w + 1))) 3 (w + 1) t)) = true := by decide +kernel
theorem chkR_2 : allB 4 (fun w => n64 (FP.ddiv (dN 4) (dN (w + 1))) && allB 129 (fun t => chkR (FP.ddiv (dN 4) (dN (w + 1))) 4 (w + 1) t)) = true := by decide +kernel
theorem chkR_3 : allB 4 (fun w => n64 (FP.ddiv (dN 5) (dN (w + 1))) && allB 129 (fun t => chkR (FP.ddiv (dN 5) (dN (w + 1))) 5 (w + 1) t)) = true := by decide +kernel
theorem chkR_4 : allB 4 (fun w => n64 (FP.ddiv (dN 6) (dN (w + 1))) && allB 129 (fun t => chkR (FP.ddiv (dN 6) (dN (w + 1))) 6 (w + 1) t)) = true := by decide +kernel
theorem chkR_5 : allB 4 (fun w => n64 (FP.ddiv (dN 7) (dN (w + 1))) && allB 129 (fun t => chkR (FP.ddiv (dN 7) (dN (w + 1))) 7 (w + 1) t)) = true := by decide +kernel
theorem chkR_6 : allB 4 (fun w => n64 (FP.ddiv (dN 8) (dN (w + 1))) && allB 129 (fun t => chkR (FP.ddiv (dN 8) (dN (w + 1))) 8 (w + 1) t)) = true := by decide +kernel
theorem chkR_7 : allB 4 (fun w => n64 (FP.ddiv (dN 9) (dN (w + 1))) && allB 129 (fun t => chkR (FP.ddiv (dN 9) (dN (w + 1))) 9 (w + 1) t)) = true := by decide +kernel
theorem chkR_8 : allB 4 (fun w => n64 (FP.ddiv (dN 10) (dN (w + 1))) && allB 129 (fun t => chkR (FP.ddiv (dN 10) (dN (w + 1))) 10 (w + 1) t)) = true := by decide +kernel
theorem chkR_9 : allB 4 (fun w => n64 (FP.ddiv (dN 11) (dN (w + 1))) && allB 129 (fun t => chkR (FP.ddiv (dN 11) (dN (w + 1))) 11 (w + 1) t)) = true := by decide +kernel
theorem chkR_10 : allB 4 (fun w => n64 (FP.ddiv (dN 12) (dN (w + 1))) && allB 129 (fun t => chkR (FP.ddiv (dN 12) (dN (w + 1))) 12 (w + 1) t)) = true := by decide +kernel
theorem chkR_11 : allB 4 (fun w => n64 (FP.ddiv (dN 13) (dN (w + 1))) && allB 129 (fun t => chkR (FP.ddiv (dN 13) (dN (w + 1))) 13 (w + 1) t)) = true := by decide +kernel
theorem chkR_12 : allB 4 (fun w => n64 (FP.ddiv (dN 14) (dN (w + 1))) && allB 129 (fun t => chkR (FP.ddiv (dN 14) (dN (w + 1))) 14 (w + 1) t)) = true := by decide +kernel
theorem chkR_13 : allB 4 (fun w => n64 (FP.ddiv (dN 15) (dN (w + 1))) && allB 129 (fun t => chkR (FP.ddiv (dN 15) (dN (w + 1))) 15 (w + 1) t)) = true := by decide +kernel
theorem chkR_14 : allB 4 (fun w => n64 (FP.ddiv (dN 16) (dN (w + 1))) && allB 129 (fun t => chkR (FP.ddiv (dN 16) (dN (w + 1))) 16 (w + 1) t)) = true := by decide +kernel
theorem chkR_15 : allB 4 (fun w => n64 (FP.ddiv (dN 17) (dN (w + 1))) && allB 129 (fun t => chkR (FP.ddiv (dN 17) (dN (w + 1))) 17 (w + 1) t)) = true := by decide +kernel
