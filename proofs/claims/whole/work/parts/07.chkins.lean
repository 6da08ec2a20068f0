theorem chk_0 : (List.range' 0 10).all chkM = true := by decide +kernel
theorem chk_10 : (List.range' 10 10).all chkM = true := by decide +kernel
theorem chk_20 : (List.range' 20 21).all chkM = true := by decide +kernel
theorem chk_41 : (List.range' 41 19).all chkM = true := by decide +kernel
