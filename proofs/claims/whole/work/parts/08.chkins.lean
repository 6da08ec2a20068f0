theorem chk_60 : (List.range' 60 17).all chkM = true := by decide +kernel
theorem chk_77 : (List.range' 77 15).all chkM = true := by decide +kernel
theorem chk_92 : (List.range' 92 13).all chkM = true := by decide +kernel
theorem chk_105 : (List.range' 105 10).all chkM = true := by decide +kernel
