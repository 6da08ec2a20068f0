theorem chk_115 : (List.range' 115 8).all chkM = true := by decide +kernel
theorem chk_123 : (List.range' 123 6).all chkM = true := by decide +kernel
theorem chk_129 : (List.range' 129 5).all chkM = true := by decide +kernel
theorem chk_134 : (List.range' 134 11).all chkM = true := by decide +kernel
