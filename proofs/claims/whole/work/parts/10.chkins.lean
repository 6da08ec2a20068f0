theorem chk_145 : (List.range' 145 10).all chkM = true := by decide +kernel
theorem chk_155 : (List.range' 155 7).all chkM = true := by decide +kernel
theorem chk_162 : (List.range' 162 2).all chkM = true := by decide +kernel
theorem chk_164 : (List.range' 164 8).all chkM = true := by decide +kernel
