theorem chk_172 : (List.range' 172 8).all chkM = true := by decide +kernel
theorem chk_180 : (List.range' 180 5).all chkM = true := by decide +kernel
theorem chk_185 : (List.range' 185 9).all chkM = true := by decide +kernel
theorem chk_194 : (List.range' 194 18).all chkM = true := by decide +kernel
theorem chk_212 : (List.range' 212 2).all chkM = true := by decide +kernel
