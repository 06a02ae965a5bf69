/-! the law decoded, in pieces -/
set_option maxRecDepth 20000 in
theorem am_lk_1344 : (List.range' 1344 56).all am_lk = true := by decide +kernel
set_option maxRecDepth 20000 in
theorem am_lk_1400 : (List.range' 1400 56).all am_lk = true := by decide +kernel
set_option maxRecDepth 20000 in
theorem am_lk_1456 : (List.range' 1456 56).all am_lk = true := by decide +kernel
set_option maxRecDepth 20000 in
theorem am_lk_1512 : (List.range' 1512 56).all am_lk = true := by decide +kernel
set_option maxRecDepth 20000 in
theorem am_lk_1568 : (List.range' 1568 56).all am_lk = true := by decide +kernel
set_option maxRecDepth 20000 in
theorem am_lk_1624 : (List.range' 1624 46).all am_lk = true := by decide +kernel
