/-! the law decoded, in pieces -/
set_option maxRecDepth 20000 in
theorem am_lk_896 : (List.range' 896 56).all am_lk = true := by decide +kernel
set_option maxRecDepth 20000 in
theorem am_lk_952 : (List.range' 952 56).all am_lk = true := by decide +kernel
set_option maxRecDepth 20000 in
theorem am_lk_1008 : (List.range' 1008 56).all am_lk = true := by decide +kernel
set_option maxRecDepth 20000 in
theorem am_lk_1064 : (List.range' 1064 56).all am_lk = true := by decide +kernel
set_option maxRecDepth 20000 in
theorem am_lk_1120 : (List.range' 1120 56).all am_lk = true := by decide +kernel
set_option maxRecDepth 20000 in
theorem am_lk_1176 : (List.range' 1176 56).all am_lk = true := by decide +kernel
set_option maxRecDepth 20000 in
theorem am_lk_1232 : (List.range' 1232 56).all am_lk = true := by decide +kernel
set_option maxRecDepth 20000 in
theorem am_lk_1288 : (List.range' 1288 56).all am_lk = true := by decide +kernel
