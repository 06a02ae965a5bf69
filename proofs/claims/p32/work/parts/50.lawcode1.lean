/-! the law decoded, in pieces -/
set_option maxRecDepth 20000 in
theorem am_lk_0 : (List.range' 0 56).all am_lk = true := by decide +kernel
set_option maxRecDepth 20000 in
theorem am_lk_56 : (List.range' 56 56).all am_lk = true := by decide +kernel
set_option maxRecDepth 20000 in
theorem am_lk_112 : (List.range' 112 56).all am_lk = true := by decide +kernel
set_option maxRecDepth 20000 in
theorem am_lk_168 : (List.range' 168 56).all am_lk = true := by decide +kernel
set_option maxRecDepth 20000 in
theorem am_lk_224 : (List.range' 224 56).all am_lk = true := by decide +kernel
set_option maxRecDepth 20000 in
theorem am_lk_280 : (List.range' 280 56).all am_lk = true := by decide +kernel
set_option maxRecDepth 20000 in
theorem am_lk_336 : (List.range' 336 56).all am_lk = true := by decide +kernel
set_option maxRecDepth 20000 in
theorem am_lk_392 : (List.range' 392 56).all am_lk = true := by decide +kernel
