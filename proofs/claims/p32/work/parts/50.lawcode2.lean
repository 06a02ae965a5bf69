/-! the law decoded, in pieces -/
set_option maxRecDepth 20000 in
theorem am_lk_448 : (List.range' 448 56).all am_lk = true := by decide +kernel
set_option maxRecDepth 20000 in
theorem am_lk_504 : (List.range' 504 56).all am_lk = true := by decide +kernel
set_option maxRecDepth 20000 in
theorem am_lk_560 : (List.range' 560 56).all am_lk = true := by decide +kernel
set_option maxRecDepth 20000 in
theorem am_lk_616 : (List.range' 616 56).all am_lk = true := by decide +kernel
set_option maxRecDepth 20000 in
theorem am_lk_672 : (List.range' 672 56).all am_lk = true := by decide +kernel
set_option maxRecDepth 20000 in
theorem am_lk_728 : (List.range' 728 56).all am_lk = true := by decide +kernel
set_option maxRecDepth 20000 in
theorem am_lk_784 : (List.range' 784 56).all am_lk = true := by decide +kernel
set_option maxRecDepth 20000 in
theorem am_lk_840 : (List.range' 840 56).all am_lk = true := by decide +kernel
