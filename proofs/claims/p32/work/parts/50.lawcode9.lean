/-! the law decoded -/
theorem am_oL_law : am_ok 0 am_kL_law := am_ok_lk (N := 1670) (fun pc h => by
  by_cases h0 : pc < 56
  · exact am_lk_of am_lk_0 pc (by omega) (by omega)
  by_cases h56 : pc < 112
  · exact am_lk_of am_lk_56 pc (by omega) (by omega)
  by_cases h112 : pc < 168
  · exact am_lk_of am_lk_112 pc (by omega) (by omega)
  by_cases h168 : pc < 224
  · exact am_lk_of am_lk_168 pc (by omega) (by omega)
  by_cases h224 : pc < 280
  · exact am_lk_of am_lk_224 pc (by omega) (by omega)
  by_cases h280 : pc < 336
  · exact am_lk_of am_lk_280 pc (by omega) (by omega)
  by_cases h336 : pc < 392
  · exact am_lk_of am_lk_336 pc (by omega) (by omega)
  by_cases h392 : pc < 448
  · exact am_lk_of am_lk_392 pc (by omega) (by omega)
  by_cases h448 : pc < 504
  · exact am_lk_of am_lk_448 pc (by omega) (by omega)
  by_cases h504 : pc < 560
  · exact am_lk_of am_lk_504 pc (by omega) (by omega)
  by_cases h560 : pc < 616
  · exact am_lk_of am_lk_560 pc (by omega) (by omega)
  by_cases h616 : pc < 672
  · exact am_lk_of am_lk_616 pc (by omega) (by omega)
  by_cases h672 : pc < 728
  · exact am_lk_of am_lk_672 pc (by omega) (by omega)
  by_cases h728 : pc < 784
  · exact am_lk_of am_lk_728 pc (by omega) (by omega)
  by_cases h784 : pc < 840
  · exact am_lk_of am_lk_784 pc (by omega) (by omega)
  by_cases h840 : pc < 896
  · exact am_lk_of am_lk_840 pc (by omega) (by omega)
  by_cases h896 : pc < 952
  · exact am_lk_of am_lk_896 pc (by omega) (by omega)
  by_cases h952 : pc < 1008
  · exact am_lk_of am_lk_952 pc (by omega) (by omega)
  by_cases h1008 : pc < 1064
  · exact am_lk_of am_lk_1008 pc (by omega) (by omega)
  by_cases h1064 : pc < 1120
  · exact am_lk_of am_lk_1064 pc (by omega) (by omega)
  by_cases h1120 : pc < 1176
  · exact am_lk_of am_lk_1120 pc (by omega) (by omega)
  by_cases h1176 : pc < 1232
  · exact am_lk_of am_lk_1176 pc (by omega) (by omega)
  by_cases h1232 : pc < 1288
  · exact am_lk_of am_lk_1232 pc (by omega) (by omega)
  by_cases h1288 : pc < 1344
  · exact am_lk_of am_lk_1288 pc (by omega) (by omega)
  by_cases h1344 : pc < 1400
  · exact am_lk_of am_lk_1344 pc (by omega) (by omega)
  by_cases h1400 : pc < 1456
  · exact am_lk_of am_lk_1400 pc (by omega) (by omega)
  by_cases h1456 : pc < 1512
  · exact am_lk_of am_lk_1456 pc (by omega) (by omega)
  by_cases h1512 : pc < 1568
  · exact am_lk_of am_lk_1512 pc (by omega) (by omega)
  by_cases h1568 : pc < 1624
  · exact am_lk_of am_lk_1568 pc (by omega) (by omega)
  exact am_lk_of am_lk_1624 pc (by omega) (by omega))
