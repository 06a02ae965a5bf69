set_option maxRecDepth 20000 in
theorem am_ini_in_0 : ∀ w ∈ (List.range 8).map (fun k => Cond.initialized (am_cn k)), w ∈ am_big := am_big_of (ps := [(0, 2), (0, 7), (0, 3), (0, 5), (0, 8), (0, 4), (0, 1), (0, 9)]) rfl (by decide +kernel)
theorem am_ini_in {k : Nat} (h : k < 8) : Cond.initialized (am_cn k) ∈ am_big := am_ini_in_0 _ (List.mem_map.mpr ⟨k, List.mem_range.mpr h, rfl⟩)
set_option maxRecDepth 20000 in
theorem am_mw_in : ∀ w ∈ [Cond.static Lib.Math.max.name, Cond.code Lib.Math.max.name Lib.Math.max.code 2 (some .int), Cond.static Lib.Math.min.name, Cond.code Lib.Math.min.name Lib.Math.min.code 2 (some .int), Cond.static Lib.Math.abs.name, Cond.code Lib.Math.abs.name Lib.Math.abs.code 1 (some .int), Cond.initialized "java/lang/Math"], w ∈ am_big := am_big_of (ps := [(0, 129), (0, 130), (2, 29), (2, 30), (2, 54), (2, 55), (0, 6)]) rfl (by decide +kernel)
set_option maxRecDepth 20000 in
theorem am_lay_in_0 : ∀ w ∈ wsX00, w ∈ am_big := am_big_of (ps := [(0, 65), (0, 67), (0, 69), (0, 71), (0, 73), (0, 75), (0, 77), (0, 79), (0, 81), (0, 83), (0, 85)]) rfl (by decide +kernel)
set_option maxRecDepth 20000 in
theorem am_lay_in_1 : ∀ w ∈ wsX10, w ∈ am_big := am_big_of (ps := [(0, 164), (0, 166)]) rfl (by decide +kernel)
set_option maxRecDepth 20000 in
theorem am_lay_in_2 : ∀ w ∈ wsX20, w ∈ am_big := am_big_of (ps := [(0, 103), (0, 105), (0, 107), (0, 109), (0, 111), (0, 113)]) rfl (by decide +kernel)
set_option maxRecDepth 20000 in
theorem am_lay_in_3 : ∀ w ∈ wsX30, w ∈ am_big := am_big_of (ps := [(0, 136), (0, 138)]) rfl (by decide +kernel)
set_option maxRecDepth 20000 in
theorem am_lay_in_4 : ∀ w ∈ wsX40, w ∈ am_big := am_big_of (ps := [(0, 182), (0, 184), (0, 186), (0, 188)]) rfl (by decide +kernel)
set_option maxRecDepth 20000 in
theorem am_lay_in_5 : ∀ w ∈ wsX50, w ∈ am_big := am_big_of (ps := [(0, 146), (0, 148)]) rfl (by decide +kernel)
set_option maxRecDepth 20000 in
theorem am_lay_in_6 : ∀ w ∈ wsX60, w ∈ am_big := am_big_of (ps := [(0, 208), (0, 210), (0, 212), (0, 214), (0, 216), (0, 218), (0, 220), (0, 222), (0, 224), (0, 226), (0, 228), (0, 230), (0, 232), (0, 234), (0, 236), (0, 238)]) rfl (by decide +kernel)
set_option maxRecDepth 20000 in
theorem am_lay_in_7 : ∀ w ∈ wsX70, w ∈ am_big := am_big_of (ps := [(3, 163), (3, 165), (3, 167), (3, 169), (3, 171), (3, 173), (3, 175), (3, 177), (3, 179), (3, 181), (3, 183), (3, 185), (3, 187), (3, 189), (3, 191), (3, 193), (3, 195), (3, 197), (3, 199), (3, 201), (3, 203), (3, 205), (3, 207), (3, 209), (3, 211), (3, 213), (3, 215), (3, 217), (3, 219), (3, 221), (3, 223), (3, 225), (3, 227), (3, 229), (3, 231), (3, 233), (3, 235), (3, 237), (3, 239), (4, 1), (4, 3), (4, 5), (4, 7)]) rfl (by decide +kernel)
