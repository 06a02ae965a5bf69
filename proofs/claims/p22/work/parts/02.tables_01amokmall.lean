set_option maxRecDepth 20000 in
theorem am_ini_in_0 : ∀ w ∈ (List.range 8).map (fun k => Cond.initialized (am_cn k)), w ∈ am_big := am_big_of (ps := [(0, 2), (0, 7), (0, 3), (0, 5), (0, 8), (0, 4), (0, 1), (0, 9)]) rfl rfl
theorem am_ini_in {k : Nat} (h : k < 8) : Cond.initialized (am_cn k) ∈ am_big := am_ini_in_0 _ (List.mem_map.mpr ⟨k, List.mem_range.mpr h, rfl⟩)
set_option maxRecDepth 20000 in
theorem am_mw_in : ∀ w ∈ [Cond.static Lib.Math.max.name, Cond.code Lib.Math.max.name Lib.Math.max.code 2 (some .int), Cond.static Lib.Math.min.name, Cond.code Lib.Math.min.name Lib.Math.min.code 2 (some .int), Cond.static Lib.Math.abs.name, Cond.code Lib.Math.abs.name Lib.Math.abs.code 1 (some .int), Cond.initialized "java/lang/Math"], w ∈ am_big := am_big_of (ps := [(0, 129), (0, 130), (2, 29), (2, 30), (2, 54), (2, 55), (0, 6)]) rfl rfl
set_option maxRecDepth 20000 in
theorem am_lay_in_0 : ∀ w ∈ wsX00, w ∈ am_big := am_big_of (ps := [(0, 65), (0, 67), (0, 69), (0, 71), (0, 73), (0, 75), (0, 77), (0, 79), (0, 81), (0, 83), (0, 85)]) rfl rfl
set_option maxRecDepth 20000 in
theorem am_lay_in_1 : ∀ w ∈ wsX10, w ∈ am_big := am_big_of (ps := [(0, 164), (0, 166)]) rfl rfl
set_option maxRecDepth 20000 in
theorem am_lay_in_2 : ∀ w ∈ wsX20, w ∈ am_big := am_big_of (ps := [(0, 103), (0, 105), (0, 107), (0, 109), (0, 111), (0, 113)]) rfl rfl
set_option maxRecDepth 20000 in
theorem am_lay_in_3 : ∀ w ∈ wsX30, w ∈ am_big := am_big_of (ps := [(0, 136), (0, 138)]) rfl rfl
set_option maxRecDepth 20000 in
theorem am_lay_in_4 : ∀ w ∈ wsX40, w ∈ am_big := am_big_of (ps := [(0, 182), (0, 184), (0, 186), (0, 188)]) rfl rfl
set_option maxRecDepth 20000 in
theorem am_lay_in_5 : ∀ w ∈ wsX50, w ∈ am_big := am_big_of (ps := [(0, 146), (0, 148)]) rfl rfl
set_option maxRecDepth 20000 in
theorem am_lay_in_6 : ∀ w ∈ wsX60, w ∈ am_big := am_big_of (ps := [(0, 208), (0, 210), (0, 212), (0, 214), (0, 216), (0, 218), (0, 220), (0, 222), (0, 224), (0, 226), (0, 228), (0, 230), (0, 232), (0, 234), (0, 236), (0, 238)]) rfl rfl
set_option maxRecDepth 20000 in
theorem am_lay_in_7 : ∀ w ∈ wsX70, w ∈ am_big := am_big_of (ps := [(3, 163), (3, 165), (3, 167), (3, 169), (3, 171), (3, 173), (3, 175), (3, 177), (3, 179), (3, 181), (3, 183), (3, 185), (3, 187), (3, 189), (3, 191), (3, 193), (3, 195), (3, 197), (3, 199), (3, 201), (3, 203), (3, 205), (3, 207), (3, 209), (3, 211), (3, 213), (3, 215), (3, 217), (3, 219), (3, 221), (3, 223), (3, 225), (3, 227), (3, 229), (3, 231), (3, 233), (3, 235), (3, 237), (3, 239), (4, 1), (4, 3), (4, 5), (4, 7)]) rfl rfl
theorem am_big_good : am_big.all goodWord = true := List.all_eq_true.mpr (fun _ h => (List.mem_filter.mp h).2)
theorem am_big_law : ∀ w ∈ am_big, w ∈ lw_tbl := by
  intro w hw
  have hw := (List.mem_filter.mp hw).1
  simp only [am_all, am_chunks, List.flatten_cons, List.flatten_nil, List.append_nil, List.mem_append] at hw
  simp only [lw_tbl, tables_1, k2_sels, lw_privs, List.map_append, List.mem_append]
  simp only [k2_sels] at hw
  rcases hw with hw | hw | hw | hw | hw | hw | hw | hw | hw | hw | hw
  all_goals simp only [hw, true_or, or_true]
def am_okm (q : am_MD) : Bool := decide (q.1.cls = am_cn q.2.2.2.2.1) && decide (q.1.cls ≠ "java/lang/invoke/MethodHandle") && decide (q.1.cls ≠ "java/lang/invoke/VarHandle") && plainName q.1.cls && decide (q.2.2.2.2.1 < 8) && ((parseMethodDescriptor q.1.desc).map (fun d => d.parameters.length) == some (if q.2.2.2.2.2.2.2.2 = true then q.2.2.2.2.2.1 else q.2.2.2.2.2.1 - 1)) && (q.2.2.2.2.2.2.2.2 || decide (0 < q.2.2.2.2.2.1))
set_option maxRecDepth 20000 in
theorem am_okm_all : am_mds.all am_okm = true := by decide +kernel
/-- the world behind the constructors: an object of kind c (tag c + 2; a field: 0 a number, k + 1 the cell k), a row of numbers (tag 0, its length), a row of cells (tag 1) -/
def am_sh : List (Nat × List Nat) := [(8, [2, 9, 16, 23, 30, 36, 45, 47, 49, 51, 53, 58, 63, 79, 80, 0]), (2, [0, 0, 0, 0, 0, 3, 4, 5, 6, 7, 8]), (0, [4]), (0, [4]), (0, [4]), (0, [4]), (0, [4]), (0, [4]), (2, [0, 0, 0, 0, 0, 10, 11, 12, 13, 14, 15]), (0, [4]), (0, [4]), (0, [4]), (0, [4]), (0, [4]), (0, [4]), (2, [0, 0, 0, 0, 0, 17, 18, 19, 20, 21, 22]), (0, [4]), (0, [4]), (0, [4]), (0, [4]), (0, [4]), (0, [4]), (2, [0, 0, 0, 0, 0, 24, 25, 26, 27, 28, 29]), (0, [4]), (0, [4]), (0, [4]), (0, [4]), (0, [4]), (0, [4]), (4, [0, 31, 32, 33, 34, 35]), (0, [4]), (0, [4]), (0, [4]), (0, [4]), (0, [4]), (7, [37, 39]), (5, [38, 0]), (0, [96]), (4, [0, 40, 41, 42, 43, 44]), (0, [4]), (0, [4]), (0, [4]), (0, [4]), (0, [4]), (5, [46, 0]), (0, [12]), (5, [48, 0]), (0, [6]), (5, [50, 0]), (0, [6]), (5, [52, 0]), (0, [6]), (3, [54, 56]), (5, [55, 0]), (0, [4]), (5, [57, 0]), (0, [4]), (3, [59, 61]), (5, [60, 0]), (0, [4]), (5, [62, 0]), (0, [4]), (6, [64, 71, 78, 0]), (1, [64, 65, 66, 67, 68, 69]), (0, [4]), (0, [4]), (0, [4]), (0, [4]), (0, [4]), (0, [4]), (1, [71, 72, 73, 74, 75, 76]), (0, [4]), (0, [4]), (0, [4]), (0, [4]), (0, [4]), (0, [4]), (0, [6]), (0, [7]), (1, [80, 81, 82]), (0, [20]), (0, [20]), (0, [20]), (9, [85, 86, 87, 88, 89, 90, 91, 92, 93, 94, 0, 0, 0, 0, 0, 0, 0, 95, 96, 97, 98, 0, 0, 0, 99, 0, 0, 0, 100, 101, 102, 103, 104, 0, 105, 0, 0, 0, 0, 106, 0, 107, 0]), (0, [7]), (0, [4]), (0, [4]), (0, [4]), (0, [4]), (0, [4]), (0, [4]), (0, [6]), (0, [4]), (0, [4]), (0, [96]), (0, [48]), (0, [48]), (0, [240]), (0, [120]), (0, [4]), (0, [4]), (0, [24]), (0, [24]), (0, [6]), (0, [4]), (0, [6]), (0, [12])]
