set_option maxRecDepth 20000 in
theorem am_ma_in_0 : ∀ w ∈ am_ma.map am_maw, w ∈ am_big := am_big_of (ps := [(0, 128), (1, 208), (2, 28), (2, 53), (2, 47), (2, 48), (3, 95)]) rfl (by decide +kernel)
theorem am_ma_in : ∀ f ∈ am_ma, am_maw f ∈ am_big := fun f hf => am_ma_in_0 _ (List.mem_map.mpr ⟨f, hf, rfl⟩)
set_option maxRecDepth 20000 in
theorem am_co_in_0 : ∀ w ∈ am_co.map am_cow, w ∈ am_big := am_big_of (ps := [(2, 121), (5, 28), (2, 186), (2, 187), (2, 188), (5, 206), (5, 207), (5, 208)]) rfl (by decide +kernel)
theorem am_co_in : ∀ f ∈ am_co, am_cow f ∈ am_big := fun f hf => am_co_in_0 _ (List.mem_map.mpr ⟨f, hf, rfl⟩)
set_option maxRecDepth 20000 in
theorem am_cl_in_0 : ∀ w ∈ am_cl.map am_clw, w ∈ am_big := am_big_of (ps := [(1, 196), (1, 228), (4, 158), (2, 230), (5, 88), (3, 3), (5, 101)]) rfl (by decide +kernel)
theorem am_cl_in : ∀ f ∈ am_cl, am_clw f ∈ am_big := fun f hf => am_cl_in_0 _ (List.mem_map.mpr ⟨f, hf, rfl⟩)
def am_virt (q : am_MD) : Bool := !q.2.2.2.2.2.2.2.2
set_option maxRecDepth 20000 in
theorem am_cd_in_0 : ∀ w ∈ am_mds_0.map am_cdw, w ∈ am_big := am_big_of (ps := [(1, 84), (1, 25), (2, 52), (1, 29), (1, 33), (1, 161), (1, 165), (1, 96), (2, 67), (1, 100), (1, 125), (1, 121), (2, 92), (3, 113), (1, 236), (3, 52), (3, 61), (3, 100), (2, 105), (2, 111), (1, 203), (1, 207), (1, 224), (1, 212), (1, 216), (1, 220), (2, 25), (2, 4), (2, 8), (2, 0), (2, 17), (2, 184), (1, 92), (1, 88), (1, 113), (1, 104), (1, 108), (1, 117), (2, 21), (1, 187)]) rfl (by decide +kernel)
set_option maxRecDepth 20000 in
theorem am_cd_in_1 : ∀ w ∈ am_mds_1.map am_cdw, w ∈ am_big := am_big_of (ps := [(1, 12), (1, 16), (1, 49), (1, 129), (3, 94), (1, 173), (1, 177), (2, 197), (1, 133), (1, 37), (1, 41), (1, 45), (1, 52), (1, 56), (1, 72), (1, 60), (1, 64), (1, 68), (1, 76), (1, 80), (1, 4), (1, 21), (1, 137), (1, 143), (1, 147), (1, 151), (1, 169), (1, 182), (1, 191), (1, 232), (2, 13), (2, 34), (2, 38), (2, 59), (2, 76), (2, 80), (2, 88), (2, 96), (2, 116), (2, 129)]) rfl (by decide +kernel)
set_option maxRecDepth 20000 in
theorem am_cd_in_2 : ∀ w ∈ am_mds_2.map am_cdw, w ∈ am_big := am_big_of (ps := [(2, 137), (2, 141), (2, 150), (2, 154), (2, 163), (2, 168), (2, 172), (2, 176), (2, 180), (2, 193), (2, 201), (2, 205), (2, 209), (2, 217), (2, 225), (2, 234), (2, 238), (3, 7), (3, 12), (3, 20), (3, 28), (3, 44), (3, 48), (3, 57), (3, 66), (3, 70), (3, 74), (3, 78), (3, 86), (3, 90), (3, 105), (3, 109), (1, 8), (2, 120), (1, 195), (1, 199), (2, 42), (1, 227), (1, 154), (1, 157)]) rfl (by decide +kernel)
set_option maxRecDepth 20000 in
theorem am_cd_in_3 : ∀ w ∈ am_mds_3.map am_cdw, w ∈ am_big := am_big_of (ps := [(2, 46), (2, 221), (2, 63), (2, 71), (2, 84), (2, 125), (2, 100), (2, 133), (2, 145), (2, 158), (2, 213), (2, 229), (3, 2), (3, 16), (3, 24), (3, 32), (3, 36), (3, 40), (3, 82), (4, 20), (5, 27), (4, 157), (4, 43), (4, 16), (4, 94), (4, 71), (4, 212), (4, 13), (4, 32), (4, 40), (4, 47), (4, 36), (4, 28), (4, 67), (4, 63), (4, 24), (4, 55), (4, 59), (4, 51), (4, 109)]) rfl (by decide +kernel)
set_option maxRecDepth 20000 in
theorem am_cd_in_4 : ∀ w ∈ am_mds_4.map am_cdw, w ∈ am_big := am_big_of (ps := [(4, 113), (4, 91), (4, 87), (4, 83), (4, 98), (4, 79), (4, 174), (4, 170), (4, 166), (4, 105), (4, 102), (4, 75), (4, 117), (4, 121), (4, 125), (4, 129), (4, 133), (4, 149), (4, 137), (4, 141), (4, 145), (4, 162), (4, 196), (4, 180), (4, 177), (4, 153), (4, 188), (4, 184), (4, 200), (4, 192), (4, 204), (4, 223), (4, 220), (4, 216), (4, 208), (4, 231), (4, 227), (4, 235), (5, 3), (4, 239)]) rfl (by decide +kernel)
set_option maxRecDepth 20000 in
theorem am_cd_in_5 : ∀ w ∈ am_mds_5.map am_cdw, w ∈ am_big := am_big_of (ps := [(5, 11), (5, 7), (5, 19), (5, 15), (5, 23), (5, 36), (5, 32), (5, 40), (5, 48), (5, 44), (5, 52), (5, 56), (5, 60), (5, 64), (5, 72), (5, 68), (5, 76), (5, 87), (5, 84), (5, 80), (5, 92), (5, 100), (5, 96), (5, 105), (5, 113), (5, 109), (5, 121), (5, 117), (5, 129), (5, 133), (5, 125), (5, 137), (5, 141), (5, 145), (5, 161), (5, 157), (5, 153), (5, 149), (5, 165), (5, 169)]) rfl (by decide +kernel)
set_option maxRecDepth 20000 in
theorem am_cd_in_6 : ∀ w ∈ am_mds_6.map am_cdw, w ∈ am_big := am_big_of (ps := [(5, 173), (5, 181), (5, 177), (5, 185), (5, 193), (5, 189), (5, 197), (5, 201), (5, 205), (5, 212)]) rfl (by decide +kernel)
theorem am_cd_in : ∀ f ∈ am_mds, am_cdw f ∈ am_big := by
  intro f hf
  simp only [am_mds, List.mem_append] at hf
  rcases hf with ((((((hf | hf) | hf) | hf) | hf) | hf) | hf)
  · exact am_cd_in_0 _ (List.mem_map.mpr ⟨f, hf, rfl⟩)
  · exact am_cd_in_1 _ (List.mem_map.mpr ⟨f, hf, rfl⟩)
  · exact am_cd_in_2 _ (List.mem_map.mpr ⟨f, hf, rfl⟩)
  · exact am_cd_in_3 _ (List.mem_map.mpr ⟨f, hf, rfl⟩)
  · exact am_cd_in_4 _ (List.mem_map.mpr ⟨f, hf, rfl⟩)
  · exact am_cd_in_5 _ (List.mem_map.mpr ⟨f, hf, rfl⟩)
  · exact am_cd_in_6 _ (List.mem_map.mpr ⟨f, hf, rfl⟩)
