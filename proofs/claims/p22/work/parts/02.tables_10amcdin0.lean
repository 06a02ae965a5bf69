set_option maxRecDepth 20000 in
theorem am_ma_in_0 : ∀ w ∈ am_ma.map am_maw, w ∈ am_big := am_big_of (ps := [(0, 128), (1, 208), (2, 28), (2, 53), (2, 47), (2, 48), (3, 95)]) rfl rfl
theorem am_ma_in : ∀ f ∈ am_ma, am_maw f ∈ am_big := fun f hf => am_ma_in_0 _ (List.mem_map.mpr ⟨f, hf, rfl⟩)
set_option maxRecDepth 20000 in
theorem am_co_in_0 : ∀ w ∈ am_co.map am_cow, w ∈ am_big := am_big_of (ps := [(2, 121), (5, 28), (2, 186), (2, 187), (2, 188), (5, 206), (5, 207), (5, 208)]) rfl rfl
theorem am_co_in : ∀ f ∈ am_co, am_cow f ∈ am_big := fun f hf => am_co_in_0 _ (List.mem_map.mpr ⟨f, hf, rfl⟩)
set_option maxRecDepth 20000 in
theorem am_cl_in_0 : ∀ w ∈ am_cl.map am_clw, w ∈ am_big := am_big_of (ps := [(1, 196), (1, 228), (4, 158), (2, 230), (5, 88), (3, 3), (5, 101)]) rfl rfl
theorem am_cl_in : ∀ f ∈ am_cl, am_clw f ∈ am_big := fun f hf => am_cl_in_0 _ (List.mem_map.mpr ⟨f, hf, rfl⟩)
def am_virt (q : am_MD) : Bool := !q.2.2.2.2.2.2.2.2
set_option maxRecDepth 20000 in
theorem am_cd_in_0 : ∀ w ∈ am_mds_0.map am_cdw, w ∈ am_big := am_big_of (ps := [(1, 84), (1, 25), (2, 52), (1, 29), (1, 33), (1, 161), (1, 165), (1, 96), (2, 67), (1, 100), (1, 125), (1, 121), (2, 92), (3, 113), (1, 236), (3, 52), (3, 61), (3, 100), (2, 105), (2, 111), (1, 203), (1, 207), (1, 224), (1, 212), (1, 216), (1, 220), (2, 25), (2, 4), (2, 8), (2, 0), (2, 17), (2, 184), (1, 92), (1, 88), (1, 113), (1, 104), (1, 108), (1, 117), (2, 21), (1, 187)]) rfl rfl
