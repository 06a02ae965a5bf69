theorem mM_98 {j : Nat} : mM 98 j = false := rfl
