theorem nw_go_same {ad ad' : Nat → Nat} {ca ca' : Nat → ClassId} {n : Nat} (ha : ∀ j, j < n → ad j = ad' j) (hc : ∀ j, j < n → ca j = ca' j) : ∀ (l : List (Nat × List Nat)) (k : Nat), k + l.length ≤ n → l.all (nw_okq n) = true → nw_go ad ca k l = nw_go ad' ca' k l
  | [], _, _, _ => rfl
  | q :: r, k, h, ho => by
    have h1 : k + (r.length + 1) ≤ n := h
    have h2 := List.all_eq_true.mp ho
    show (ad k, nw_ce ad ca k q (nw_μ k)) :: nw_go ad ca (k + 1) r = (ad' k, nw_ce ad' ca' k q (nw_μ k)) :: nw_go ad' ca' (k + 1) r
    rw [ha k (by omega), nw_ce_same ha (hc k (by omega)) (h2 q List.mem_cons_self), nw_go_same ha hc r (k + 1) (by omega) (List.all_eq_true.mpr (fun x hx => h2 x (List.mem_cons_of_mem _ hx)))]
