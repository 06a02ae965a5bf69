def nw_okq (n : Nat) (q : Nat × List Nat) : Bool := match q.1 with
  | 0 => true
  | 1 => q.2.all (fun c => Nat.blt c n)
  | _ => q.2.all (fun c => Nat.ble c n)
theorem nw_ce_same {ad ad' : Nat → Nat} {ca ca' : Nat → ClassId} {n k : Nat} (ha : ∀ j, j < n → ad j = ad' j) (hc : ca k = ca' k) {q : Nat × List Nat} (hq : nw_okq n q = true) (f : Nat → Int) : nw_ce ad ca k q f = nw_ce ad' ca' k q f := by
  obtain ⟨t, fs⟩ := q
  match t, hq with
  | 0, _ => show (Sum.inl (ca k, fs.headD 0, Sum.inl (fun j => Int32.ofInt (f j))) : va_E) = _; rw [hc]; rfl
  | 1, hq =>
    have e : fs.map ad = fs.map ad' := List.map_congr_left (fun c h => ha c (Nat.le_of_ble_eq_true (List.all_eq_true.mp hq c h)))
    show (Sum.inl (ca k, fs.length, Sum.inr (Sum.inr (Sum.inr (Sum.inr (fun i => (fs.map ad)[i]?))))) : va_E) = _
    rw [hc, e]; rfl
  | c + 2, hq =>
    have e : nw_mi ad f 0 fs = nw_mi ad' f 0 fs := by
      apply List.ext_getElem?
      intro i
      rw [nw_mi_at, nw_mi_at]
      cases h : fs[i]? with
      | none => rfl
      | some w =>
        have hw : w ≤ n := Nat.le_of_ble_eq_true (List.all_eq_true.mp hq w (List.mem_of_getElem? h))
        cases w with
        | zero => rfl
        | succ w =>
          show some (Value.ref (ad w)) = some (Value.ref (ad' w))
          rw [ha w (by omega)]
    show (Sum.inr (c, nw_mi ad f 0 fs) : va_E) = _
    rw [e]; rfl
