/-! the first of the least -/
/-- the order hangs on the takes of those who run -/
theorem fp_od_i2 {t u : Nat → Int} {n : Int} {p : Nat} (hn : n ≤ 4) (hp : (p : Int) < n) (h : ∀ q : Nat, (q : Int) < n → t q = u q) : fp_od t n (p : Int) = fp_od u n (p : Int) := by
  obtain ⟨i, hi, hc⟩ := am_cnt_s t (m := n.toNat) (by omega) p (by omega)
  have e : am_cnt t i n.toNat = am_cnt u i n.toNat := am_cnt_t (n := n.toNat) hi (fun j hj => h j (by omega)) _ (Nat.le_refl _)
  rw [fp_od_i hn (by omega) hc, fp_od_i hn (by omega) (e ▸ hc)]
