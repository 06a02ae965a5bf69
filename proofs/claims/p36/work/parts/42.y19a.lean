/-! a fraction in lowest terms -/
theorem fp_dR {z : Int} (h1 : -1000000000000 ≤ z) (h2 : z ≤ 1000000000000) : am_d z = z := by
  unfold am_d; omega
/-- what a comparison of longs tells -/
theorem fp_lcv (u v : Int) : (v < u ∧ am_c (if v < u then 1 else if u = v then 0 else -1) = 1) ∨ (u = v ∧ am_c (if v < u then 1 else if u = v then 0 else -1) = 0) ∨ (u < v ∧ am_c (if v < u then 1 else if u = v then 0 else -1) = -1) := by
  by_cases h : v < u
  · rw [if_pos h]; exact Or.inl ⟨h, rfl⟩
  · rw [if_neg h]
    by_cases g : u = v
    · rw [if_pos g]; exact Or.inr (Or.inl ⟨g, rfl⟩)
    · rw [if_neg g]; exact Or.inr (Or.inr ⟨by omega, rfl⟩)
def fp_gd (a b : Int) : Int := ((Nat.gcd a.toNat b.toNat : Nat) : Int)
theorem fp_gd_p {a b : Int} (hb : 0 < b) : 0 < fp_gd a b := by
  have h := Nat.gcd_pos_of_pos_right a.toNat (show 0 < b.toNat by omega)
  unfold fp_gd
  omega
theorem fp_gd_l {a b : Int} (hb : 0 < b) : fp_gd a b ≤ b := by
  have h := Nat.le_of_dvd (show 0 < b.toNat by omega) (Nat.gcd_dvd_right a.toNat b.toNat)
  unfold fp_gd
  omega
/-- the part w of a fraction -/
def fp_fr (a b w : Int) : Int := if w = 0 then a.tdiv (fp_gd a b) else b.tdiv (fp_gd a b)
theorem fp_gd_s {x y : Int} (hx : 0 ≤ x) (hy : 0 < y) : fp_gd y (x.tmod y) = fp_gd x y ∧ 0 ≤ x.tmod y ∧ x.tmod y < y := by
  have e : x.tmod y = x % y := Int.tmod_eq_emod_of_nonneg hx
  have e2 : (x % y).toNat = x.toNat % y.toNat := Int.toNat_emod hx (by omega)
  have b0 := Int.emod_nonneg x (show y ≠ 0 by omega)
  have b1 := Int.emod_lt_of_pos x hy
  rw [e]
  refine ⟨?_, b0, b1⟩
  unfold fp_gd
  rw [e2, Nat.gcd_comm x.toNat, Nat.gcd_rec y.toNat x.toNat, Nat.gcd_comm]
theorem fp_gd_0 {x : Int} (hx : 0 ≤ x) : fp_gd x 0 = x := by
  unfold fp_gd
  rw [show (0 : Int).toNat = 0 from rfl, Nat.gcd_zero_right]
  exact Int.toNat_of_nonneg hx
/-- halved: the fraction is the same -/
theorem fp_hv {x y A g : Int} (hx : 0 ≤ x) (hy : 0 ≤ y) (h : (2 * x) * g = A * fp_gd (2 * x) (2 * y)) : x * g = A * fp_gd x y := by
  have e : fp_gd (2 * x) (2 * y) = 2 * fp_gd x y := by
    unfold fp_gd
    rw [show (2 * x).toNat = 2 * x.toNat by omega, show (2 * y).toNat = 2 * y.toNat by omega, Nat.gcd_mul_left]
    omega
  rw [e, Int.mul_assoc, Int.mul_left_comm A] at h
  exact Int.eq_of_mul_eq_mul_left (by decide : (2 : Int) ≠ 0) h
theorem fp_hw {x y B g : Int} (hx : 0 ≤ x) (hy : 0 ≤ y) (h : (2 * y) * g = B * fp_gd (2 * x) (2 * y)) : y * g = B * fp_gd x y := by
  have e : fp_gd (2 * x) (2 * y) = 2 * fp_gd x y := by
    unfold fp_gd
    rw [show (2 * x).toNat = 2 * x.toNat by omega, show (2 * y).toNat = 2 * y.toNat by omega, Nat.gcd_mul_left]
    omega
  rw [e, Int.mul_assoc, Int.mul_left_comm B] at h
  exact Int.eq_of_mul_eq_mul_left (by decide : (2 : Int) ≠ 0) h
theorem fp_g1 {x y : Int} {t : Nat} (hx : 0 ≤ x) (hy : y = ((2 ^ t : Nat) : Int)) (h : x.tmod 2 ≠ 0 ∨ y ≤ 1) : fp_gd x y = 1 := by
  unfold fp_gd
  rcases h with h | h
  · rw [Int.tmod_eq_emod_of_nonneg hx] at h
    have o : x.toNat % 2 = 1 := by omega
    have c : Nat.Coprime x.toNat 2 := by
      show Nat.gcd x.toNat 2 = 1
      rw [Nat.gcd_comm, Nat.gcd_rec, o]
      exact Nat.gcd_one_left 2
    have q : Nat.gcd x.toNat (2 ^ t) = 1 := Nat.Coprime.pow_right t c
    rw [hy, Int.toNat_natCast, q]
    rfl
  · have p : 0 < 2 ^ t := Nat.pow_pos (by decide)
    have y1 : y.toNat = 1 := by omega
    rw [y1, Nat.gcd_one_right]
    rfl
theorem fp_p2 {y : Int} {t : Nat} (hy : y = ((2 ^ t : Nat) : Int)) (h : 1 < y) : ∃ u : Nat, t = u + 1 ∧ y.tdiv 2 = ((2 ^ u : Nat) : Int) ∧ y = 2 * y.tdiv 2 := by
  cases t with
  | zero => exfalso; rw [hy] at h; exact absurd h (by decide)
  | succ u =>
    have e : y = 2 * ((2 ^ u : Nat) : Int) := by rw [hy, Nat.pow_succ]; omega
    have d : y.tdiv 2 = ((2 ^ u : Nat) : Int) := by rw [Int.tdiv_eq_ediv_of_nonneg (by omega)]; omega
    exact ⟨u, rfl, d, by rw [d]; exact e⟩
theorem fp_fr_e {x g A : Int} (hg : 0 < g) (h : x * g = A) : x = A.tdiv g := by
  rw [← h]
  exact (Int.mul_tdiv_cancel x (by omega)).symm
theorem am_qd {Q : Option am_V → am_N → Prop} {μ : am_N} {x z : Int} (k : Q (some (.inr (.inl z))) μ) (h : x = z) : Q (some (.inr (.inl x))) μ := by rw [h]; exact k
theorem fp_lceq (x : Int) : am_c (if am_d x < am_d x then 1 else if am_d x = am_d x then 0 else -1) = 0 := by rw [if_neg (Int.lt_irrefl _), if_pos rfl]; rfl
theorem x_refuseLong {l : Launch} {ν : am_N} {Q : Option am_V → am_N → Prop} (w : Int) (hw : w = -1 ∨ w = -2 ∨ w = -3 ∨ w = -4 ∨ w = -6) (k : ∀ μ' : am_N, (∀ a b, a ≠ 78 → μ' a b = ν a b) → Q (some (.inr (.inl (4000000000000000000 - w)))) μ') : am_Does l 115 [.inr (.inr 0), .inl w] ν Q := by
  refine am_Does_of (Nat.le_of_ble_eq_true rfl) (Nat.le_of_ble_eq_true rfl) (Nat.le_of_ble_eq_true rfl) ?_
  have cw : am_c w = w := am_cR (by omega) (by omega)
  have kk := fun (x : Int) (μ' : am_N) (h : ∀ a b, a ≠ 78 → μ' a b = ν a b) (e : x = 4000000000000000000 - w) => am_qd (k μ' h) e
  refine am_go (ct := fun _ => false) am_oX6_refuseLong 300 ?_
  conv => whnf
  repeat' first
    | (refine (?_ : am_wp _ _ _ _ _ _ _ _ _ _ _ _); conv => whnf)
    | (refine (?_ : am_sw _ _ _ _); conv => whnf)
    | refine And.intro trivial ?_
    | exact trivial
    | refine x_refuse _ ?_ (fun μr fr => ?_)
    | refine kk _ _ fr ?_
    | refine And.intro (fun h => absurd h (by decide)) (fun _ => ?_)
    | refine And.intro (fun _ => ?_) (fun h => absurd (by decide) h)
    | refine And.intro (fun _ => ?_) (fun _ => ?_)
    | refine And.intro ?_ ?_
  all_goals (first | decide | assumption | (rw [cw]) | (trace_state; fail))
theorem x_lowest {l : Launch} {ν : am_N} {Q : Option am_V → am_N → Prop} (w : Int) (hw : w = -1 ∨ w = -2 ∨ w = -3 ∨ w = -4 ∨ w = -6) (k : ∀ μ' : am_N, (∀ a b, a ≠ 84 → μ' a b = ν a b) → Q (some (.inr (.inl (4000000000000000000 - w)))) μ') : am_Does l 142 [.inr (.inr 83), .inl w] ν Q := by
  refine am_Does_of (Nat.le_of_ble_eq_true rfl) (Nat.le_of_ble_eq_true rfl) (Nat.le_of_ble_eq_true rfl) ?_
  have cw : am_c (-w) = -w := am_cR (by omega) (by omega)
  have cx : am_c w = w := am_cR (by omega) (by omega)
  have kk := fun (x : Int) (μ' : am_N) (h : ∀ a b, a ≠ 84 → μ' a b = ν a b) (e : x = 4000000000000000000 - w) => am_qd (k μ' h) e
  refine am_go (ct := fun _ => false) am_oX7_lowest 300 ?_
  conv => whnf
  repeat' first
    | (refine (?_ : am_wp _ _ _ _ _ _ _ _ _ _ _ _); conv => whnf)
    | (refine (?_ : am_sw _ _ _ _); conv => whnf)
    | refine And.intro trivial ?_
    | exact trivial
    | refine kk _ _ ?_ ?_
    | refine And.intro (fun h => absurd h (by decide)) (fun _ => ?_)
    | refine And.intro (fun _ => ?_) (fun h => absurd (by decide) h)
    | refine And.intro (fun _ => ?_) (fun _ => ?_)
    | refine And.intro ?_ ?_
  all_goals (first | decide | omega | (intro a b h; exact am_upN h) | (simp only [cw] at *; omega) | (rw [cx]) | (trace_state; fail))
