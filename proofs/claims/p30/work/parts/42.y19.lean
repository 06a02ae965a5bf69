/-! a fraction in lowest terms -/
theorem fp_dR {z : Int} (h1 : -1000000000000 ≤ z) (h2 : z ≤ 1000000000000) : am_d z = z := by
  unfold am_d; omega
/-- what a comparison of longs tells -/
theorem fp_lcv (u v : Int) : (v < u ∧ am_c (if v < u then 1 else if u = v then 0 else -1) = 1) ∨ (u = v ∧ am_c (if v < u then 1 else if u = v then 0 else -1) = 0) ∨ (u < v ∧ am_c (if v < u then 1 else if u = v then 0 else -1) = -1) := by
  by_cases h : v < u
  · rw [if_pos h]; exact Or.inl ⟨h, rfl⟩
  · rw [if_neg h]
    by_cases g : u = v
    · rw [if_pos g]; exact Or.inr (Or.inl ⟨g, rfl⟩)
    · rw [if_neg g]; exact Or.inr (Or.inr ⟨by omega, rfl⟩)
def fp_gd (a b : Int) : Int := ((Nat.gcd a.toNat b.toNat : Nat) : Int)
theorem fp_gd_p {a b : Int} (hb : 0 < b) : 0 < fp_gd a b := by
  have h := Nat.gcd_pos_of_pos_right a.toNat (show 0 < b.toNat by omega)
  unfold fp_gd
  omega
theorem fp_gd_l {a b : Int} (hb : 0 < b) : fp_gd a b ≤ b := by
  have h := Nat.le_of_dvd (show 0 < b.toNat by omega) (Nat.gcd_dvd_right a.toNat b.toNat)
  unfold fp_gd
  omega
/-- the part w of a fraction -/
def fp_fr (a b w : Int) : Int := if w = 0 then a.tdiv (fp_gd a b) else b.tdiv (fp_gd a b)
theorem fp_gd_s {x y : Int} (hx : 0 ≤ x) (hy : 0 < y) : fp_gd y (x.tmod y) = fp_gd x y ∧ 0 ≤ x.tmod y ∧ x.tmod y < y := by
  have e : x.tmod y = x % y := Int.tmod_eq_emod_of_nonneg hx
  have e2 : (x % y).toNat = x.toNat % y.toNat := Int.toNat_emod hx (by omega)
  have b0 := Int.emod_nonneg x (show y ≠ 0 by omega)
  have b1 := Int.emod_lt_of_pos x hy
  rw [e]
  refine ⟨?_, b0, b1⟩
  unfold fp_gd
  rw [e2, Nat.gcd_comm x.toNat, Nat.gcd_rec y.toNat x.toNat, Nat.gcd_comm]
theorem fp_gd_0 {x : Int} (hx : 0 ≤ x) : fp_gd x 0 = x := by
  unfold fp_gd
  rw [show (0 : Int).toNat = 0 from rfl, Nat.gcd_zero_right]
  exact Int.toNat_of_nonneg hx
/-- halved: the fraction is the same -/
theorem fp_hv {x y A g : Int} (hx : 0 ≤ x) (hy : 0 ≤ y) (h : (2 * x) * g = A * fp_gd (2 * x) (2 * y)) : x * g = A * fp_gd x y := by
  have e : fp_gd (2 * x) (2 * y) = 2 * fp_gd x y := by
    unfold fp_gd
    rw [show (2 * x).toNat = 2 * x.toNat by omega, show (2 * y).toNat = 2 * y.toNat by omega, Nat.gcd_mul_left]
    omega
  rw [e, Int.mul_assoc, Int.mul_left_comm A] at h
  exact Int.eq_of_mul_eq_mul_left (by decide : (2 : Int) ≠ 0) h
theorem fp_hw {x y B g : Int} (hx : 0 ≤ x) (hy : 0 ≤ y) (h : (2 * y) * g = B * fp_gd (2 * x) (2 * y)) : y * g = B * fp_gd x y := by
  have e : fp_gd (2 * x) (2 * y) = 2 * fp_gd x y := by
    unfold fp_gd
    rw [show (2 * x).toNat = 2 * x.toNat by omega, show (2 * y).toNat = 2 * y.toNat by omega, Nat.gcd_mul_left]
    omega
  rw [e, Int.mul_assoc, Int.mul_left_comm B] at h
  exact Int.eq_of_mul_eq_mul_left (by decide : (2 : Int) ≠ 0) h
theorem fp_g1 {x y : Int} {t : Nat} (hx : 0 ≤ x) (hy : y = ((2 ^ t : Nat) : Int)) (h : x.tmod 2 ≠ 0 ∨ y ≤ 1) : fp_gd x y = 1 := by
  unfold fp_gd
  rcases h with h | h
  · rw [Int.tmod_eq_emod_of_nonneg hx] at h
    have o : x.toNat % 2 = 1 := by omega
    have c : Nat.Coprime x.toNat 2 := by
      show Nat.gcd x.toNat 2 = 1
      rw [Nat.gcd_comm, Nat.gcd_rec, o]
      exact Nat.gcd_one_left 2
    have q : Nat.gcd x.toNat (2 ^ t) = 1 := Nat.Coprime.pow_right t c
    rw [hy, Int.toNat_natCast, q]
    rfl
  · have p : 0 < 2 ^ t := Nat.pow_pos (by decide)
    have y1 : y.toNat = 1 := by omega
    rw [y1, Nat.gcd_one_right]
    rfl
theorem fp_p2 {y : Int} {t : Nat} (hy : y = ((2 ^ t : Nat) : Int)) (h : 1 < y) : ∃ u : Nat, t = u + 1 ∧ y.tdiv 2 = ((2 ^ u : Nat) : Int) ∧ y = 2 * y.tdiv 2 := by
  cases t with
  | zero => exfalso; rw [hy] at h; exact absurd h (by decide)
  | succ u =>
    have e : y = 2 * ((2 ^ u : Nat) : Int) := by rw [hy, Nat.pow_succ]; omega
    have d : y.tdiv 2 = ((2 ^ u : Nat) : Int) := by rw [Int.tdiv_eq_ediv_of_nonneg (by omega)]; omega
    exact ⟨u, rfl, d, by rw [d]; exact e⟩
theorem fp_fr_e {x g A : Int} (hg : 0 < g) (h : x * g = A) : x = A.tdiv g := by
  rw [← h]
  exact (Int.mul_tdiv_cancel x (by omega)).symm
theorem am_qd {Q : Option am_V → am_N → Prop} {μ : am_N} {x z : Int} (k : Q (some (.inr (.inl z))) μ) (h : x = z) : Q (some (.inr (.inl x))) μ := by rw [h]; exact k
theorem fp_lceq (x : Int) : am_c (if am_d x < am_d x then 1 else if am_d x = am_d x then 0 else -1) = 0 := by rw [if_neg (Int.lt_irrefl _), if_pos rfl]; rfl
theorem x_refuseLong {l : Launch} {ν : am_N} {Q : Option am_V → am_N → Prop} (w : Int) (hw : w = -1 ∨ w = -2 ∨ w = -3 ∨ w = -4 ∨ w = -6) (k : ∀ μ' : am_N, (∀ a b, a ≠ 78 → μ' a b = ν a b) → Q (some (.inr (.inl (4000000000000000000 - w)))) μ') : am_Does l 115 [.inr (.inr 0), .inl w] ν Q := by
  refine am_Does_of (Nat.le_of_ble_eq_true rfl) (Nat.le_of_ble_eq_true rfl) (Nat.le_of_ble_eq_true rfl) ?_
  have cw : am_c w = w := am_cR (by omega) (by omega)
  have kk := fun (x : Int) (μ' : am_N) (h : ∀ a b, a ≠ 78 → μ' a b = ν a b) (e : x = 4000000000000000000 - w) => am_qd (k μ' h) e
  refine am_go (ct := fun _ => false) am_oX6_refuseLong 300 ?_
  conv => whnf
  repeat' first
    | (refine (?_ : am_wp _ _ _ _ _ _ _ _ _ _ _ _); conv => whnf)
    | (refine (?_ : am_sw _ _ _ _); conv => whnf)
    | refine And.intro trivial ?_
    | exact trivial
    | refine x_refuse _ ?_ (fun μr fr => ?_)
    | refine kk _ _ fr ?_
    | refine And.intro (fun h => absurd h (by decide)) (fun _ => ?_)
    | refine And.intro (fun _ => ?_) (fun h => absurd (by decide) h)
    | refine And.intro (fun _ => ?_) (fun _ => ?_)
    | refine And.intro ?_ ?_
  all_goals (first | decide | assumption | (rw [cw]) | (trace_state; fail))
theorem x_lowest {l : Launch} {ν : am_N} {Q : Option am_V → am_N → Prop} (w : Int) (hw : w = -1 ∨ w = -2 ∨ w = -3 ∨ w = -4 ∨ w = -6) (k : ∀ μ' : am_N, (∀ a b, a ≠ 84 → μ' a b = ν a b) → Q (some (.inr (.inl (4000000000000000000 - w)))) μ') : am_Does l 142 [.inr (.inr 83), .inl w] ν Q := by
  refine am_Does_of (Nat.le_of_ble_eq_true rfl) (Nat.le_of_ble_eq_true rfl) (Nat.le_of_ble_eq_true rfl) ?_
  have cw : am_c (-w) = -w := am_cR (by omega) (by omega)
  have cx : am_c w = w := am_cR (by omega) (by omega)
  have kk := fun (x : Int) (μ' : am_N) (h : ∀ a b, a ≠ 84 → μ' a b = ν a b) (e : x = 4000000000000000000 - w) => am_qd (k μ' h) e
  refine am_go (ct := fun _ => false) am_oX7_lowest 300 ?_
  conv => whnf
  repeat' first
    | (refine (?_ : am_wp _ _ _ _ _ _ _ _ _ _ _ _); conv => whnf)
    | (refine (?_ : am_sw _ _ _ _); conv => whnf)
    | refine And.intro trivial ?_
    | exact trivial
    | refine kk _ _ ?_ ?_
    | refine And.intro (fun h => absurd h (by decide)) (fun _ => ?_)
    | refine And.intro (fun _ => ?_) (fun h => absurd (by decide) h)
    | refine And.intro (fun _ => ?_) (fun _ => ?_)
    | refine And.intro ?_ ?_
  all_goals (first | decide | omega | (intro a b h; exact am_upN h) | (simp only [cw] at *; omega) | (rw [cx]) | (trace_state; fail))
theorem s_fraction {l : Launch} {μ : am_N} {Q : Option am_V → am_N → Prop} (A B w : Int) (e0 : Nat) (cw : am_c w = w) (A0 : 0 ≤ A) (A1 : A ≤ 1000000000) (eB : B = ((2 ^ e0 : Nat) : Int)) (h0 : e0 ≤ 12) (B1 : B ≤ 1000000000) (k : Q (some (.inr (.inl (fp_fr A B w)))) μ) : am_Does l 118 [.inr (.inl A), .inr (.inl B), .inl w] μ Q := by
  refine am_Does_of (Nat.le_of_ble_eq_true rfl) (Nat.le_of_ble_eq_true rfl) (Nat.le_of_ble_eq_true rfl) ?_
  have l0 : am_c 0 = 0 := rfl
  have l1 : am_c 1 = 1 := rfl
  have l2 : am_c 2 = 2 := rfl
  have l16 : am_c 16 = 16 := rfl
  have l62 : am_c 62 = 62 := rfl
  have l4096 : am_c 4096 = 4096 := rfl
  have p0 : 0 < 2 ^ e0 := Nat.pow_pos (by decide)
  have gp := fp_gd_p (a := A) (b := B) (by omega)
  have d2 : am_d 2 = 2 := rfl
  have d1 : am_d 1 = 1 := rfl
  have d0 : am_d 0 = 0 := rfl
  have lp9 : ∀ (m : Nat) (x y j : Int) , 0 ≤ x → x ≤ 1000000000 → 1 ≤ y → y ≤ 1000000000 → 0 ≤ j → (∃ t : Nat, y = ((2 ^ t : Nat) : Int) ∧ (t : Int) + j ≤ 12) → x * fp_gd A B = A * fp_gd x y → y * fp_gd A B = B * fp_gd x y → 20 - j < (m : Int) → am_AW l 0 (fun _ => 0) 118 Q 9 [some (.inr (.inl A)), none, some (.inr (.inl B)), none, some (.inl w), some (.inr (.inl x)), none, some (.inr (.inl y)), none, some (.inl j)] [] μ := by
    intro m
    induction m with
    | zero =>
      intro x y j  hv0 hv1 hv2 hv3 hv4 hv5 hv6 hv7 hm
      exfalso
      omega
    | succ m ih =>
      intro x y j  hv0 hv1 hv2 hv3 hv4 hv5 hv6 hv7 hm
      obtain ⟨t, hy, ht⟩ := hv5
      have cj : am_c j = j := am_cR (by omega) (by omega)
      have dx : am_d x = x := fp_dR (by omega) (by omega)
      have dy : am_d y = y := fp_dR (by omega) (by omega)
      have xm : x.tmod 2 = x % 2 := Int.tmod_eq_emod_of_nonneg hv0
      have xd : x.tdiv 2 = x / 2 := Int.tdiv_eq_ediv_of_nonneg hv0
      have yd : y.tdiv 2 = y / 2 := Int.tdiv_eq_ediv_of_nonneg (by omega)
      have dm : am_d (x.tmod 2) = x.tmod 2 := by rw [xm]; exact fp_dR (by omega) (by omega)
      have z1 := fp_lcv (x.tmod 2) 0
      have z2 := fp_lcv y 1
      refine am_go (ct := fun pc => Nat.beq pc 9) am_oX6_fraction 300 ?_
      conv => whnf
      repeat' first
        | (refine (?_ : am_wp _ _ _ _ _ _ _ _ _ _ _ _); conv => whnf)
        | (refine (?_ : am_sw _ _ _ _); conv => whnf)
        | refine And.intro trivial ?_
        | exact trivial
        | (have q1 : x.tmod 2 ≠ 0 ∨ y ≤ 1 := (by simp only [dx, dy, d2, d1, d0, dm, l0] at *; omega); have g1 := fp_g1 hv0 hy q1; rw [g1, Int.mul_one] at hv6 hv7; refine am_qd k ?_)
        | refine ih _ _ _ ?_ ?_ ?_ ?_ ?_ ?_ ?_ ?_ ?_
        | refine ih _ _ _  ?_ ?_ ?_ ?_ ?_ ?_ ?_ ?_ ?_
        | refine And.intro (fun h => absurd h (by decide)) (fun _ => ?_)
        | refine And.intro (fun _ => ?_) (fun h => absurd (by decide) h)
        | refine And.intro (fun _ => ?_) (fun _ => ?_)
        | refine And.intro ?_ ?_
      all_goals (first | decide | assumption | omega | (rw [d2]; decide) | (simp only [dx, dy, d2, d1, d0, dm, l0, cj] at *; omega) | (have q1 : x.tmod 2 = 0 ∧ 1 < y := (by simp only [dx, dy, d2, d1, d0, dm, l0] at *; omega); obtain ⟨u, tu, yu, y2⟩ := fp_p2 hy q1.2; rw [dx, dy, d2] at *; first | exact ⟨u, yu, by omega⟩ | (have x2 : x = 2 * x.tdiv 2 := (by omega); first | exact fp_hv (by omega) (by omega) (by rw [← x2, ← y2]; exact hv6) | exact fp_hw (by omega) (by omega) (by rw [← x2, ← y2]; exact hv7))) | (have q1 : x.tmod 2 = 0 ∧ 1 < y := (by simp only [dx, dy, d2, d1, d0, dm, l0] at *; omega); obtain ⟨u, tu, yu, y2⟩ := fp_p2 hy q1.2; simp only [dx, dy, d2]; first | omega | exact ⟨u, yu, by omega⟩ | (have x2 : x = 2 * x.tdiv 2 := (by omega); first | exact fp_hv (by omega) (by omega) (by rw [← x2, ← y2]; exact hv6) | exact fp_hw (by omega) (by omega) (by rw [← x2, ← y2]; exact hv7))) | (unfold fp_fr; first | (rw [if_pos (by simp only [cw, l0] at *; omega)]; exact fp_fr_e gp hv6) | (rw [if_neg (by simp only [cw, l0] at *; omega)]; exact fp_fr_e gp hv7)) | (trace_state; fail))
  have lp9' : ∀ (x y j : Int) , 0 ≤ x → x ≤ 1000000000 → 1 ≤ y → y ≤ 1000000000 → 0 ≤ j → (∃ t : Nat, y = ((2 ^ t : Nat) : Int) ∧ (t : Int) + j ≤ 12) → x * fp_gd A B = A * fp_gd x y → y * fp_gd A B = B * fp_gd x y → am_AW l 0 (fun _ => 0) 118 Q 9 [some (.inr (.inl A)), none, some (.inr (.inl B)), none, some (.inl w), some (.inr (.inl x)), none, some (.inr (.inl y)), none, some (.inl j)] [] μ := fun x y j  hv0 hv1 hv2 hv3 hv4 hv5 hv6 hv7 => lp9 ((20 - j) + 1).toNat x y j  hv0 hv1 hv2 hv3 hv4 hv5 hv6 hv7 (by omega)
  refine am_go (ct := fun pc => Nat.beq pc 9) am_oX6_fraction 300 ?_
  conv => whnf
  repeat' first
    | (refine (?_ : am_wp _ _ _ _ _ _ _ _ _ _ _ _); conv => whnf)
    | (refine (?_ : am_sw _ _ _ _); conv => whnf)
    | refine And.intro trivial ?_
    | exact trivial
    | refine lp9' _ _ _  ?_ ?_ ?_ ?_ ?_ ?_ ?_ ?_
    | refine And.intro (fun h => absurd h (by decide)) (fun _ => ?_)
    | refine And.intro (fun _ => ?_) (fun h => absurd (by decide) h)
    | refine And.intro (fun _ => ?_) (fun _ => ?_)
    | refine And.intro ?_ ?_
  all_goals (first | decide | assumption | omega | rfl | exact ⟨e0, eB, by omega⟩ | (exact Int.mul_comm _ _) | (trace_state; fail))
theorem n_divisorG {l : Launch} {μ : am_N} {Q : Option am_V → am_N → Prop} (G : Int → Int → Int) (hG : ∀ x y : Int, 0 ≤ x → 0 < y → G y (x.tmod y) = G x y ∧ 0 ≤ x.tmod y ∧ x.tmod y < y) (hz : ∀ x : Int, 0 ≤ x → G x 0 = x) (A B : Int) (A0 : 0 ≤ A) (A1 : A ≤ 1000000000) (B0 : 1 ≤ B) (B1 : B ≤ 1000000000) (k : Q (some (.inr (.inl (G A B)))) μ) : am_Does l 184 [.inr (.inl A), .inr (.inl B)] μ Q := by
  refine am_Does_of (Nat.le_of_ble_eq_true rfl) (Nat.le_of_ble_eq_true rfl) (Nat.le_of_ble_eq_true rfl) ?_
  have lp6 : ∀ (m : Nat) (x y : Int) (o8 o9 : Option am_V) , 0 ≤ x → x ≤ 1000000000 → 0 ≤ y → y ≤ 1000000000 → G x y = G A B → y < (m : Int) → am_AW l 0 (fun _ => 0) 184 Q 6 [some (.inr (.inl A)), none, some (.inr (.inl B)), none, some (.inr (.inl x)), none, some (.inr (.inl y)), none, o8, o9] [] μ := by
    intro m
    induction m with
    | zero =>
      intro x y o8 o9 hv0 hv1 hv2 hv3 hv4 hm
      exfalso
      omega
    | succ m ih =>
      intro x y o8 o9 hv0 hv1 hv2 hv3 hv4 hm
      have dx : am_d x = x := fp_dR (by omega) (by omega)
      have dy : am_d y = y := fp_dR (by omega) (by omega)
      have e1 : 0 < y → am_c (if am_d 0 < am_d y then 1 else if am_d y = am_d 0 then 0 else -1) = 0 → False := by
        intro q h
        rw [dy, if_pos (show am_d 0 < y from q)] at h
        exact absurd h (by decide)
      have e0 : y = 0 → am_c (if am_d 0 < am_d y then 1 else if am_d y = am_d 0 then 0 else -1) = 0 := by
        intro q
        rw [q]
        rfl
      have kz : y = 0 → Q (some (.inr (.inl x))) μ := fun q => am_qd k (by rw [← hv4, q]; exact (hz x hv0).symm)
      have kp : 0 < y → am_AW l 0 (fun _ => 0) 184 Q 6 [some (.inr (.inl A)), none, some (.inr (.inl B)), none, some (.inr (.inl y)), none, some (.inr (.inl ((am_d x).tmod (am_d y)))), none, some (.inr (.inl ((am_d x).tmod (am_d y)))), none] [] μ := by
        intro q
        obtain ⟨h1, h2, h3⟩ := hG x y hv0 q
        rw [dx, dy]
        exact ih y (x.tmod y) _ _ hv2 hv3 h2 (by omega) (h1.trans hv4) (by omega)
      clear ih k hG hz
      refine am_go (ct := fun pc => Nat.beq pc 6) am_oX7_divisor 300 ?_
      conv => whnf
      refine And.intro (fun h => ?_) (fun h => ?_)
      · have q : y = 0 := Int.le_antisymm (Int.not_lt.mp (fun z => e1 z h)) hv2
        conv => whnf
        exact And.intro trivial (kz q)
      · have q : 0 < y := by
          have n : ¬ y = 0 := fun z => h (e0 z)
          clear h e0 e1 kz kp
          omega
        conv => whnf
        refine And.intro (fun z => ?_) ?_
        · rw [dy] at z
          omega
        · conv => whnf
          exact And.intro trivial (kp q)
  refine am_go (ct := fun pc => Nat.beq pc 6) am_oX7_divisor 300 ?_
  conv => whnf
  exact And.intro trivial (lp6 (B + 1).toNat A B none none A0 A1 (by omega) B1 rfl (by omega))
theorem n_divisor {l : Launch} {μ : am_N} {Q : Option am_V → am_N → Prop} (A B : Int) (A0 : 0 ≤ A) (A1 : A ≤ 1000000000) (B0 : 1 ≤ B) (B1 : B ≤ 1000000000) (k : Q (some (.inr (.inl (fp_gd A B)))) μ) : am_Does l 184 [.inr (.inl A), .inr (.inl B)] μ Q := n_divisorG fp_gd (fun _ _ h g => fp_gd_s h g) (fun _ h => fp_gd_0 h) A B A0 A1 B0 B1 k
theorem n_partOfG {l : Launch} {μ : am_N} {Q : Option am_V → am_N → Prop} (A B w G : Int) (gp : 0 < G) (gl : G ≤ B) (kD : ∀ {μ' : am_N} {Q' : Option am_V → am_N → Prop}, Q' (some (.inr (.inl G))) μ' → am_Does l 184 [.inr (.inl A), .inr (.inl B)] μ' Q') (cw : am_c w = w) (A0 : 0 ≤ A) (A1 : A ≤ 1000000000) (B0 : 1 ≤ B) (B1 : B ≤ 1000000000) (k : Q (some (.inr (.inl (if w = 0 then A.tdiv G else B.tdiv G)))) μ) : am_Does l 185 [.inr (.inl A), .inr (.inl B), .inl w] μ Q := by
  refine am_Does_of (Nat.le_of_ble_eq_true rfl) (Nat.le_of_ble_eq_true rfl) (Nat.le_of_ble_eq_true rfl) ?_
  have l0 : am_c 0 = 0 := rfl
  have l1 : am_c 1 = 1 := rfl
  have l2 : am_c 2 = 2 := rfl
  have l16 : am_c 16 = 16 := rfl
  have l62 : am_c 62 = 62 := rfl
  have l4096 : am_c 4096 = 4096 := rfl
  have dA : am_d A = A := fp_dR (by omega) (by omega)
  have dB : am_d B = B := fp_dR (by omega) (by omega)
  have dG : am_d G = G := fp_dR (by omega) (by omega)
  refine am_go (ct := fun _ => false) am_oX7_partOf 300 ?_
  conv => whnf
  repeat' first
    | (refine (?_ : am_wp _ _ _ _ _ _ _ _ _ _ _ _); conv => whnf)
    | (refine (?_ : am_sw _ _ _ _); conv => whnf)
    | refine And.intro trivial ?_
    | exact trivial
    | refine kD ?_
    | refine am_qd k ?_
    | refine And.intro (fun h => absurd h (by decide)) (fun _ => ?_)
    | refine And.intro (fun _ => ?_) (fun h => absurd (by decide) h)
    | refine And.intro (fun _ => ?_) (fun _ => ?_)
    | refine And.intro ?_ ?_
  all_goals (first | decide | (intro z; rw [dG] at z; omega) | (rw [dG]; exact Int.ne_of_gt gp) | (rw [dG]; omega) | (rw [dG]; first | (rw [if_pos (by simp only [cw, l0] at *; omega), dA]) | (rw [if_neg (by simp only [cw, l0] at *; omega), dB])) | (trace_state; fail))
theorem n_partOf {l : Launch} {μ : am_N} {Q : Option am_V → am_N → Prop} (A B w : Int) (cw : am_c w = w) (A0 : 0 ≤ A) (A1 : A ≤ 1000000000) (B0 : 1 ≤ B) (B1 : B ≤ 1000000000) (k : Q (some (.inr (.inl (fp_fr A B w)))) μ) : am_Does l 185 [.inr (.inl A), .inr (.inl B), .inl w] μ Q := n_partOfG A B w (fp_gd A B) (fp_gd_p (by omega)) (fp_gd_l (by omega)) (fun k => n_divisor A B A0 A1 B0 B1 k) cw A0 A1 B0 B1 k
def fp_lir (F : am_N) (i w : Int) : Int := if ¬(0 ≤ i ∧ i < F 0 4) then 4000000000000000001 else if ¬(w = 0 ∨ w = 1) then 4000000000000000002 else fp_fr (fp_lw F i.toNat) (fp_al2 F) w
theorem fp_al2_e {n : Int} (h0 : 0 ≤ n) (h1 : n ≤ 4) : ∃ t : Nat, am_shl 1 (2 * n) = ((2 ^ t : Nat) : Int) ∧ t ≤ 12 := by
  rcases (show n = 0 ∨ n = 1 ∨ n = 2 ∨ n = 3 ∨ n = 4 by omega) with rfl | rfl | rfl | rfl | rfl
  · exact ⟨0, by decide +kernel, by decide⟩
  · exact ⟨2, by decide +kernel, by decide⟩
  · exact ⟨4, by decide +kernel, by decide⟩
  · exact ⟨6, by decide +kernel, by decide⟩
  · exact ⟨8, by decide +kernel, by decide⟩
theorem s_likely {l : Launch} {ν : am_N} {Q : Option am_V → am_N → Prop} (i w : Int) (ci : am_c i = i) (cw : am_c w = w) (hS : sx ν ν) (hw : fp_fw 999 (fv ν 1)) (k : ∀ μ' : am_N, sx ν μ' → Q (some (.inr (.inl (fp_lir (fv ν 1) i w)))) μ') : am_Does l 69 [.inr (.inr 0), .inl i, .inl w] ν Q := by
  refine am_Does_of (Nat.le_of_ble_eq_true rfl) (Nat.le_of_ble_eq_true rfl) (Nat.le_of_ble_eq_true rfl) ?_
  have l0 : am_c 0 = 0 := rfl
  have l1 : am_c 1 = 1 := rfl
  have l2 : am_c 2 = 2 := rfl
  have l16 : am_c 16 = 16 := rfl
  have l62 : am_c 62 = 62 := rfl
  have l4096 : am_c 4096 = 4096 := rfl
  have m1' : am_c (-1) = -1 := rfl
  have m2' : am_c (-2) = -2 := rfl
  have m3' : am_c (-3) = -3 := rfl
  obtain ⟨hf, -, -, -, -, -, hx⟩ := fw_C hw (by decide)
  have f0 := hf.1.1
  have f1 := hf.1.2
  have e4 : fv ν 1 0 4 = ν 1 4 := fv_0 (by decide)
  have al := fp_al2_b f0 f1
  obtain ⟨t, et, ht⟩ := fp_al2_e f0 f1
  have kk := fun (x : Int) (μ' : am_N) (h : sx ν μ') (e : x = fp_lir (fv ν 1) i w) => am_qd (k μ' h) e
  have hs : ∀ q : Nat, (q : Int) < ν 1 4 → 0 ≤ ν 5 q ∧ ν 5 q ≤ 20 := fun q hq => (hx q hq).2.2.2
  have ea : fp_al2 (fv ν 1) = am_shl 1 (2 * ν 1 4) := by unfold fp_al2; rw [e4]
  have lw := fp_lw_b (F := (fv ν 1)) (by rw [e4]; exact f1) i.toNat
  have cl : am_c (fp_lw (fv ν 1) i.toNat) = fp_lw (fv ν 1) i.toNat := am_cR (by omega) (by omega)
  have cA : am_c (am_shl 1 (2 * ν 1 4)) = am_shl 1 (2 * ν 1 4) := am_cR (by omega) (by omega)
  refine am_go (ct := fun _ => false) am_oX6_likely 300 ?_
  conv => whnf
  repeat' first
    | (refine (?_ : am_wp _ _ _ _ _ _ _ _ _ _ _ _); conv => whnf)
    | (refine (?_ : am_sw _ _ _ _); conv => whnf)
    | refine And.intro trivial ?_
    | exact trivial
    | refine x_has1 _ f0 f1 (fun y0 y1 => ?_) (fun y => ?_)
    | refine x_refuseLong _ ?_ (fun μr fr => ?_)
    | refine x_noPart _ cw (fun z => ?_) (fun z => ?_)
    | (refine x_draw_1 hf hs (fun μ1 g1 d0 dr => ?_); have sE : sx ν μ1 := sx_dr hS (fun a b q2 q3 _ => g1 a b q2 q3) (by rw [d0]; exact ⟨f0, f1⟩); have hb := fp_rw_b (c := 1) hf hs d0 dr)
    | (refine x_ways i (by omega) (by rw [d0]; omega) (by rw [d0]; exact f1) hb ?_; rw [fp_lw_C1 f1 (by omega) d0 dr])
    | (refine s_allWays ?_; rw [d0])
    | (rw [cl, cA]; refine s_fraction _ _ _ t cw lw.1 (by omega) et ht (by omega) ?_)
    | refine kk _ _ sE ?_
    | refine kk _ _ (sx_78 hS fr) ?_
    | refine And.intro (fun h => absurd h (by decide)) (fun _ => ?_)
    | refine And.intro (fun _ => ?_) (fun h => absurd (by decide) h)
    | refine And.intro (fun _ => ?_) (fun _ => ?_)
    | refine And.intro ?_ ?_
  all_goals (first | decide | omega | (unfold fp_lir; rw [e4, if_pos (by omega)]; rfl) | (unfold fp_lir; rw [e4, if_neg (by omega), if_pos (by omega)]; rfl) | (unfold fp_lir; rw [e4, if_neg (by omega), if_neg (by omega), ea]) | (trace_state; fail))
theorem n_likely {l : Launch} {ν : am_N} {Q : Option am_V → am_N → Prop} (i w : Int) (ci : am_c i = i) (cw : am_c w = w) (hm : mi ν) (hw : fp_fw 999 (mv ν)) (k : ∀ μ' : am_N, gm ms ν μ' → Q (some (.inr (.inl (fp_lir (mv ν) i w)))) μ') : am_Does l 186 [.inr (.inr 83), .inl i, .inl w] ν Q := by
  refine am_Does_of (Nat.le_of_ble_eq_true rfl) (Nat.le_of_ble_eq_true rfl) (Nat.le_of_ble_eq_true rfl) ?_
  have l0 : am_c 0 = 0 := rfl
  have l1 : am_c 1 = 1 := rfl
  have l2 : am_c 2 = 2 := rfl
  have l16 : am_c 16 = 16 := rfl
  have l62 : am_c 62 = 62 := rfl
  have l4096 : am_c 4096 = 4096 := rfl
  have m1' : am_c (-1) = -1 := rfl
  have m2' : am_c (-2) = -2 := rfl
  have m3' : am_c (-3) = -3 := rfl
  obtain ⟨hf, -, -, -, -, -, hx⟩ := fw_M hw (by decide)
  have f0 := hf.1.1
  have f1 := hf.1.2
  have e4 : mv ν 0 4 = ν 83 14 := rfl
  have al := fp_al2_b f0 f1
  have kk := fun (x : Int) (μ' : am_N) (h : gm ms ν μ') (e : x = fp_lir (mv ν) i w) => am_qd (k μ' h) e
  have ea : fp_al2 (mv ν) = am_shl 1 (2 * ν 83 14) := rfl
  have lw := fp_lw_b (F := (mv ν)) f1 i.toNat
  have cl : am_c (fp_lw (mv ν) i.toNat) = fp_lw (mv ν) i.toNat := am_cR (by omega) (by omega)
  have cA : am_c (am_shl 1 (2 * ν 83 14)) = am_shl 1 (2 * ν 83 14) := am_cR (by omega) (by omega)
  refine am_go (ct := fun _ => false) am_oX7_likely 300 ?_
  conv => whnf
  repeat' first
    | (refine (?_ : am_wp _ _ _ _ _ _ _ _ _ _ _ _); conv => whnf)
    | (refine (?_ : am_sw _ _ _ _); conv => whnf)
    | refine And.intro trivial ?_
    | exact trivial
    | refine x_isRunnerT _ f0 f1 (fun y0 y1 => ?_) (fun y => ?_)
    | refine x_isIn w _ _ _ rfl cw ?_ ?_ (fun _ _ => ?_) (fun _ => ?_)
    | refine x_lowest _ ?_ (fun μr fr => ?_)
    | (refine n_findFirsts hm hw (fun μ1 h1 g1 v1 => ?_); have e14 : μ1 83 14 = ν 83 14 := h1.2 83 14 rfl; have w1 : μ1 104 (am_c i).toNat = fp_lw (mv ν) i.toNat := (by rw [ci]; exact v1 i.toNat (by omega)))
    | (refine n_races ?_; rw [e14])
    | (rw [w1, cl, cA]; refine n_partOf _ _ _ cw lw.1 (by omega) (by omega) (by omega) ?_)
    | refine kk _ _ h1 ?_
    | refine kk _ _ (mi_84 hm fr) ?_
    | refine And.intro (fun h => absurd h (by omega)) (fun _ => ?_)
    | refine And.intro (fun _ => ?_) (fun h => absurd h (by omega))
    | refine And.intro (fun h => absurd h (by decide)) (fun _ => ?_)
    | refine And.intro (fun _ => ?_) (fun h => absurd (by decide) h)
    | refine And.intro (fun _ => ?_) (fun _ => ?_)
    | refine And.intro ?_ ?_
  all_goals (first | decide | omega | (rw [ci]; omega) | (unfold fp_lir; rw [e4, if_pos (by omega)]; rfl) | (unfold fp_lir; rw [e4, if_neg (by omega), if_pos (by omega)]; rfl) | (unfold fp_lir; rw [e4, if_neg (by omega), if_neg (by omega), ea]) | (trace_state; fail))
