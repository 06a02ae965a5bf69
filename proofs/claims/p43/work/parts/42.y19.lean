/-! a fraction in lowest terms -/
theorem fp_dR {z : Int} (h1 : -1000000000000 ≤ z) (h2 : z ≤ 1000000000000) : am_d z = z := by
  unfold am_d; omega
/-- what a comparison of longs tells -/
theorem fp_lcv (u v : Int) : (v < u ∧ am_c (if v < u then 1 else if u = v then 0 else -1) = 1) ∨ (u = v ∧ am_c (if v < u then 1 else if u = v then 0 else -1) = 0) ∨ (u < v ∧ am_c (if v < u then 1 else if u = v then 0 else -1) = -1) := by
  by_cases h : v < u
  · rw [if_pos h]; exact Or.inl ⟨h, rfl⟩
  · rw [if_neg h]
    by_cases g : u = v
    · rw [if_pos g]; exact Or.inr (Or.inl ⟨g, rfl⟩)
    · rw [if_neg g]; exact Or.inr (Or.inr ⟨by omega, rfl⟩)
def fp_gd (a b : Int) : Int := ((Nat.gcd a.toNat b.toNat : Nat) : Int)
theorem fp_gd_p {a b : Int} (hb : 0 < b) : 0 < fp_gd a b := by
  have h := Nat.gcd_pos_of_pos_right a.toNat (show 0 < b.toNat by omega)
  unfold fp_gd
  omega
theorem fp_gd_l {a b : Int} (hb : 0 < b) : fp_gd a b ≤ b := by
  have h := Nat.le_of_dvd (show 0 < b.toNat by omega) (Nat.gcd_dvd_right a.toNat b.toNat)
  unfold fp_gd
  omega
/-- the part w of a fraction -/
def fp_fr (a b w : Int) : Int := if w = 0 then a.tdiv (fp_gd a b) else b.tdiv (fp_gd a b)
theorem fp_gd_s {x y : Int} (hx : 0 ≤ x) (hy : 0 < y) : fp_gd y (x.tmod y) = fp_gd x y ∧ 0 ≤ x.tmod y ∧ x.tmod y < y := by
  have e : x.tmod y = x % y := Int.tmod_eq_emod_of_nonneg hx
  have e2 : (x % y).toNat = x.toNat % y.toNat := Int.toNat_emod hx (by omega)
  have b0 := Int.emod_nonneg x (show y ≠ 0 by omega)
  have b1 := Int.emod_lt_of_pos x hy
  rw [e]
  refine ⟨?_, b0, b1⟩
  unfold fp_gd
  rw [e2, Nat.gcd_comm x.toNat, Nat.gcd_rec y.toNat x.toNat, Nat.gcd_comm]
theorem fp_gd_0 {x : Int} (hx : 0 ≤ x) : fp_gd x 0 = x := by
  unfold fp_gd
  rw [show (0 : Int).toNat = 0 from rfl, Nat.gcd_zero_right]
  exact Int.toNat_of_nonneg hx
/-- halved: the fraction is the same -/
theorem fp_hv {x y A g : Int} (hx : 0 ≤ x) (hy : 0 ≤ y) (h : (2 * x) * g = A * fp_gd (2 * x) (2 * y)) : x * g = A * fp_gd x y := by
  have e : fp_gd (2 * x) (2 * y) = 2 * fp_gd x y := by
    unfold fp_gd
    rw [show (2 * x).toNat = 2 * x.toNat by omega, show (2 * y).toNat = 2 * y.toNat by omega, Nat.gcd_mul_left]
    omega
  rw [e, Int.mul_assoc, Int.mul_left_comm A] at h
  exact Int.eq_of_mul_eq_mul_left (by decide : (2 : Int) ≠ 0) h
theorem fp_hw {x y B g : Int} (hx : 0 ≤ x) (hy : 0 ≤ y) (h : (2 * y) * g = B * fp_gd (2 * x) (2 * y)) : y * g = B * fp_gd x y := by
  have e : fp_gd (2 * x) (2 * y) = 2 * fp_gd x y := by
    unfold fp_gd
    rw [show (2 * x).toNat = 2 * x.toNat by omega, show (2 * y).toNat = 2 * y.toNat by omega, Nat.gcd_mul_left]
    omega
  rw [e, Int.mul_assoc, Int.mul_left_comm B] at h
  exact Int.eq_of_mul_eq_mul_left (by decide : (2 : Int) ≠ 0) h
theorem fp_g1 {x y : Int} {t : Nat} (hx : 0 ≤ x) (hy : y = ((2 ^ t : Nat) : Int)) (h : x.tmod 2 ≠ 0 ∨ y ≤ 1) : fp_gd x y = 1 := by
  unfold fp_gd
  rcases h with h | h
  · rw [Int.tmod_eq_emod_of_nonneg hx] at h
    have o : x.toNat % 2 = 1 := by omega
    have c : Nat.Coprime x.toNat 2 := by
      show Nat.gcd x.toNat 2 = 1
      rw [Nat.gcd_comm, Nat.gcd_rec, o]
      exact Nat.gcd_one_left 2
    have q : Nat.gcd x.toNat (2 ^ t) = 1 := Nat.Coprime.pow_right t c
    rw [hy, Int.toNat_natCast, q]
    rfl
  · have p : 0 < 2 ^ t := Nat.pow_pos (by decide)
    have y1 : y.toNat = 1 := by omega
    rw [y1, Nat.gcd_one_right]
    rfl
theorem fp_p2 {y : Int} {t : Nat} (hy : y = ((2 ^ t : Nat) : Int)) (h : 1 < y) : ∃ u : Nat, t = u + 1 ∧ y.tdiv 2 = ((2 ^ u : Nat) : Int) ∧ y = 2 * y.tdiv 2 := by
  cases t with
  | zero => exfalso; rw [hy] at h; exact absurd h (by decide)
  | succ u =>
    have e : y = 2 * ((2 ^ u : Nat) : Int) := by rw [hy, Nat.pow_succ]; omega
    have d : y.tdiv 2 = ((2 ^ u : Nat) : Int) := by rw [Int.tdiv_eq_ediv_of_nonneg (by omega)]; omega
    exact ⟨u, rfl, d, by rw [d]; exact e⟩
theorem fp_fr_e {x g A : Int} (hg : 0 < g) (h : x * g = A) : x = A.tdiv g := by
  rw [← h]
  exact (Int.mul_tdiv_cancel x (by omega)).symm
theorem am_qd {Q : Option am_V → am_N → Prop} {μ : am_N} {x z : Int} (k : Q (some (.inr (.inl z))) μ) (h : x = z) : Q (some (.inr (.inl x))) μ := by rw [h]; exact k
theorem fp_lceq (x : Int) : am_c (if am_d x < am_d x then 1 else if am_d x = am_d x then 0 else -1) = 0 := by rw [if_neg (Int.lt_irrefl _), if_pos rfl]; rfl
theorem x_refuseLong {l : Launch} {ν : am_N} {Q : Option am_V → am_N → Prop} (w : Int) (hw : w = -1 ∨ w = -2 ∨ w = -3 ∨ w = -4 ∨ w = -6) (k : ∀ μ' : am_N, (∀ a b, a ≠ 78 → μ' a b = ν a b) → Q (some (.inr (.inl (4000000000000000000 - w)))) μ') : am_Does l 115 [.inr (.inr 0), .inl w] ν Q := by
  refine am_Does_of (Nat.le_of_ble_eq_true rfl) (Nat.le_of_ble_eq_true rfl) (Nat.le_of_ble_eq_true rfl) ?_
  have cw : am_c w = w := am_cR (by omega) (by omega)
  have kk := fun (x : Int) (μ' : am_N) (h : ∀ a b, a ≠ 78 → μ' a b = ν a b) (e : x = 4000000000000000000 - w) => am_qd (k μ' h) e
  refine am_go (ct := fun _ => false) am_oX6_refuseLong 300 ?_
  conv => whnf
  repeat' first
    | (refine (?_ : am_wp _ _ _ _ _ _ _ _ _ _ _ _); conv => whnf)
    | (refine (?_ : am_sw _ _ _ _); conv => whnf)
    | refine And.intro trivial ?_
    | exact trivial
    | ((with_reducible refine (?_ : am_Does _ 113 _ _ _)); refine x_refuse _ ?_ (fun μr fr => ?_))
    | refine kk _ _ fr ?_
    | refine And.intro (fun h => absurd h (by decide)) (fun _ => ?_)
    | refine And.intro (fun _ => ?_) (fun h => absurd (by decide) h)
    | refine And.intro (fun _ => ?_) (fun _ => ?_)
    | refine And.intro ?_ ?_
  all_goals (first | decide | assumption | (rw [cw]) | (trace_state; fail))
theorem x_lowest {l : Launch} {ν : am_N} {Q : Option am_V → am_N → Prop} (w : Int) (hw : w = -1 ∨ w = -2 ∨ w = -3 ∨ w = -4 ∨ w = -6) (k : ∀ μ' : am_N, (∀ a b, a ≠ 84 → μ' a b = ν a b) → Q (some (.inr (.inl (4000000000000000000 - w)))) μ') : am_Does l 142 [.inr (.inr 83), .inl w] ν Q := by
  refine am_Does_of (Nat.le_of_ble_eq_true rfl) (Nat.le_of_ble_eq_true rfl) (Nat.le_of_ble_eq_true rfl) ?_
  have cw : am_c (-w) = -w := am_cR (by omega) (by omega)
  have cx : am_c w = w := am_cR (by omega) (by omega)
  have kk := fun (x : Int) (μ' : am_N) (h : ∀ a b, a ≠ 84 → μ' a b = ν a b) (e : x = 4000000000000000000 - w) => am_qd (k μ' h) e
  refine am_go (ct := fun _ => false) am_oX7_lowest 300 ?_
  conv => whnf
  repeat' first
    | (refine (?_ : am_wp _ _ _ _ _ _ _ _ _ _ _ _); conv => whnf)
    | (refine (?_ : am_sw _ _ _ _); conv => whnf)
    | refine And.intro trivial ?_
    | exact trivial
    | refine kk _ _ ?_ ?_
    | refine And.intro (fun h => absurd h (by decide)) (fun _ => ?_)
    | refine And.intro (fun _ => ?_) (fun h => absurd (by decide) h)
    | refine And.intro (fun _ => ?_) (fun _ => ?_)
    | refine And.intro ?_ ?_
  all_goals (first | decide | omega | (intro a b h; exact am_upN h) | (simp only [cw] at *; omega) | (rw [cx]) | (trace_state; fail))
theorem fp_lc0 {u v : Int} : (am_c (if v < u then 1 else if u = v then 0 else -1) = 0) = (u = v) := by
  rcases fp_lcv u v with z | z | z <;> rw [z.2] <;> apply propext <;> constructor <;> intro h <;> first | omega | (exfalso; omega)
theorem fp_lcle {u v : Int} : (am_c (if v < u then 1 else if u = v then 0 else -1) ≤ 0) = (u ≤ v) := by
  rcases fp_lcv u v with z | z | z <;> rw [z.2] <;> apply propext <;> constructor <;> intro h <;> first | omega | (exfalso; omega)
theorem fp_lclt {u v : Int} : (am_c (if v < u then 1 else if u = v then 0 else -1) < 0) = (u < v) := by
  rcases fp_lcv u v with z | z | z <;> rw [z.2] <;> apply propext <;> constructor <;> intro h <;> first | omega | (exfalso; omega)
theorem fp_lcge {u v : Int} : (0 ≤ am_c (if v < u then 1 else if u = v then 0 else -1)) = (v ≤ u) := by
  rcases fp_lcv u v with z | z | z <;> rw [z.2] <;> apply propext <;> constructor <;> intro h <;> first | omega | (exfalso; omega)
theorem fp_lcgt {u v : Int} : (0 < am_c (if v < u then 1 else if u = v then 0 else -1)) = (v < u) := by
  rcases fp_lcv u v with z | z | z <;> rw [z.2] <;> apply propext <;> constructor <;> intro h <;> first | omega | (exfalso; omega)
theorem fp_fs {x y A B G j : Int} {t : Nat} (h0 : 0 ≤ x) (h1 : x ≤ 1000000000) (h3 : y ≤ 1000000000) (hy : y = ((2 ^ t : Nat) : Int)) (ht : (t : Int) + j ≤ 12) (q : x.tmod 2 = 0 ∧ 1 < y) (h6 : x * G = A * fp_gd x y) (h7 : y * G = B * fp_gd x y) : (0 ≤ x.tdiv 2 ∧ x.tdiv 2 ≤ 1000000000) ∧ (1 ≤ y.tdiv 2 ∧ y.tdiv 2 ≤ 1000000000) ∧ (∃ u : Nat, y.tdiv 2 = ((2 ^ u : Nat) : Int) ∧ (u : Int) + (j + 1) ≤ 12) ∧ x.tdiv 2 * G = A * fp_gd (x.tdiv 2) (y.tdiv 2) ∧ y.tdiv 2 * G = B * fp_gd (x.tdiv 2) (y.tdiv 2) := by
  obtain ⟨u, tu, yu, y2⟩ := fp_p2 hy q.2
  obtain ⟨q1, q2⟩ := q
  have xd : x.tdiv 2 = x / 2 := Int.tdiv_eq_ediv_of_nonneg h0
  have yd : y.tdiv 2 = y / 2 := Int.tdiv_eq_ediv_of_nonneg (by clear h6 h7 hy yu; omega)
  have xm : x.tmod 2 = x % 2 := Int.tmod_eq_emod_of_nonneg h0
  have x2 : x = 2 * x.tdiv 2 := by rw [xm] at q1; rw [xd]; clear h6 h7 hy yu y2; omega
  have b1 : 0 ≤ x.tdiv 2 ∧ x.tdiv 2 ≤ 1000000000 := by rw [xd]; clear h6 h7 hy yu y2 x2; omega
  have b2 : 1 ≤ y.tdiv 2 ∧ y.tdiv 2 ≤ 1000000000 := by rw [yd]; clear h6 h7 hy yu y2 x2; omega
  have b3 : (u : Int) + (j + 1) ≤ 12 := by clear h6 h7 hy yu y2 x2; omega
  have b4 : 0 ≤ y.tdiv 2 := by clear h6 h7 hy yu y2 x2; omega
  exact ⟨b1, b2, ⟨u, yu, b3⟩, fp_hv b1.1 b4 (by rw [← x2, ← y2]; exact h6), fp_hw b1.1 b4 (by rw [← x2, ← y2]; exact h7)⟩
theorem s_fraction {l : Launch} {μ : am_N} {Q : Option am_V → am_N → Prop} (A B w : Int) (e0 : Nat) (cw : am_c w = w) (A0 : 0 ≤ A) (A1 : A ≤ 1000000000) (eB : B = ((2 ^ e0 : Nat) : Int)) (h0 : e0 ≤ 12) (B1 : B ≤ 1000000000) (k : Q (some (.inr (.inl (fp_fr A B w)))) μ) : am_Does l 118 [.inr (.inl A), .inr (.inl B), .inl w] μ Q := by
  refine am_Does_of (Nat.le_of_ble_eq_true rfl) (Nat.le_of_ble_eq_true rfl) (Nat.le_of_ble_eq_true rfl) ?_
  have l0 : am_c 0 = 0 := rfl
  have l62 : am_c 62 = 62 := rfl
  have p0 : 0 < 2 ^ e0 := Nat.pow_pos (by decide)
  have gp := fp_gd_p (a := A) (b := B) (by omega)
  have d2 : am_d 2 = 2 := rfl
  have d1 : am_d 1 = 1 := rfl
  have d0 : am_d 0 = 0 := rfl
  have fin : ∀ (x y : Int) (t : Nat), 0 ≤ x → y = ((2 ^ t : Nat) : Int) → x * fp_gd A B = A * fp_gd x y → y * fp_gd A B = B * fp_gd x y → (x.tmod 2 ≠ 0 ∨ y ≤ 1) → (w = 0 → x = fp_fr A B w) ∧ (¬ w = 0 → y = fp_fr A B w) := by
    intro x y t h0 hy h6 h7 q
    have g1 := fp_g1 h0 hy q
    rw [g1, Int.mul_one] at h6 h7
    refine ⟨fun z => ?_, fun z => ?_⟩
    · unfold fp_fr; rw [if_pos z]; exact fp_fr_e gp h6
    · unfold fp_fr; rw [if_neg z]; exact fp_fr_e gp h7
  have lp9 : ∀ (m : Nat) (x y j : Int) , 0 ≤ x → x ≤ 1000000000 → 1 ≤ y → y ≤ 1000000000 → 0 ≤ j → (∃ t : Nat, y = ((2 ^ t : Nat) : Int) ∧ (t : Int) + j ≤ 12) → x * fp_gd A B = A * fp_gd x y → y * fp_gd A B = B * fp_gd x y → 20 - j < (m : Int) → am_AW l 0 (fun _ => 0) 118 Q 9 [some (.inr (.inl A)), none, some (.inr (.inl B)), none, some (.inl w), some (.inr (.inl x)), none, some (.inr (.inl y)), none, some (.inl j)] [] μ := by
    intro m
    induction m with
    | zero =>
      intro x y j  hv0 hv1 hv2 hv3 hv4 hv5 hv6 hv7 hm
      obtain ⟨t, hy, ht⟩ := hv5
      exfalso
      clear hv6 hv7 hy gp p0 eB k fin
      omega
    | succ m ih =>
      intro x y j  hv0 hv1 hv2 hv3 hv4 hv5 hv6 hv7 hm
      obtain ⟨t, hy, ht⟩ := hv5
      have F := fin x y t hv0 hy hv6 hv7
      have S := fun q => fp_fs (j := j) hv0 hv1 hv3 hy ht q hv6 hv7
      clear hv6 hv7 hy gp p0 eB fin
      have tj : j ≤ 12 := by clear F S k ih; omega
      have j1 : 0 ≤ j + 1 := by clear F S k ih; omega
      have m1 : 20 - (j + 1) < (m : Int) := by clear F S k ih; omega
      have cj : am_c j = j := by clear F S k ih; exact am_cR (by omega) (by omega)
      have dx : am_d x = x := by clear F S k ih; exact fp_dR (by omega) (by omega)
      have dy : am_d y = y := by clear F S k ih; exact fp_dR (by omega) (by omega)
      have xm : x.tmod 2 = x % 2 := Int.tmod_eq_emod_of_nonneg hv0
      have dm : am_d (x.tmod 2) = x.tmod 2 := by clear F S k ih; rw [xm]; exact fp_dR (by omega) (by omega)
      have ex : (am_d x).tdiv (am_d 2) = x.tdiv 2 := by rw [dx, d2]
      have ey : (am_d y).tdiv (am_d 2) = y.tdiv 2 := by rw [dy, d2]
      refine am_go (ct := fun pc => Nat.beq pc 9) am_oX6_fraction 300 ?_
      conv => whnf
      repeat' first
        | (refine (?_ : am_wp _ _ _ _ _ _ _ _ _ _ _ _); conv => whnf)
        | (refine (?_ : am_sw _ _ _ _); conv => whnf)
        | refine And.intro trivial ?_
        | exact trivial
        | ((with_reducible refine (?_ : Q _ _)); (have q1 : x.tmod 2 ≠ 0 ∨ y ≤ 1 := (by clear F S k ih ex ey; simp only [dx, dy, d2, d1, d0, dm, fp_lc0, fp_lcle, fp_lclt, fp_lcge, fp_lcgt, l0] at *; clear dx dy dm d2 d1 d0 cw; omega)); refine am_qd k ?_; first | exact (F q1).1 (by rw [← cw]; (with_reducible assumption)) | exact (F q1).2 (by rw [← cw]; (with_reducible assumption)))
        | ((with_reducible refine (?_ : am_AW _ _ _ _ _ 9 _ _ _)); (have q1 : x.tmod 2 = 0 ∧ 1 < y := (by clear F S k ih ex ey; simp only [dx, dy, d2, d1, d0, dm, fp_lc0, fp_lcle, fp_lclt, fp_lcge, fp_lcgt, l0] at *; clear dx dy dm d2 d1 d0 cw; omega)); obtain ⟨b1, b2, b3, b4, b5⟩ := S q1; exact ih _ _ _ (by rw [ex]; exact b1.1) (by rw [ex]; exact b1.2) (by rw [ey]; exact b2.1) (by rw [ey]; exact b2.2) j1 (by rw [ey]; exact b3) (by rw [ex, ey]; exact b4) (by rw [ex, ey]; exact b5) m1)
        | refine And.intro (fun h => absurd h (by decide)) (fun _ => ?_)
        | refine And.intro (fun _ => ?_) (fun h => absurd (by decide) h)
        | refine And.intro (fun _ => ?_) (fun _ => ?_)
        | refine And.intro ?_ ?_
      all_goals (first | decide | (rw [d2]; decide) | (clear F S k ih; omega))
  have lp9' : ∀ (x y j : Int) , 0 ≤ x → x ≤ 1000000000 → 1 ≤ y → y ≤ 1000000000 → 0 ≤ j → (∃ t : Nat, y = ((2 ^ t : Nat) : Int) ∧ (t : Int) + j ≤ 12) → x * fp_gd A B = A * fp_gd x y → y * fp_gd A B = B * fp_gd x y → am_AW l 0 (fun _ => 0) 118 Q 9 [some (.inr (.inl A)), none, some (.inr (.inl B)), none, some (.inl w), some (.inr (.inl x)), none, some (.inr (.inl y)), none, some (.inl j)] [] μ := fun x y j  hv0 hv1 hv2 hv3 hv4 hv5 hv6 hv7 => lp9 ((20 - j) + 1).toNat x y j  hv0 hv1 hv2 hv3 hv4 hv5 hv6 hv7 (by omega)
  refine am_go (ct := fun pc => Nat.beq pc 9) am_oX6_fraction 300 ?_
  conv => whnf
  repeat' first
    | (refine (?_ : am_wp _ _ _ _ _ _ _ _ _ _ _ _); conv => whnf)
    | (refine (?_ : am_sw _ _ _ _); conv => whnf)
    | refine And.intro trivial ?_
    | exact trivial
    | refine lp9' _ _ _  ?_ ?_ ?_ ?_ ?_ ?_ ?_ ?_
    | refine And.intro (fun h => absurd h (by decide)) (fun _ => ?_)
    | refine And.intro (fun _ => ?_) (fun h => absurd (by decide) h)
    | refine And.intro (fun _ => ?_) (fun _ => ?_)
    | refine And.intro ?_ ?_
  all_goals (first | decide | (with_reducible assumption) | omega | rfl | exact ⟨e0, eB, by omega⟩ | (exact Int.mul_comm _ _) | (trace_state; fail))
theorem n_divisorG {l : Launch} {μ : am_N} {Q : Option am_V → am_N → Prop} (G : Int → Int → Int) (hG : ∀ x y : Int, 0 ≤ x → 0 < y → G y (x.tmod y) = G x y ∧ 0 ≤ x.tmod y ∧ x.tmod y < y) (hz : ∀ x : Int, 0 ≤ x → G x 0 = x) (A B : Int) (A0 : 0 ≤ A) (A1 : A ≤ 1000000000) (B0 : 1 ≤ B) (B1 : B ≤ 1000000000) (k : Q (some (.inr (.inl (G A B)))) μ) : am_Does l 184 [.inr (.inl A), .inr (.inl B)] μ Q := by
  refine am_Does_of (Nat.le_of_ble_eq_true rfl) (Nat.le_of_ble_eq_true rfl) (Nat.le_of_ble_eq_true rfl) ?_
  have lp6 : ∀ (m : Nat) (x y : Int) (o8 o9 : Option am_V) , 0 ≤ x → x ≤ 1000000000 → 0 ≤ y → y ≤ 1000000000 → G x y = G A B → y < (m : Int) → am_AW l 0 (fun _ => 0) 184 Q 6 [some (.inr (.inl A)), none, some (.inr (.inl B)), none, some (.inr (.inl x)), none, some (.inr (.inl y)), none, o8, o9] [] μ := by
    intro m
    induction m with
    | zero =>
      intro x y o8 o9 hv0 hv1 hv2 hv3 hv4 hm
      exfalso
      omega
    | succ m ih =>
      intro x y o8 o9 hv0 hv1 hv2 hv3 hv4 hm
      have dx : am_d x = x := fp_dR (by omega) (by omega)
      have dy : am_d y = y := fp_dR (by omega) (by omega)
      have e1 : 0 < y → am_c (if am_d 0 < am_d y then 1 else if am_d y = am_d 0 then 0 else -1) = 0 → False := by
        intro q h
        rw [dy, if_pos (show am_d 0 < y from q)] at h
        exact absurd h (by decide)
      have e0 : y = 0 → am_c (if am_d 0 < am_d y then 1 else if am_d y = am_d 0 then 0 else -1) = 0 := by
        intro q
        rw [q]
        rfl
      have kz : y = 0 → Q (some (.inr (.inl x))) μ := fun q => am_qd k (by rw [← hv4, q]; exact (hz x hv0).symm)
      have kp : 0 < y → am_AW l 0 (fun _ => 0) 184 Q 6 [some (.inr (.inl A)), none, some (.inr (.inl B)), none, some (.inr (.inl y)), none, some (.inr (.inl ((am_d x).tmod (am_d y)))), none, some (.inr (.inl ((am_d x).tmod (am_d y)))), none] [] μ := by
        intro q
        obtain ⟨h1, h2, h3⟩ := hG x y hv0 q
        rw [dx, dy]
        exact ih y (x.tmod y) _ _ hv2 hv3 h2 (by omega) (h1.trans hv4) (by omega)
      clear ih k hG hz
      refine am_go (ct := fun pc => Nat.beq pc 6) am_oX7_divisor 300 ?_
      conv => whnf
      refine And.intro (fun h => ?_) (fun h => ?_)
      · have q : y = 0 := Int.le_antisymm (Int.not_lt.mp (fun z => e1 z h)) hv2
        conv => whnf
        exact And.intro trivial (kz q)
      · have q : 0 < y := by
          have n : ¬ y = 0 := fun z => h (e0 z)
          clear h e0 e1 kz kp
          omega
        conv => whnf
        refine And.intro (fun z => ?_) ?_
        · rw [dy] at z
          omega
        · conv => whnf
          exact And.intro trivial (kp q)
  refine am_go (ct := fun pc => Nat.beq pc 6) am_oX7_divisor 300 ?_
  conv => whnf
  exact And.intro trivial (lp6 (B + 1).toNat A B none none A0 A1 (by omega) B1 rfl (by omega))
theorem n_divisor {l : Launch} {μ : am_N} {Q : Option am_V → am_N → Prop} (A B : Int) (A0 : 0 ≤ A) (A1 : A ≤ 1000000000) (B0 : 1 ≤ B) (B1 : B ≤ 1000000000) (k : Q (some (.inr (.inl (fp_gd A B)))) μ) : am_Does l 184 [.inr (.inl A), .inr (.inl B)] μ Q := n_divisorG fp_gd (fun _ _ h g => fp_gd_s h g) (fun _ h => fp_gd_0 h) A B A0 A1 B0 B1 k
theorem n_partOfG {l : Launch} {μ : am_N} {Q : Option am_V → am_N → Prop} (A B w G : Int) (gp : 0 < G) (gl : G ≤ B) (kD : ∀ {μ' : am_N} {Q' : Option am_V → am_N → Prop}, Q' (some (.inr (.inl G))) μ' → am_Does l 184 [.inr (.inl A), .inr (.inl B)] μ' Q') (cw : am_c w = w) (A0 : 0 ≤ A) (A1 : A ≤ 1000000000) (B0 : 1 ≤ B) (B1 : B ≤ 1000000000) (k : Q (some (.inr (.inl (if w = 0 then A.tdiv G else B.tdiv G)))) μ) : am_Does l 185 [.inr (.inl A), .inr (.inl B), .inl w] μ Q := by
  refine am_Does_of (Nat.le_of_ble_eq_true rfl) (Nat.le_of_ble_eq_true rfl) (Nat.le_of_ble_eq_true rfl) ?_
  have l0 : am_c 0 = 0 := rfl
  have l1 : am_c 1 = 1 := rfl
  have l2 : am_c 2 = 2 := rfl
  have l16 : am_c 16 = 16 := rfl
  have l62 : am_c 62 = 62 := rfl
  have l4096 : am_c 4096 = 4096 := rfl
  have dA : am_d A = A := fp_dR (by omega) (by omega)
  have dB : am_d B = B := fp_dR (by omega) (by omega)
  have dG : am_d G = G := fp_dR (by omega) (by omega)
  refine am_go (ct := fun _ => false) am_oX7_partOf 300 ?_
  conv => whnf
  repeat' first
    | (refine (?_ : am_wp _ _ _ _ _ _ _ _ _ _ _ _); conv => whnf)
    | (refine (?_ : am_sw _ _ _ _); conv => whnf)
    | refine And.intro trivial ?_
    | exact trivial
    | refine kD ?_
    | refine am_qd k ?_
    | refine And.intro (fun h => absurd h (by decide)) (fun _ => ?_)
    | refine And.intro (fun _ => ?_) (fun h => absurd (by decide) h)
    | refine And.intro (fun _ => ?_) (fun _ => ?_)
    | refine And.intro ?_ ?_
  all_goals (first | decide | (intro z; rw [dG] at z; omega) | (rw [dG]; exact Int.ne_of_gt gp) | (rw [dG]; omega) | (rw [dG]; first | (rw [if_pos (by simp only [cw, l0] at *; omega), dA]) | (rw [if_neg (by simp only [cw, l0] at *; omega), dB])) | (trace_state; fail))
theorem n_partOf {l : Launch} {μ : am_N} {Q : Option am_V → am_N → Prop} (A B w : Int) (cw : am_c w = w) (A0 : 0 ≤ A) (A1 : A ≤ 1000000000) (B0 : 1 ≤ B) (B1 : B ≤ 1000000000) (k : Q (some (.inr (.inl (fp_fr A B w)))) μ) : am_Does l 185 [.inr (.inl A), .inr (.inl B), .inl w] μ Q := n_partOfG A B w (fp_gd A B) (fp_gd_p (by omega)) (fp_gd_l (by omega)) (fun k => n_divisor A B A0 A1 B0 B1 k) cw A0 A1 B0 B1 k
theorem fp_al2_e {n : Int} (h0 : 0 ≤ n) (h1 : n ≤ 4) : ∃ t : Nat, am_shl 1 (2 * n) = ((2 ^ t : Nat) : Int) ∧ t ≤ 12 := by
  rcases (show n = 0 ∨ n = 1 ∨ n = 2 ∨ n = 3 ∨ n = 4 by omega) with rfl | rfl | rfl | rfl | rfl
  · exact ⟨0, by decide +kernel, by decide⟩
  · exact ⟨2, by decide +kernel, by decide⟩
  · exact ⟨4, by decide +kernel, by decide⟩
  · exact ⟨6, by decide +kernel, by decide⟩
  · exact ⟨8, by decide +kernel, by decide⟩
