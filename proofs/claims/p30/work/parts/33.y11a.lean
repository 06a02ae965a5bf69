/-! public changes, exactly: the class -/
theorem x_rat_48 {l : Launch} {ν : am_N} {Q : Option am_V → am_N → Prop} (i : Int) (i0 : 0 ≤ i) (i1 : i < ν 48 1) (hn : ν 48 1 ≤ 6) (k : Q (some (.inl (ν 49 i.toNat))) ν) : am_Does l 43 [.inr (.inr 48), .inl i] ν Q := by
  refine am_Does_of (Nat.le_of_ble_eq_true rfl) (Nat.le_of_ble_eq_true rfl) (Nat.le_of_ble_eq_true rfl) ?_
  have l0 : am_c 0 = 0 := rfl
  have ci : am_c i = i := am_cR (by omega) (by omega)
  have cn : am_c (ν 48 1) = ν 48 1 := am_cR (by omega) (by omega)
  refine am_go (ct := fun _ => false) am_oX3_at 300 ?_
  conv => whnf
  repeat' first
    | (refine (?_ : am_wp _ _ _ _ _ _ _ _ _ _ _ _); conv => whnf)
    | (refine (?_ : am_sw _ _ _ _); conv => whnf)
    | refine And.intro trivial ?_
    | exact trivial
    | refine am_qe k ?_
    | refine And.intro (fun h => absurd h (by decide)) (fun _ => ?_)
    | refine And.intro (fun _ => ?_) (fun h => absurd (by decide) h)
    | refine And.intro (fun _ => ?_) (fun _ => ?_)
    | refine And.intro ?_ ?_
  all_goals (first | decide | omega | (simp only [ci, cn] at *; omega) | (rw [ci]) | (exfalso; simp only [ci, cn] at *; omega) | (trace_state; fail))
theorem x_rt_50_48 {l : Launch} {ν : am_N} {Q : Option am_V → am_N → Prop} (h0 : 0 ≤ ν 48 1) (h1 : ν 48 1 ≤ 6) (k : ∀ μ' : am_N, (∀ a b, ¬(a = 50 ∧ b = 1) → a ≠ 51 → μ' a b = ν a b) → μ' 50 1 = ν 48 1 → (∀ i : Nat, (i : Int) < ν 48 1 → μ' 51 i = ν 49 i) → Q none μ') : am_Does l 45 [.inr (.inr 50), .inr (.inr 48)] ν Q := by
  refine am_Does_of (Nat.le_of_ble_eq_true rfl) (Nat.le_of_ble_eq_true rfl) (Nat.le_of_ble_eq_true rfl) ?_
  have cn : am_c (ν 48 1) = ν 48 1 := am_cR (by omega) (by omega)
  have lc : am_c 6 = 6 := rfl
  have lp18 : ∀ (m : Nat) (i : Int) (μ : am_N) , (∀ a b, ¬(a = 50 ∧ b = 1) → a ≠ 51 → μ a b = ν a b) → μ 50 1 = ν 48 1 → 0 ≤ i → i ≤ ν 48 1 → (∀ q : Nat, (q : Int) < i → μ 51 q = ν 49 q) → ν 48 1 - i < (m : Int) → am_AW l 0 (fun _ => 0) 45 Q 18 [some (.inr (.inr 50)), some (.inr (.inr 48)), some (.inl i)] [] μ := by
    intro m
    induction m with
    | zero =>
      intro i μ hv0 hv1 hv2 hv3 hv4 hm
      exfalso
      omega
    | succ m ih =>
      intro i μ hv0 hv1 hv2 hv3 hv4 hm
      have ci : am_c i = i := am_cR (by omega) (by omega)
      have cF : am_c (μ 50 1) = ν 48 1 := by rw [hv1]; exact cn
      have eO : μ 48 1 = ν 48 1 := hv0 48 1 (by first | decide | omega | exact fun z => absurd z.1 (by decide)) (by first | decide | omega | exact fun z => absurd z.1 (by decide))
      refine am_go (ct := fun pc => Nat.beq pc 18) am_oX3_take 300 ?_
      conv => whnf
      repeat' first
        | (refine (?_ : am_wp _ _ _ _ _ _ _ _ _ _ _ _); conv => whnf)
        | (refine (?_ : am_sw _ _ _ _); conv => whnf)
        | refine And.intro trivial ?_
        | exact trivial
        | (have iN : i < ν 48 1 := (by simp only [ci, cF] at *; omega); refine x_rat_48 i hv2 (by rw [eO]; exact iN) (by rw [eO]; exact h1) ?_)
        | refine k _ hv0 hv1 ?_
        | refine ih _ _ ?_ ?_ ?_ ?_ ?_ ?_
        | refine And.intro (fun h => absurd h (by decide)) (fun _ => ?_)
        | refine And.intro (fun _ => ?_) (fun h => absurd (by decide) h)
        | refine And.intro (fun _ => ?_) (fun _ => ?_)
        | refine And.intro ?_ ?_
      all_goals (first | decide | assumption | omega | (simp only [ci, cF] at *; omega) | (intro a b q1 q2; rw [am_upN q2]; exact hv0 a b q1 q2) | (rw [am_upN (by decide)]; exact hv1) | (intro q hq; by_cases d : (q : Int) = i; (rw [am_upS, if_pos ⟨rfl, by rw [ci]; omega⟩, hv0 _ _ (by first | decide | omega | exact fun z => absurd z.1 (by decide)) (by first | decide | omega | exact fun z => absurd z.1 (by decide)), show i.toNat = q by omega]); (rw [am_upM (by rw [ci]; omega)]; exact hv4 q (by omega))) | (intro q hq; exact hv4 q (by simp only [ci, cF] at *; omega)) | (trace_state; fail))
  have lp18' : ∀ (i : Int) (μ : am_N) , (∀ a b, ¬(a = 50 ∧ b = 1) → a ≠ 51 → μ a b = ν a b) → μ 50 1 = ν 48 1 → 0 ≤ i → i ≤ ν 48 1 → (∀ q : Nat, (q : Int) < i → μ 51 q = ν 49 q) → am_AW l 0 (fun _ => 0) 45 Q 18 [some (.inr (.inr 50)), some (.inr (.inr 48)), some (.inl i)] [] μ := fun i μ hv0 hv1 hv2 hv3 hv4 => lp18 ((ν 48 1 - i) + 1).toNat i μ hv0 hv1 hv2 hv3 hv4 (by omega)
  refine am_go (ct := fun pc => Nat.beq pc 18) am_oX3_take 300 ?_
  conv => whnf
  repeat' first
    | (refine (?_ : am_wp _ _ _ _ _ _ _ _ _ _ _ _); conv => whnf)
    | (refine (?_ : am_sw _ _ _ _); conv => whnf)
    | refine And.intro trivial ?_
    | exact trivial
    | refine lp18' _ _ ?_ ?_ ?_ ?_ ?_
    | refine And.intro (fun h => absurd h (by decide)) (fun _ => ?_)
    | refine And.intro (fun _ => ?_) (fun h => absurd (by decide) h)
    | refine And.intro (fun _ => ?_) (fun _ => ?_)
    | refine And.intro ?_ ?_
  all_goals (first | decide | omega | (intro a b q1 q2; exact am_uE q1) | (rw [am_upS, if_pos ⟨rfl, rfl⟩]; exact if_neg (show ¬ am_c 6 < am_c (ν 48 1) by rw [cn]; omega)) | (intros; omega) | (trace_state; fail))
theorem x_rat_53 {l : Launch} {ν : am_N} {Q : Option am_V → am_N → Prop} (i : Int) (i0 : 0 ≤ i) (i1 : i < ν 53 1) (hn : ν 53 1 ≤ 4) (k : Q (some (.inl (ν 54 i.toNat))) ν) : am_Does l 43 [.inr (.inr 53), .inl i] ν Q := by
  refine am_Does_of (Nat.le_of_ble_eq_true rfl) (Nat.le_of_ble_eq_true rfl) (Nat.le_of_ble_eq_true rfl) ?_
  have l0 : am_c 0 = 0 := rfl
  have ci : am_c i = i := am_cR (by omega) (by omega)
  have cn : am_c (ν 53 1) = ν 53 1 := am_cR (by omega) (by omega)
  refine am_go (ct := fun _ => false) am_oX3_at 300 ?_
  conv => whnf
  repeat' first
    | (refine (?_ : am_wp _ _ _ _ _ _ _ _ _ _ _ _); conv => whnf)
    | (refine (?_ : am_sw _ _ _ _); conv => whnf)
    | refine And.intro trivial ?_
    | exact trivial
    | refine am_qe k ?_
    | refine And.intro (fun h => absurd h (by decide)) (fun _ => ?_)
    | refine And.intro (fun _ => ?_) (fun h => absurd (by decide) h)
    | refine And.intro (fun _ => ?_) (fun _ => ?_)
    | refine And.intro ?_ ?_
  all_goals (first | decide | omega | (simp only [ci, cn] at *; omega) | (rw [ci]) | (exfalso; simp only [ci, cn] at *; omega) | (trace_state; fail))
theorem x_rt_58_53 {l : Launch} {ν : am_N} {Q : Option am_V → am_N → Prop} (h0 : 0 ≤ ν 53 1) (h1 : ν 53 1 ≤ 4) (k : ∀ μ' : am_N, (∀ a b, ¬(a = 58 ∧ b = 1) → a ≠ 59 → μ' a b = ν a b) → μ' 58 1 = ν 53 1 → (∀ i : Nat, (i : Int) < ν 53 1 → μ' 59 i = ν 54 i) → Q none μ') : am_Does l 45 [.inr (.inr 58), .inr (.inr 53)] ν Q := by
  refine am_Does_of (Nat.le_of_ble_eq_true rfl) (Nat.le_of_ble_eq_true rfl) (Nat.le_of_ble_eq_true rfl) ?_
  have cn : am_c (ν 53 1) = ν 53 1 := am_cR (by omega) (by omega)
  have lc : am_c 4 = 4 := rfl
  have lp18 : ∀ (m : Nat) (i : Int) (μ : am_N) , (∀ a b, ¬(a = 58 ∧ b = 1) → a ≠ 59 → μ a b = ν a b) → μ 58 1 = ν 53 1 → 0 ≤ i → i ≤ ν 53 1 → (∀ q : Nat, (q : Int) < i → μ 59 q = ν 54 q) → ν 53 1 - i < (m : Int) → am_AW l 0 (fun _ => 0) 45 Q 18 [some (.inr (.inr 58)), some (.inr (.inr 53)), some (.inl i)] [] μ := by
    intro m
    induction m with
    | zero =>
      intro i μ hv0 hv1 hv2 hv3 hv4 hm
      exfalso
      omega
    | succ m ih =>
      intro i μ hv0 hv1 hv2 hv3 hv4 hm
      have ci : am_c i = i := am_cR (by omega) (by omega)
      have cF : am_c (μ 58 1) = ν 53 1 := by rw [hv1]; exact cn
      have eO : μ 53 1 = ν 53 1 := hv0 53 1 (by first | decide | omega | exact fun z => absurd z.1 (by decide)) (by first | decide | omega | exact fun z => absurd z.1 (by decide))
      refine am_go (ct := fun pc => Nat.beq pc 18) am_oX3_take 300 ?_
      conv => whnf
      repeat' first
        | (refine (?_ : am_wp _ _ _ _ _ _ _ _ _ _ _ _); conv => whnf)
        | (refine (?_ : am_sw _ _ _ _); conv => whnf)
        | refine And.intro trivial ?_
        | exact trivial
        | (have iN : i < ν 53 1 := (by simp only [ci, cF] at *; omega); refine x_rat_53 i hv2 (by rw [eO]; exact iN) (by rw [eO]; exact h1) ?_)
        | refine k _ hv0 hv1 ?_
        | refine ih _ _ ?_ ?_ ?_ ?_ ?_ ?_
        | refine And.intro (fun h => absurd h (by decide)) (fun _ => ?_)
        | refine And.intro (fun _ => ?_) (fun h => absurd (by decide) h)
        | refine And.intro (fun _ => ?_) (fun _ => ?_)
        | refine And.intro ?_ ?_
      all_goals (first | decide | assumption | omega | (simp only [ci, cF] at *; omega) | (intro a b q1 q2; rw [am_upN q2]; exact hv0 a b q1 q2) | (rw [am_upN (by decide)]; exact hv1) | (intro q hq; by_cases d : (q : Int) = i; (rw [am_upS, if_pos ⟨rfl, by rw [ci]; omega⟩, hv0 _ _ (by first | decide | omega | exact fun z => absurd z.1 (by decide)) (by first | decide | omega | exact fun z => absurd z.1 (by decide)), show i.toNat = q by omega]); (rw [am_upM (by rw [ci]; omega)]; exact hv4 q (by omega))) | (intro q hq; exact hv4 q (by simp only [ci, cF] at *; omega)) | (trace_state; fail))
  have lp18' : ∀ (i : Int) (μ : am_N) , (∀ a b, ¬(a = 58 ∧ b = 1) → a ≠ 59 → μ a b = ν a b) → μ 58 1 = ν 53 1 → 0 ≤ i → i ≤ ν 53 1 → (∀ q : Nat, (q : Int) < i → μ 59 q = ν 54 q) → am_AW l 0 (fun _ => 0) 45 Q 18 [some (.inr (.inr 58)), some (.inr (.inr 53)), some (.inl i)] [] μ := fun i μ hv0 hv1 hv2 hv3 hv4 => lp18 ((ν 53 1 - i) + 1).toNat i μ hv0 hv1 hv2 hv3 hv4 (by omega)
  refine am_go (ct := fun pc => Nat.beq pc 18) am_oX3_take 300 ?_
  conv => whnf
  repeat' first
    | (refine (?_ : am_wp _ _ _ _ _ _ _ _ _ _ _ _); conv => whnf)
    | (refine (?_ : am_sw _ _ _ _); conv => whnf)
    | refine And.intro trivial ?_
    | exact trivial
    | refine lp18' _ _ ?_ ?_ ?_ ?_ ?_
    | refine And.intro (fun h => absurd h (by decide)) (fun _ => ?_)
    | refine And.intro (fun _ => ?_) (fun h => absurd (by decide) h)
    | refine And.intro (fun _ => ?_) (fun _ => ?_)
    | refine And.intro ?_ ?_
  all_goals (first | decide | omega | (intro a b q1 q2; exact am_uE q1) | (rw [am_upS, if_pos ⟨rfl, rfl⟩]; exact if_neg (show ¬ am_c 4 < am_c (ν 53 1) by rw [cn]; omega)) | (intros; omega) | (trace_state; fail))
theorem x_rat_55 {l : Launch} {ν : am_N} {Q : Option am_V → am_N → Prop} (i : Int) (i0 : 0 ≤ i) (i1 : i < ν 55 1) (hn : ν 55 1 ≤ 4) (k : Q (some (.inl (ν 56 i.toNat))) ν) : am_Does l 43 [.inr (.inr 55), .inl i] ν Q := by
  refine am_Does_of (Nat.le_of_ble_eq_true rfl) (Nat.le_of_ble_eq_true rfl) (Nat.le_of_ble_eq_true rfl) ?_
  have l0 : am_c 0 = 0 := rfl
  have ci : am_c i = i := am_cR (by omega) (by omega)
  have cn : am_c (ν 55 1) = ν 55 1 := am_cR (by omega) (by omega)
  refine am_go (ct := fun _ => false) am_oX3_at 300 ?_
  conv => whnf
  repeat' first
    | (refine (?_ : am_wp _ _ _ _ _ _ _ _ _ _ _ _); conv => whnf)
    | (refine (?_ : am_sw _ _ _ _); conv => whnf)
    | refine And.intro trivial ?_
    | exact trivial
    | refine am_qe k ?_
    | refine And.intro (fun h => absurd h (by decide)) (fun _ => ?_)
    | refine And.intro (fun _ => ?_) (fun h => absurd (by decide) h)
    | refine And.intro (fun _ => ?_) (fun _ => ?_)
    | refine And.intro ?_ ?_
  all_goals (first | decide | omega | (simp only [ci, cn] at *; omega) | (rw [ci]) | (exfalso; simp only [ci, cn] at *; omega) | (trace_state; fail))
theorem x_rt_60_55 {l : Launch} {ν : am_N} {Q : Option am_V → am_N → Prop} (h0 : 0 ≤ ν 55 1) (h1 : ν 55 1 ≤ 4) (k : ∀ μ' : am_N, (∀ a b, ¬(a = 60 ∧ b = 1) → a ≠ 61 → μ' a b = ν a b) → μ' 60 1 = ν 55 1 → (∀ i : Nat, (i : Int) < ν 55 1 → μ' 61 i = ν 56 i) → Q none μ') : am_Does l 45 [.inr (.inr 60), .inr (.inr 55)] ν Q := by
  refine am_Does_of (Nat.le_of_ble_eq_true rfl) (Nat.le_of_ble_eq_true rfl) (Nat.le_of_ble_eq_true rfl) ?_
  have cn : am_c (ν 55 1) = ν 55 1 := am_cR (by omega) (by omega)
  have lc : am_c 4 = 4 := rfl
  have lp18 : ∀ (m : Nat) (i : Int) (μ : am_N) , (∀ a b, ¬(a = 60 ∧ b = 1) → a ≠ 61 → μ a b = ν a b) → μ 60 1 = ν 55 1 → 0 ≤ i → i ≤ ν 55 1 → (∀ q : Nat, (q : Int) < i → μ 61 q = ν 56 q) → ν 55 1 - i < (m : Int) → am_AW l 0 (fun _ => 0) 45 Q 18 [some (.inr (.inr 60)), some (.inr (.inr 55)), some (.inl i)] [] μ := by
    intro m
    induction m with
    | zero =>
      intro i μ hv0 hv1 hv2 hv3 hv4 hm
      exfalso
      omega
    | succ m ih =>
      intro i μ hv0 hv1 hv2 hv3 hv4 hm
      have ci : am_c i = i := am_cR (by omega) (by omega)
      have cF : am_c (μ 60 1) = ν 55 1 := by rw [hv1]; exact cn
      have eO : μ 55 1 = ν 55 1 := hv0 55 1 (by first | decide | omega | exact fun z => absurd z.1 (by decide)) (by first | decide | omega | exact fun z => absurd z.1 (by decide))
      refine am_go (ct := fun pc => Nat.beq pc 18) am_oX3_take 300 ?_
      conv => whnf
      repeat' first
        | (refine (?_ : am_wp _ _ _ _ _ _ _ _ _ _ _ _); conv => whnf)
        | (refine (?_ : am_sw _ _ _ _); conv => whnf)
        | refine And.intro trivial ?_
        | exact trivial
        | (have iN : i < ν 55 1 := (by simp only [ci, cF] at *; omega); refine x_rat_55 i hv2 (by rw [eO]; exact iN) (by rw [eO]; exact h1) ?_)
        | refine k _ hv0 hv1 ?_
        | refine ih _ _ ?_ ?_ ?_ ?_ ?_ ?_
        | refine And.intro (fun h => absurd h (by decide)) (fun _ => ?_)
        | refine And.intro (fun _ => ?_) (fun h => absurd (by decide) h)
        | refine And.intro (fun _ => ?_) (fun _ => ?_)
        | refine And.intro ?_ ?_
      all_goals (first | decide | assumption | omega | (simp only [ci, cF] at *; omega) | (intro a b q1 q2; rw [am_upN q2]; exact hv0 a b q1 q2) | (rw [am_upN (by decide)]; exact hv1) | (intro q hq; by_cases d : (q : Int) = i; (rw [am_upS, if_pos ⟨rfl, by rw [ci]; omega⟩, hv0 _ _ (by first | decide | omega | exact fun z => absurd z.1 (by decide)) (by first | decide | omega | exact fun z => absurd z.1 (by decide)), show i.toNat = q by omega]); (rw [am_upM (by rw [ci]; omega)]; exact hv4 q (by omega))) | (intro q hq; exact hv4 q (by simp only [ci, cF] at *; omega)) | (trace_state; fail))
  have lp18' : ∀ (i : Int) (μ : am_N) , (∀ a b, ¬(a = 60 ∧ b = 1) → a ≠ 61 → μ a b = ν a b) → μ 60 1 = ν 55 1 → 0 ≤ i → i ≤ ν 55 1 → (∀ q : Nat, (q : Int) < i → μ 61 q = ν 56 q) → am_AW l 0 (fun _ => 0) 45 Q 18 [some (.inr (.inr 60)), some (.inr (.inr 55)), some (.inl i)] [] μ := fun i μ hv0 hv1 hv2 hv3 hv4 => lp18 ((ν 55 1 - i) + 1).toNat i μ hv0 hv1 hv2 hv3 hv4 (by omega)
  refine am_go (ct := fun pc => Nat.beq pc 18) am_oX3_take 300 ?_
  conv => whnf
  repeat' first
    | (refine (?_ : am_wp _ _ _ _ _ _ _ _ _ _ _ _); conv => whnf)
    | (refine (?_ : am_sw _ _ _ _); conv => whnf)
    | refine And.intro trivial ?_
    | exact trivial
    | refine lp18' _ _ ?_ ?_ ?_ ?_ ?_
    | refine And.intro (fun h => absurd h (by decide)) (fun _ => ?_)
    | refine And.intro (fun _ => ?_) (fun h => absurd (by decide) h)
    | refine And.intro (fun _ => ?_) (fun _ => ?_)
    | refine And.intro ?_ ?_
  all_goals (first | decide | omega | (intro a b q1 q2; exact am_uE q1) | (rw [am_upS, if_pos ⟨rfl, rfl⟩]; exact if_neg (show ¬ am_c 4 < am_c (ν 55 1) by rw [cn]; omega)) | (intros; omega) | (trace_state; fail))
theorem x_rat_50 {l : Launch} {ν : am_N} {Q : Option am_V → am_N → Prop} (i : Int) (i0 : 0 ≤ i) (i1 : i < ν 50 1) (hn : ν 50 1 ≤ 6) (k : Q (some (.inl (ν 51 i.toNat))) ν) : am_Does l 43 [.inr (.inr 50), .inl i] ν Q := by
  refine am_Does_of (Nat.le_of_ble_eq_true rfl) (Nat.le_of_ble_eq_true rfl) (Nat.le_of_ble_eq_true rfl) ?_
  have l0 : am_c 0 = 0 := rfl
  have ci : am_c i = i := am_cR (by omega) (by omega)
  have cn : am_c (ν 50 1) = ν 50 1 := am_cR (by omega) (by omega)
  refine am_go (ct := fun _ => false) am_oX3_at 300 ?_
  conv => whnf
  repeat' first
    | (refine (?_ : am_wp _ _ _ _ _ _ _ _ _ _ _ _); conv => whnf)
    | (refine (?_ : am_sw _ _ _ _); conv => whnf)
    | refine And.intro trivial ?_
    | exact trivial
    | refine am_qe k ?_
    | refine And.intro (fun h => absurd h (by decide)) (fun _ => ?_)
    | refine And.intro (fun _ => ?_) (fun h => absurd (by decide) h)
    | refine And.intro (fun _ => ?_) (fun _ => ?_)
    | refine And.intro ?_ ?_
  all_goals (first | decide | omega | (simp only [ci, cn] at *; omega) | (rw [ci]) | (exfalso; simp only [ci, cn] at *; omega) | (trace_state; fail))
theorem x_rt_48_50 {l : Launch} {ν : am_N} {Q : Option am_V → am_N → Prop} (h0 : 0 ≤ ν 50 1) (h1 : ν 50 1 ≤ 6) (k : ∀ μ' : am_N, (∀ a b, ¬(a = 48 ∧ b = 1) → a ≠ 49 → μ' a b = ν a b) → μ' 48 1 = ν 50 1 → (∀ i : Nat, (i : Int) < ν 50 1 → μ' 49 i = ν 51 i) → Q none μ') : am_Does l 45 [.inr (.inr 48), .inr (.inr 50)] ν Q := by
  refine am_Does_of (Nat.le_of_ble_eq_true rfl) (Nat.le_of_ble_eq_true rfl) (Nat.le_of_ble_eq_true rfl) ?_
  have cn : am_c (ν 50 1) = ν 50 1 := am_cR (by omega) (by omega)
  have lc : am_c 6 = 6 := rfl
  have lp18 : ∀ (m : Nat) (i : Int) (μ : am_N) , (∀ a b, ¬(a = 48 ∧ b = 1) → a ≠ 49 → μ a b = ν a b) → μ 48 1 = ν 50 1 → 0 ≤ i → i ≤ ν 50 1 → (∀ q : Nat, (q : Int) < i → μ 49 q = ν 51 q) → ν 50 1 - i < (m : Int) → am_AW l 0 (fun _ => 0) 45 Q 18 [some (.inr (.inr 48)), some (.inr (.inr 50)), some (.inl i)] [] μ := by
    intro m
    induction m with
    | zero =>
      intro i μ hv0 hv1 hv2 hv3 hv4 hm
      exfalso
      omega
    | succ m ih =>
      intro i μ hv0 hv1 hv2 hv3 hv4 hm
      have ci : am_c i = i := am_cR (by omega) (by omega)
      have cF : am_c (μ 48 1) = ν 50 1 := by rw [hv1]; exact cn
      have eO : μ 50 1 = ν 50 1 := hv0 50 1 (by first | decide | omega | exact fun z => absurd z.1 (by decide)) (by first | decide | omega | exact fun z => absurd z.1 (by decide))
      refine am_go (ct := fun pc => Nat.beq pc 18) am_oX3_take 300 ?_
      conv => whnf
      repeat' first
        | (refine (?_ : am_wp _ _ _ _ _ _ _ _ _ _ _ _); conv => whnf)
        | (refine (?_ : am_sw _ _ _ _); conv => whnf)
        | refine And.intro trivial ?_
        | exact trivial
        | (have iN : i < ν 50 1 := (by simp only [ci, cF] at *; omega); refine x_rat_50 i hv2 (by rw [eO]; exact iN) (by rw [eO]; exact h1) ?_)
        | refine k _ hv0 hv1 ?_
        | refine ih _ _ ?_ ?_ ?_ ?_ ?_ ?_
        | refine And.intro (fun h => absurd h (by decide)) (fun _ => ?_)
        | refine And.intro (fun _ => ?_) (fun h => absurd (by decide) h)
        | refine And.intro (fun _ => ?_) (fun _ => ?_)
        | refine And.intro ?_ ?_
      all_goals (first | decide | assumption | omega | (simp only [ci, cF] at *; omega) | (intro a b q1 q2; rw [am_upN q2]; exact hv0 a b q1 q2) | (rw [am_upN (by decide)]; exact hv1) | (intro q hq; by_cases d : (q : Int) = i; (rw [am_upS, if_pos ⟨rfl, by rw [ci]; omega⟩, hv0 _ _ (by first | decide | omega | exact fun z => absurd z.1 (by decide)) (by first | decide | omega | exact fun z => absurd z.1 (by decide)), show i.toNat = q by omega]); (rw [am_upM (by rw [ci]; omega)]; exact hv4 q (by omega))) | (intro q hq; exact hv4 q (by simp only [ci, cF] at *; omega)) | (trace_state; fail))
  have lp18' : ∀ (i : Int) (μ : am_N) , (∀ a b, ¬(a = 48 ∧ b = 1) → a ≠ 49 → μ a b = ν a b) → μ 48 1 = ν 50 1 → 0 ≤ i → i ≤ ν 50 1 → (∀ q : Nat, (q : Int) < i → μ 49 q = ν 51 q) → am_AW l 0 (fun _ => 0) 45 Q 18 [some (.inr (.inr 48)), some (.inr (.inr 50)), some (.inl i)] [] μ := fun i μ hv0 hv1 hv2 hv3 hv4 => lp18 ((ν 50 1 - i) + 1).toNat i μ hv0 hv1 hv2 hv3 hv4 (by omega)
  refine am_go (ct := fun pc => Nat.beq pc 18) am_oX3_take 300 ?_
  conv => whnf
  repeat' first
    | (refine (?_ : am_wp _ _ _ _ _ _ _ _ _ _ _ _); conv => whnf)
    | (refine (?_ : am_sw _ _ _ _); conv => whnf)
    | refine And.intro trivial ?_
    | exact trivial
    | refine lp18' _ _ ?_ ?_ ?_ ?_ ?_
    | refine And.intro (fun h => absurd h (by decide)) (fun _ => ?_)
    | refine And.intro (fun _ => ?_) (fun h => absurd (by decide) h)
    | refine And.intro (fun _ => ?_) (fun _ => ?_)
    | refine And.intro ?_ ?_
  all_goals (first | decide | omega | (intro a b q1 q2; exact am_uE q1) | (rw [am_upS, if_pos ⟨rfl, rfl⟩]; exact if_neg (show ¬ am_c 6 < am_c (ν 50 1) by rw [cn]; omega)) | (intros; omega) | (trace_state; fail))
theorem x_rat_58 {l : Launch} {ν : am_N} {Q : Option am_V → am_N → Prop} (i : Int) (i0 : 0 ≤ i) (i1 : i < ν 58 1) (hn : ν 58 1 ≤ 4) (k : Q (some (.inl (ν 59 i.toNat))) ν) : am_Does l 43 [.inr (.inr 58), .inl i] ν Q := by
  refine am_Does_of (Nat.le_of_ble_eq_true rfl) (Nat.le_of_ble_eq_true rfl) (Nat.le_of_ble_eq_true rfl) ?_
  have l0 : am_c 0 = 0 := rfl
  have ci : am_c i = i := am_cR (by omega) (by omega)
  have cn : am_c (ν 58 1) = ν 58 1 := am_cR (by omega) (by omega)
  refine am_go (ct := fun _ => false) am_oX3_at 300 ?_
  conv => whnf
  repeat' first
    | (refine (?_ : am_wp _ _ _ _ _ _ _ _ _ _ _ _); conv => whnf)
    | (refine (?_ : am_sw _ _ _ _); conv => whnf)
    | refine And.intro trivial ?_
    | exact trivial
    | refine am_qe k ?_
    | refine And.intro (fun h => absurd h (by decide)) (fun _ => ?_)
    | refine And.intro (fun _ => ?_) (fun h => absurd (by decide) h)
    | refine And.intro (fun _ => ?_) (fun _ => ?_)
    | refine And.intro ?_ ?_
  all_goals (first | decide | omega | (simp only [ci, cn] at *; omega) | (rw [ci]) | (exfalso; simp only [ci, cn] at *; omega) | (trace_state; fail))
theorem x_rt_53_58 {l : Launch} {ν : am_N} {Q : Option am_V → am_N → Prop} (h0 : 0 ≤ ν 58 1) (h1 : ν 58 1 ≤ 4) (k : ∀ μ' : am_N, (∀ a b, ¬(a = 53 ∧ b = 1) → a ≠ 54 → μ' a b = ν a b) → μ' 53 1 = ν 58 1 → (∀ i : Nat, (i : Int) < ν 58 1 → μ' 54 i = ν 59 i) → Q none μ') : am_Does l 45 [.inr (.inr 53), .inr (.inr 58)] ν Q := by
  refine am_Does_of (Nat.le_of_ble_eq_true rfl) (Nat.le_of_ble_eq_true rfl) (Nat.le_of_ble_eq_true rfl) ?_
  have cn : am_c (ν 58 1) = ν 58 1 := am_cR (by omega) (by omega)
  have lc : am_c 4 = 4 := rfl
  have lp18 : ∀ (m : Nat) (i : Int) (μ : am_N) , (∀ a b, ¬(a = 53 ∧ b = 1) → a ≠ 54 → μ a b = ν a b) → μ 53 1 = ν 58 1 → 0 ≤ i → i ≤ ν 58 1 → (∀ q : Nat, (q : Int) < i → μ 54 q = ν 59 q) → ν 58 1 - i < (m : Int) → am_AW l 0 (fun _ => 0) 45 Q 18 [some (.inr (.inr 53)), some (.inr (.inr 58)), some (.inl i)] [] μ := by
    intro m
    induction m with
    | zero =>
      intro i μ hv0 hv1 hv2 hv3 hv4 hm
      exfalso
      omega
    | succ m ih =>
      intro i μ hv0 hv1 hv2 hv3 hv4 hm
      have ci : am_c i = i := am_cR (by omega) (by omega)
      have cF : am_c (μ 53 1) = ν 58 1 := by rw [hv1]; exact cn
      have eO : μ 58 1 = ν 58 1 := hv0 58 1 (by first | decide | omega | exact fun z => absurd z.1 (by decide)) (by first | decide | omega | exact fun z => absurd z.1 (by decide))
      refine am_go (ct := fun pc => Nat.beq pc 18) am_oX3_take 300 ?_
      conv => whnf
      repeat' first
        | (refine (?_ : am_wp _ _ _ _ _ _ _ _ _ _ _ _); conv => whnf)
        | (refine (?_ : am_sw _ _ _ _); conv => whnf)
        | refine And.intro trivial ?_
        | exact trivial
        | (have iN : i < ν 58 1 := (by simp only [ci, cF] at *; omega); refine x_rat_58 i hv2 (by rw [eO]; exact iN) (by rw [eO]; exact h1) ?_)
        | refine k _ hv0 hv1 ?_
        | refine ih _ _ ?_ ?_ ?_ ?_ ?_ ?_
        | refine And.intro (fun h => absurd h (by decide)) (fun _ => ?_)
        | refine And.intro (fun _ => ?_) (fun h => absurd (by decide) h)
        | refine And.intro (fun _ => ?_) (fun _ => ?_)
        | refine And.intro ?_ ?_
      all_goals (first | decide | assumption | omega | (simp only [ci, cF] at *; omega) | (intro a b q1 q2; rw [am_upN q2]; exact hv0 a b q1 q2) | (rw [am_upN (by decide)]; exact hv1) | (intro q hq; by_cases d : (q : Int) = i; (rw [am_upS, if_pos ⟨rfl, by rw [ci]; omega⟩, hv0 _ _ (by first | decide | omega | exact fun z => absurd z.1 (by decide)) (by first | decide | omega | exact fun z => absurd z.1 (by decide)), show i.toNat = q by omega]); (rw [am_upM (by rw [ci]; omega)]; exact hv4 q (by omega))) | (intro q hq; exact hv4 q (by simp only [ci, cF] at *; omega)) | (trace_state; fail))
  have lp18' : ∀ (i : Int) (μ : am_N) , (∀ a b, ¬(a = 53 ∧ b = 1) → a ≠ 54 → μ a b = ν a b) → μ 53 1 = ν 58 1 → 0 ≤ i → i ≤ ν 58 1 → (∀ q : Nat, (q : Int) < i → μ 54 q = ν 59 q) → am_AW l 0 (fun _ => 0) 45 Q 18 [some (.inr (.inr 53)), some (.inr (.inr 58)), some (.inl i)] [] μ := fun i μ hv0 hv1 hv2 hv3 hv4 => lp18 ((ν 58 1 - i) + 1).toNat i μ hv0 hv1 hv2 hv3 hv4 (by omega)
  refine am_go (ct := fun pc => Nat.beq pc 18) am_oX3_take 300 ?_
  conv => whnf
  repeat' first
    | (refine (?_ : am_wp _ _ _ _ _ _ _ _ _ _ _ _); conv => whnf)
    | (refine (?_ : am_sw _ _ _ _); conv => whnf)
    | refine And.intro trivial ?_
    | exact trivial
    | refine lp18' _ _ ?_ ?_ ?_ ?_ ?_
    | refine And.intro (fun h => absurd h (by decide)) (fun _ => ?_)
    | refine And.intro (fun _ => ?_) (fun h => absurd (by decide) h)
    | refine And.intro (fun _ => ?_) (fun _ => ?_)
    | refine And.intro ?_ ?_
  all_goals (first | decide | omega | (intro a b q1 q2; exact am_uE q1) | (rw [am_upS, if_pos ⟨rfl, rfl⟩]; exact if_neg (show ¬ am_c 4 < am_c (ν 58 1) by rw [cn]; omega)) | (intros; omega) | (trace_state; fail))
theorem x_rat_60 {l : Launch} {ν : am_N} {Q : Option am_V → am_N → Prop} (i : Int) (i0 : 0 ≤ i) (i1 : i < ν 60 1) (hn : ν 60 1 ≤ 4) (k : Q (some (.inl (ν 61 i.toNat))) ν) : am_Does l 43 [.inr (.inr 60), .inl i] ν Q := by
  refine am_Does_of (Nat.le_of_ble_eq_true rfl) (Nat.le_of_ble_eq_true rfl) (Nat.le_of_ble_eq_true rfl) ?_
  have l0 : am_c 0 = 0 := rfl
  have ci : am_c i = i := am_cR (by omega) (by omega)
  have cn : am_c (ν 60 1) = ν 60 1 := am_cR (by omega) (by omega)
  refine am_go (ct := fun _ => false) am_oX3_at 300 ?_
  conv => whnf
  repeat' first
    | (refine (?_ : am_wp _ _ _ _ _ _ _ _ _ _ _ _); conv => whnf)
    | (refine (?_ : am_sw _ _ _ _); conv => whnf)
    | refine And.intro trivial ?_
    | exact trivial
    | refine am_qe k ?_
    | refine And.intro (fun h => absurd h (by decide)) (fun _ => ?_)
    | refine And.intro (fun _ => ?_) (fun h => absurd (by decide) h)
    | refine And.intro (fun _ => ?_) (fun _ => ?_)
    | refine And.intro ?_ ?_
  all_goals (first | decide | omega | (simp only [ci, cn] at *; omega) | (rw [ci]) | (exfalso; simp only [ci, cn] at *; omega) | (trace_state; fail))
theorem x_rt_55_60 {l : Launch} {ν : am_N} {Q : Option am_V → am_N → Prop} (h0 : 0 ≤ ν 60 1) (h1 : ν 60 1 ≤ 4) (k : ∀ μ' : am_N, (∀ a b, ¬(a = 55 ∧ b = 1) → a ≠ 56 → μ' a b = ν a b) → μ' 55 1 = ν 60 1 → (∀ i : Nat, (i : Int) < ν 60 1 → μ' 56 i = ν 61 i) → Q none μ') : am_Does l 45 [.inr (.inr 55), .inr (.inr 60)] ν Q := by
  refine am_Does_of (Nat.le_of_ble_eq_true rfl) (Nat.le_of_ble_eq_true rfl) (Nat.le_of_ble_eq_true rfl) ?_
  have cn : am_c (ν 60 1) = ν 60 1 := am_cR (by omega) (by omega)
  have lc : am_c 4 = 4 := rfl
  have lp18 : ∀ (m : Nat) (i : Int) (μ : am_N) , (∀ a b, ¬(a = 55 ∧ b = 1) → a ≠ 56 → μ a b = ν a b) → μ 55 1 = ν 60 1 → 0 ≤ i → i ≤ ν 60 1 → (∀ q : Nat, (q : Int) < i → μ 56 q = ν 61 q) → ν 60 1 - i < (m : Int) → am_AW l 0 (fun _ => 0) 45 Q 18 [some (.inr (.inr 55)), some (.inr (.inr 60)), some (.inl i)] [] μ := by
    intro m
    induction m with
    | zero =>
      intro i μ hv0 hv1 hv2 hv3 hv4 hm
      exfalso
      omega
    | succ m ih =>
      intro i μ hv0 hv1 hv2 hv3 hv4 hm
      have ci : am_c i = i := am_cR (by omega) (by omega)
      have cF : am_c (μ 55 1) = ν 60 1 := by rw [hv1]; exact cn
      have eO : μ 60 1 = ν 60 1 := hv0 60 1 (by first | decide | omega | exact fun z => absurd z.1 (by decide)) (by first | decide | omega | exact fun z => absurd z.1 (by decide))
      refine am_go (ct := fun pc => Nat.beq pc 18) am_oX3_take 300 ?_
      conv => whnf
      repeat' first
        | (refine (?_ : am_wp _ _ _ _ _ _ _ _ _ _ _ _); conv => whnf)
        | (refine (?_ : am_sw _ _ _ _); conv => whnf)
        | refine And.intro trivial ?_
        | exact trivial
        | (have iN : i < ν 60 1 := (by simp only [ci, cF] at *; omega); refine x_rat_60 i hv2 (by rw [eO]; exact iN) (by rw [eO]; exact h1) ?_)
        | refine k _ hv0 hv1 ?_
        | refine ih _ _ ?_ ?_ ?_ ?_ ?_ ?_
        | refine And.intro (fun h => absurd h (by decide)) (fun _ => ?_)
        | refine And.intro (fun _ => ?_) (fun h => absurd (by decide) h)
        | refine And.intro (fun _ => ?_) (fun _ => ?_)
        | refine And.intro ?_ ?_
      all_goals (first | decide | assumption | omega | (simp only [ci, cF] at *; omega) | (intro a b q1 q2; rw [am_upN q2]; exact hv0 a b q1 q2) | (rw [am_upN (by decide)]; exact hv1) | (intro q hq; by_cases d : (q : Int) = i; (rw [am_upS, if_pos ⟨rfl, by rw [ci]; omega⟩, hv0 _ _ (by first | decide | omega | exact fun z => absurd z.1 (by decide)) (by first | decide | omega | exact fun z => absurd z.1 (by decide)), show i.toNat = q by omega]); (rw [am_upM (by rw [ci]; omega)]; exact hv4 q (by omega))) | (intro q hq; exact hv4 q (by simp only [ci, cF] at *; omega)) | (trace_state; fail))
  have lp18' : ∀ (i : Int) (μ : am_N) , (∀ a b, ¬(a = 55 ∧ b = 1) → a ≠ 56 → μ a b = ν a b) → μ 55 1 = ν 60 1 → 0 ≤ i → i ≤ ν 60 1 → (∀ q : Nat, (q : Int) < i → μ 56 q = ν 61 q) → am_AW l 0 (fun _ => 0) 45 Q 18 [some (.inr (.inr 55)), some (.inr (.inr 60)), some (.inl i)] [] μ := fun i μ hv0 hv1 hv2 hv3 hv4 => lp18 ((ν 60 1 - i) + 1).toNat i μ hv0 hv1 hv2 hv3 hv4 (by omega)
  refine am_go (ct := fun pc => Nat.beq pc 18) am_oX3_take 300 ?_
  conv => whnf
  repeat' first
    | (refine (?_ : am_wp _ _ _ _ _ _ _ _ _ _ _ _); conv => whnf)
    | (refine (?_ : am_sw _ _ _ _); conv => whnf)
    | refine And.intro trivial ?_
    | exact trivial
    | refine lp18' _ _ ?_ ?_ ?_ ?_ ?_
    | refine And.intro (fun h => absurd h (by decide)) (fun _ => ?_)
    | refine And.intro (fun _ => ?_) (fun h => absurd (by decide) h)
    | refine And.intro (fun _ => ?_) (fun _ => ?_)
    | refine And.intro ?_ ?_
  all_goals (first | decide | omega | (intro a b q1 q2; exact am_uE q1) | (rw [am_upS, if_pos ⟨rfl, rfl⟩]; exact if_neg (show ¬ am_c 4 < am_c (ν 60 1) by rw [cn]; omega)) | (intros; omega) | (trace_state; fail))
theorem x_ht_57_52 {l : Launch} {ν : am_N} {Q : Option am_V → am_N → Prop} (h0 : 0 ≤ ν 53 1 ∧ ν 53 1 ≤ 4) (h1 : 0 ≤ ν 55 1 ∧ ν 55 1 ≤ 4) (k : ∀ μ' : am_N, (∀ a b, ¬(a = 58 ∧ b = 1) → a ≠ 59 → ¬(a = 60 ∧ b = 1) → a ≠ 61 → μ' a b = ν a b) → μ' 58 1 = ν 53 1 → (∀ i : Nat, (i : Int) < ν 53 1 → μ' 59 i = ν 54 i) → μ' 60 1 = ν 55 1 → (∀ i : Nat, (i : Int) < ν 55 1 → μ' 61 i = ν 56 i) → Q none μ') : am_Does l 18 [.inr (.inr 57), .inr (.inr 52)] ν Q := by
  refine am_Does_of (Nat.le_of_ble_eq_true rfl) (Nat.le_of_ble_eq_true rfl) (Nat.le_of_ble_eq_true rfl) ?_
  refine am_go (ct := fun _ => false) am_oX1_take 300 ?_
  conv => whnf
  repeat' first
    | (refine (?_ : am_wp _ _ _ _ _ _ _ _ _ _ _ _); conv => whnf)
    | (refine (?_ : am_sw _ _ _ _); conv => whnf)
    | refine And.intro trivial ?_
    | exact trivial
    | refine x_rt_58_53 h0.1 h0.2 (fun μ1 f1 n1 r1 => ?_)
    | refine x_rt_60_55 ?_ ?_ (fun μ2 f2 n2 r2 => ?_)
    | refine k _ ?_ ?_ ?_ ?_ ?_
    | refine And.intro (fun h => absurd h (by decide)) (fun _ => ?_)
    | refine And.intro (fun _ => ?_) (fun h => absurd (by decide) h)
    | refine And.intro (fun _ => ?_) (fun _ => ?_)
    | refine And.intro ?_ ?_
  all_goals (first | decide | (rw [f1 55 1 (by first | decide | omega | exact fun z => absurd z.1 (by decide)) (by first | decide | omega | exact fun z => absurd z.1 (by decide))]; first | exact h1.1 | exact h1.2) | (intro a b q1 q2 q3 q4; rw [f2 a b q3 q4]; exact f1 a b q1 q2) | (rw [f2 _ _ (by first | decide | omega | exact fun z => absurd z.1 (by decide)) (by first | decide | omega | exact fun z => absurd z.1 (by decide))]; exact n1) | (intro i hi; rw [f2 _ _ (by first | decide | omega | exact fun z => absurd z.1 (by decide)) (by first | decide | omega | exact fun z => absurd z.1 (by decide))]; exact r1 i hi) | (rw [n2]; exact f1 _ _ (by first | decide | omega | exact fun z => absurd z.1 (by decide)) (by first | decide | omega | exact fun z => absurd z.1 (by decide))) | (intro i hi; rw [r2 i (by rw [f1 55 1 (by first | decide | omega | exact fun z => absurd z.1 (by decide)) (by first | decide | omega | exact fun z => absurd z.1 (by decide))]; exact hi)]; exact f1 _ _ (by first | decide | omega | exact fun z => absurd z.1 (by decide)) (by first | decide | omega | exact fun z => absurd z.1 (by decide))) | (trace_state; fail))
theorem x_ht_52_57 {l : Launch} {ν : am_N} {Q : Option am_V → am_N → Prop} (h0 : 0 ≤ ν 58 1 ∧ ν 58 1 ≤ 4) (h1 : 0 ≤ ν 60 1 ∧ ν 60 1 ≤ 4) (k : ∀ μ' : am_N, (∀ a b, ¬(a = 53 ∧ b = 1) → a ≠ 54 → ¬(a = 55 ∧ b = 1) → a ≠ 56 → μ' a b = ν a b) → μ' 53 1 = ν 58 1 → (∀ i : Nat, (i : Int) < ν 58 1 → μ' 54 i = ν 59 i) → μ' 55 1 = ν 60 1 → (∀ i : Nat, (i : Int) < ν 60 1 → μ' 56 i = ν 61 i) → Q none μ') : am_Does l 18 [.inr (.inr 52), .inr (.inr 57)] ν Q := by
  refine am_Does_of (Nat.le_of_ble_eq_true rfl) (Nat.le_of_ble_eq_true rfl) (Nat.le_of_ble_eq_true rfl) ?_
  refine am_go (ct := fun _ => false) am_oX1_take 300 ?_
  conv => whnf
  repeat' first
    | (refine (?_ : am_wp _ _ _ _ _ _ _ _ _ _ _ _); conv => whnf)
    | (refine (?_ : am_sw _ _ _ _); conv => whnf)
    | refine And.intro trivial ?_
    | exact trivial
    | refine x_rt_53_58 h0.1 h0.2 (fun μ1 f1 n1 r1 => ?_)
    | refine x_rt_55_60 ?_ ?_ (fun μ2 f2 n2 r2 => ?_)
    | refine k _ ?_ ?_ ?_ ?_ ?_
    | refine And.intro (fun h => absurd h (by decide)) (fun _ => ?_)
    | refine And.intro (fun _ => ?_) (fun h => absurd (by decide) h)
    | refine And.intro (fun _ => ?_) (fun _ => ?_)
    | refine And.intro ?_ ?_
  all_goals (first | decide | (rw [f1 60 1 (by first | decide | omega | exact fun z => absurd z.1 (by decide)) (by first | decide | omega | exact fun z => absurd z.1 (by decide))]; first | exact h1.1 | exact h1.2) | (intro a b q1 q2 q3 q4; rw [f2 a b q3 q4]; exact f1 a b q1 q2) | (rw [f2 _ _ (by first | decide | omega | exact fun z => absurd z.1 (by decide)) (by first | decide | omega | exact fun z => absurd z.1 (by decide))]; exact n1) | (intro i hi; rw [f2 _ _ (by first | decide | omega | exact fun z => absurd z.1 (by decide)) (by first | decide | omega | exact fun z => absurd z.1 (by decide))]; exact r1 i hi) | (rw [n2]; exact f1 _ _ (by first | decide | omega | exact fun z => absurd z.1 (by decide)) (by first | decide | omega | exact fun z => absurd z.1 (by decide))) | (intro i hi; rw [r2 i (by rw [f1 60 1 (by first | decide | omega | exact fun z => absurd z.1 (by decide)) (by first | decide | omega | exact fun z => absurd z.1 (by decide))]; exact hi)]; exact f1 _ _ (by first | decide | omega | exact fun z => absurd z.1 (by decide)) (by first | decide | omega | exact fun z => absurd z.1 (by decide))) | (trace_state; fail))
theorem x_refuse {l : Launch} {ν : am_N} {Q : Option am_V → am_N → Prop} (w : Int) (hw : w = -1 ∨ w = -2 ∨ w = -3 ∨ w = -4 ∨ w = -6) (k : ∀ μ' : am_N, (∀ a b, a ≠ 78 → μ' a b = ν a b) → Q (some (.inl w)) μ') : am_Does l 113 [.inr (.inr 0), .inl w] ν Q := by
  refine am_Does_of (Nat.le_of_ble_eq_true rfl) (Nat.le_of_ble_eq_true rfl) (Nat.le_of_ble_eq_true rfl) ?_
  have cw : am_c (-w) = -w := am_cR (by omega) (by omega)
  have l7 : am_c 7 = 7 := rfl
  refine am_go (ct := fun _ => false) am_oX6_refuse 300 ?_
  conv => whnf
  repeat' first
    | (refine (?_ : am_wp _ _ _ _ _ _ _ _ _ _ _ _); conv => whnf)
    | (refine (?_ : am_sw _ _ _ _); conv => whnf)
    | refine And.intro trivial ?_
    | exact trivial
    | refine k _ ?_
    | refine And.intro (fun h => absurd h (by decide)) (fun _ => ?_)
    | refine And.intro (fun _ => ?_) (fun h => absurd (by decide) h)
    | refine And.intro (fun _ => ?_) (fun _ => ?_)
    | refine And.intro ?_ ?_
  all_goals (first | decide | omega | exact fun _ _ _ => rfl | (intro a b h; exact am_upN h) | (simp only [cw] at *; omega) | (trace_state; fail))
theorem x_has1 {l : Launch} {ν : am_N} {Q : Option am_V → am_N → Prop} (i : Int) (f0 : 0 ≤ ν 1 4) (f1 : ν 1 4 ≤ 4) (k1 : 0 ≤ am_c i → am_c i < ν 1 4 → Q (some (.inl 1)) ν) (k0 : (am_c i < 0 ∨ ν 1 4 ≤ am_c i) → Q (some (.inl 0)) ν) : am_Does l 1 [.inr (.inr 1), .inl i] ν Q := by
  refine am_Does_of (Nat.le_of_ble_eq_true rfl) (Nat.le_of_ble_eq_true rfl) (Nat.le_of_ble_eq_true rfl) ?_
  have c4 : am_c (ν 1 4) = ν 1 4 := am_cR (by omega) (by omega)
  have l0 : am_c 0 = 0 := rfl
  refine am_go (ct := fun _ => false) am_oX0_has 300 ?_
  conv => whnf
  repeat' first
    | (refine (?_ : am_wp _ _ _ _ _ _ _ _ _ _ _ _); conv => whnf)
    | (refine (?_ : am_sw _ _ _ _); conv => whnf)
    | refine And.intro trivial ?_
    | exact trivial
    | refine k1 ?_ ?_
    | refine k0 ?_
    | refine And.intro (fun h => absurd h (by decide)) (fun _ => ?_)
    | refine And.intro (fun _ => ?_) (fun h => absurd (by decide) h)
    | refine And.intro (fun _ => ?_) (fun _ => ?_)
    | refine And.intro ?_ ?_
  all_goals (first | omega | (simp only [c4] at *; omega) | (trace_state; fail))
theorem s_start {l : Launch} {ν : am_N} {Q : Option am_V → am_N → Prop} (i v : Int) (ci : am_c i = i) (cv : am_c v = v) (f0 : 0 ≤ ν 1 4) (f1 : ν 1 4 ≤ 4) (k1 : (0 ≤ i ∧ i < ν 1 4) → (0 ≤ v ∧ v ≤ 99) → Q (some (.inl (ν 6 i.toNat))) (am_up (am_up ν 6 i.toNat v) 62 3 0)) (k0 : ∀ (r : Int) (μ' : am_N), ((¬(0 ≤ i ∧ i < ν 1 4) ∧ r = -1) ∨ ((0 ≤ i ∧ i < ν 1 4) ∧ v < 0 ∧ r = -4) ∨ ((0 ≤ i ∧ i < ν 1 4) ∧ 99 < v ∧ r = -6)) → (∀ a b, a ≠ 78 → μ' a b = ν a b) → Q (some (.inl r)) μ') : am_Does l 64 [.inr (.inr 0), .inl i, .inl v] ν Q := by
  refine am_Does_of (Nat.le_of_ble_eq_true rfl) (Nat.le_of_ble_eq_true rfl) (Nat.le_of_ble_eq_true rfl) ?_
  have l0 : am_c 0 = 0 := rfl
  have l1 : am_c 1 = 1 := rfl
  have l2 : am_c 2 = 2 := rfl
  have l3 : am_c 3 = 3 := rfl
  have l4 : am_c 4 = 4 := rfl
  have l5 : am_c 5 = 5 := rfl
  have l7 : am_c 7 = 7 := rfl
  have l9 : am_c 9 = 9 := rfl
  have l10 : am_c 10 = 10 := rfl
  have l20 : am_c 20 = 20 := rfl
  have l96 : am_c 96 = 96 := rfl
  have l99 : am_c 99 = 99 := rfl
  have l200 : am_c 200 = 200 := rfl
  have l255 : am_c 255 = 255 := rfl
  have l999 : am_c 999 = 999 := rfl
  have c4 : am_c (ν 1 4) = ν 1 4 := am_cR (by omega) (by omega)
  have k1' := fun (x : Int) (j : Nat) (ej : j = i.toNat) (ex : x = ν 6 i.toNat) a b => (show Q (some (.inl x)) (am_up (am_up ν 6 j v) 62 3 0) by rw [ej, ex]; exact k1 a b)
  refine am_go (ct := fun _ => false) am_oX6_start 300 ?_
  conv => whnf
  repeat' first
    | (refine (?_ : am_wp _ _ _ _ _ _ _ _ _ _ _ _); conv => whnf)
    | (refine (?_ : am_sw _ _ _ _); conv => whnf)
    | refine And.intro trivial ?_
    | exact trivial
    | refine x_has1 _ f0 f1 (fun y0 y1 => ?_) (fun y => ?_)
    | refine x_refuse _ ?_ (fun μr fr => ?_)
    | refine k0 _ _ ?_ fr
    | refine v_drop_X4 ?_
    | refine k1' _ _ ?_ ?_ ?_ ?_
    | refine And.intro (fun h => absurd h (by decide)) (fun _ => ?_)
    | refine And.intro (fun _ => ?_) (fun h => absurd (by decide) h)
    | refine And.intro (fun _ => ?_) (fun _ => ?_)
    | refine And.intro ?_ ?_
  all_goals (first | decide | omega | (rw [ci]) | (constructor <;> omega) | (trace_state; fail))
theorem s_kind {l : Launch} {ν : am_N} {Q : Option am_V → am_N → Prop} (i q g : Int) (ci : am_c i = i) (cq : am_c q = q) (cg : am_c g = g) (f0 : 0 ≤ ν 1 4) (f1 : ν 1 4 ≤ 4) (k1 : (0 ≤ i ∧ i < ν 1 4) → (0 ≤ q ∧ q ≤ 5) → (0 ≤ g ∧ g ≤ 9) → Q (some (.inl (10 * ν 2 i.toNat + ν 3 i.toNat))) (am_up (am_up (am_up ν 2 i.toNat q) 3 i.toNat g) 62 3 0)) (k0 : ∀ (r : Int) (μ' : am_N), ((¬(0 ≤ i ∧ i < ν 1 4) ∧ r = -1) ∨ ((0 ≤ i ∧ i < ν 1 4) ∧ ¬(0 ≤ q ∧ q ≤ 5) ∧ r = -2) ∨ ((0 ≤ i ∧ i < ν 1 4) ∧ (0 ≤ q ∧ q ≤ 5) ∧ g < 0 ∧ r = -4) ∨ ((0 ≤ i ∧ i < ν 1 4) ∧ (0 ≤ q ∧ q ≤ 5) ∧ 9 < g ∧ r = -6)) → (∀ a b, a ≠ 78 → μ' a b = ν a b) → Q (some (.inl r)) μ') : am_Does l 65 [.inr (.inr 0), .inl i, .inl q, .inl g] ν Q := by
  refine am_Does_of (Nat.le_of_ble_eq_true rfl) (Nat.le_of_ble_eq_true rfl) (Nat.le_of_ble_eq_true rfl) ?_
  have l0 : am_c 0 = 0 := rfl
  have l1 : am_c 1 = 1 := rfl
  have l2 : am_c 2 = 2 := rfl
  have l3 : am_c 3 = 3 := rfl
  have l4 : am_c 4 = 4 := rfl
  have l5 : am_c 5 = 5 := rfl
  have l7 : am_c 7 = 7 := rfl
  have l9 : am_c 9 = 9 := rfl
  have l10 : am_c 10 = 10 := rfl
  have l20 : am_c 20 = 20 := rfl
  have l96 : am_c 96 = 96 := rfl
  have l99 : am_c 99 = 99 := rfl
  have l200 : am_c 200 = 200 := rfl
  have l255 : am_c 255 = 255 := rfl
  have l999 : am_c 999 = 999 := rfl
  have c4 : am_c (ν 1 4) = ν 1 4 := am_cR (by omega) (by omega)
  have k1' := fun (x : Int) (j j2 : Nat) (ej : j = i.toNat) (ej2 : j2 = i.toNat) (ex : x = 10 * ν 2 i.toNat + ν 3 i.toNat) a b c => (show Q (some (.inl x)) (am_up (am_up (am_up ν 2 j q) 3 j2 g) 62 3 0) by rw [ej, ej2, ex]; exact k1 a b c)
  refine am_go (ct := fun _ => false) am_oX6_kind 300 ?_
  conv => whnf
  repeat' first
    | (refine (?_ : am_wp _ _ _ _ _ _ _ _ _ _ _ _); conv => whnf)
    | (refine (?_ : am_sw _ _ _ _); conv => whnf)
    | refine And.intro trivial ?_
    | exact trivial
    | refine x_has1 _ f0 f1 (fun y0 y1 => ?_) (fun y => ?_)
    | refine x_refuse _ ?_ (fun μr fr => ?_)
    | refine k0 _ _ ?_ fr
    | refine v_drop_X4 ?_
    | refine k1' _ _ _ ?_ ?_ ?_ ?_ ?_ ?_
    | refine And.intro (fun h => absurd h (by decide)) (fun _ => ?_)
    | refine And.intro (fun _ => ?_) (fun h => absurd (by decide) h)
    | refine And.intro (fun _ => ?_) (fun _ => ?_)
    | refine And.intro ?_ ?_
  all_goals (first | decide | omega | (rw [ci]) | (constructor <;> omega) | (trace_state; fail))
/-- what set() sets: the number's place -/
def fp_sl (w : Int) : Nat := if w = 0 then 0 else if w = 1 then 2 else if w = 2 then 3 else 1
/-- within bounds -/
def fp_sb (w v : Int) : Prop := if w = 0 then 20 ≤ v ∧ v ≤ 200 else if w = 1 then 0 ≤ v ∧ v ≤ 4 else if w = 2 then 1 ≤ v ∧ v ≤ 9 else 0 ≤ v ∧ v ≤ 999
theorem x_setting {l : Launch} {ν : am_N} {Q : Option am_V → am_N → Prop} (w : Int) (cw : am_c w = w) (k : Q (some (.inl (ν 1 (fp_sl w)))) ν) : am_Does l 6 [.inr (.inr 1), .inl w] ν Q := by
  refine am_Does_of (Nat.le_of_ble_eq_true rfl) (Nat.le_of_ble_eq_true rfl) (Nat.le_of_ble_eq_true rfl) ?_
  have l1 : am_c 1 = 1 := rfl
  have l2 : am_c 2 = 2 := rfl
  refine am_go (ct := fun _ => false) am_oX0_setting 300 ?_
  conv => whnf
  repeat' first
    | (refine (?_ : am_wp _ _ _ _ _ _ _ _ _ _ _ _); conv => whnf)
    | (refine (?_ : am_sw _ _ _ _); conv => whnf)
    | refine And.intro trivial ?_
    | exact trivial
    | refine am_qe k ?_
    | refine And.intro (fun h => absurd h (by decide)) (fun _ => ?_)
    | refine And.intro (fun _ => ?_) (fun h => absurd (by decide) h)
    | refine And.intro (fun _ => ?_) (fun _ => ?_)
    | refine And.intro ?_ ?_
  all_goals (first | (unfold fp_sl; rw [if_pos (by omega)]) | (unfold fp_sl; rw [if_neg (by omega), if_pos (by omega)]) | (unfold fp_sl; rw [if_neg (by omega), if_neg (by omega), if_pos (by omega)]) | (unfold fp_sl; rw [if_neg (by omega), if_neg (by omega), if_neg (by omega)]) | (trace_state; fail))
theorem x_become {l : Launch} {ν : am_N} {Q : Option am_V → am_N → Prop} (w v : Int) (cw : am_c w = w) (k : Q none (am_up ν 1 (fp_sl w) v)) : am_Does l 7 [.inr (.inr 1), .inl w, .inl v] ν Q := by
  refine am_Does_of (Nat.le_of_ble_eq_true rfl) (Nat.le_of_ble_eq_true rfl) (Nat.le_of_ble_eq_true rfl) ?_
  have kk := fun (j : Nat) (e : j = fp_sl w) => (show Q none (am_up ν 1 j v) by rw [e]; exact k)
  refine am_go (ct := fun _ => false) am_oX0_become 300 ?_
  conv => whnf
  repeat' first
    | (refine (?_ : am_wp _ _ _ _ _ _ _ _ _ _ _ _); conv => whnf)
    | (refine (?_ : am_sw _ _ _ _); conv => whnf)
    | refine And.intro trivial ?_
    | exact trivial
    | refine kk _ ?_
    | refine And.intro (fun h => absurd h (by decide)) (fun _ => ?_)
    | refine And.intro (fun _ => ?_) (fun h => absurd (by decide) h)
    | refine And.intro (fun _ => ?_) (fun _ => ?_)
    | refine And.intro ?_ ?_
  all_goals (first | (unfold fp_sl; rw [if_pos (by omega)]) | (unfold fp_sl; rw [if_neg (by omega), if_pos (by omega)]) | (unfold fp_sl; rw [if_neg (by omega), if_neg (by omega), if_pos (by omega)]) | (unfold fp_sl; rw [if_neg (by omega), if_neg (by omega), if_neg (by omega)]) | (trace_state; fail))
theorem x_leastOf {l : Launch} {μ : am_N} {Q : Option am_V → am_N → Prop} (w : Int) (cw : am_c w = w) (k : ∀ r : Int, r = (if w = 0 then 20 else if w = 2 then 1 else 0) → Q (some (.inl r)) μ) : am_Does l 119 [.inl w] μ Q := by
  refine am_Does_of (Nat.le_of_ble_eq_true rfl) (Nat.le_of_ble_eq_true rfl) (Nat.le_of_ble_eq_true rfl) ?_
  have l2 : am_c 2 = 2 := rfl
  refine am_go (ct := fun _ => false) am_oX6_leastOf 300 ?_
  conv => whnf
  repeat' first
    | (refine (?_ : am_wp _ _ _ _ _ _ _ _ _ _ _ _); conv => whnf)
    | (refine (?_ : am_sw _ _ _ _); conv => whnf)
    | refine And.intro trivial ?_
    | exact trivial
    | refine k _ ?_
    | refine And.intro (fun h => absurd h (by decide)) (fun _ => ?_)
    | refine And.intro (fun _ => ?_) (fun h => absurd (by decide) h)
    | refine And.intro (fun _ => ?_) (fun _ => ?_)
    | refine And.intro ?_ ?_
  all_goals (first | (rw [if_pos (by omega)]) | (rw [if_neg (by omega), if_pos (by omega)]) | (rw [if_neg (by omega), if_neg (by omega)]) | (trace_state; fail))
theorem x_mostOf {l : Launch} {μ : am_N} {Q : Option am_V → am_N → Prop} (w : Int) (cw : am_c w = w) (k : ∀ r : Int, r = (if w = 0 then 200 else if w = 1 then 4 else if w = 2 then 9 else 999) → Q (some (.inl r)) μ) : am_Does l 120 [.inl w] μ Q := by
  refine am_Does_of (Nat.le_of_ble_eq_true rfl) (Nat.le_of_ble_eq_true rfl) (Nat.le_of_ble_eq_true rfl) ?_
  refine am_go (ct := fun _ => false) am_oX6_mostOf 300 ?_
  conv => whnf
  repeat' first
    | (refine (?_ : am_wp _ _ _ _ _ _ _ _ _ _ _ _); conv => whnf)
    | (refine (?_ : am_sw _ _ _ _); conv => whnf)
    | refine And.intro trivial ?_
    | exact trivial
    | refine k _ ?_
    | refine And.intro (fun h => absurd h (by decide)) (fun _ => ?_)
    | refine And.intro (fun _ => ?_) (fun h => absurd (by decide) h)
    | refine And.intro (fun _ => ?_) (fun _ => ?_)
    | refine And.intro ?_ ?_
  all_goals (first | (rw [if_pos (by omega)]) | (rw [if_neg (by omega), if_pos (by omega)]) | (rw [if_neg (by omega), if_neg (by omega), if_pos (by omega)]) | (rw [if_neg (by omega), if_neg (by omega), if_neg (by omega)]) | (trace_state; fail))
theorem s_set_0 {l : Launch} {ν : am_N} {Q : Option am_V → am_N → Prop} (w v : Int) (cw : am_c w = w) (cv : am_c v = v) (hW : w = 0) (k1 : (0 ≤ w ∧ w ≤ 3) → fp_sb w v → Q (some (.inl (ν 1 (fp_sl w)))) (am_up (am_up ν 1 (fp_sl w) v) 62 3 0)) (k0 : ¬((0 ≤ w ∧ w ≤ 3) ∧ fp_sb w v) → ∀ (r : Int) (μ' : am_N), (∀ a b, a ≠ 78 → μ' a b = ν a b) → Q (some (.inl r)) μ') : am_Does l 66 [.inr (.inr 0), .inl w, .inl v] ν Q := by
  refine am_Does_of (Nat.le_of_ble_eq_true rfl) (Nat.le_of_ble_eq_true rfl) (Nat.le_of_ble_eq_true rfl) ?_
  have l0 : am_c 0 = 0 := rfl
  have l1 : am_c 1 = 1 := rfl
  have l2 : am_c 2 = 2 := rfl
  have l3 : am_c 3 = 3 := rfl
  have l4 : am_c 4 = 4 := rfl
  have l5 : am_c 5 = 5 := rfl
  have l7 : am_c 7 = 7 := rfl
  have l9 : am_c 9 = 9 := rfl
  have l10 : am_c 10 = 10 := rfl
  have l20 : am_c 20 = 20 := rfl
  have l96 : am_c 96 = 96 := rfl
  have l99 : am_c 99 = 99 := rfl
  have l200 : am_c 200 = 200 := rfl
  have l255 : am_c 255 = 255 := rfl
  have l999 : am_c 999 = 999 := rfl
  subst hW
  have kk : 20 ≤ v → v ≤ 200 → Q (some (.inl (ν 1 (fp_sl 0)))) (am_up (am_up ν 1 (fp_sl 0) v) 62 3 0) := fun a b => k1 (by decide) (show 20 ≤ v ∧ v ≤ 200 from ⟨a, b⟩)
  have kn : ¬(20 ≤ v ∧ v ≤ 200) → ∀ (r : Int) (μ' : am_N), (∀ a b, a ≠ 78 → μ' a b = ν a b) → Q (some (.inl r)) μ' := fun h => k0 (fun z => h z.2)
  refine am_go (ct := fun _ => false) am_oX6_set 300 ?_
  conv => whnf
  repeat' first
    | (refine (?_ : am_wp _ _ _ _ _ _ _ _ _ _ _ _); conv => whnf)
    | (refine (?_ : am_sw _ _ _ _); conv => whnf)
    | refine And.intro trivial ?_
    | exact trivial
    | refine x_refuse _ ?_ (fun μr fr => ?_)
    | (refine x_leastOf _ cw (fun a ea => ?_); have ea2 : a = 20 := ea; have ca : am_c a = 20 := (by rw [ea2]; rfl))
    | (refine x_mostOf _ cw (fun b eb => ?_); have eb2 : b = 200 := eb; have cb : am_c b = 200 := (by rw [eb2]; rfl))
    | refine x_setting _ cw ?_
    | refine x_become _ _ cw ?_
    | refine v_drop_X4 ?_
    | exact kn (by omega) _ _ fr
    | exact kk (by omega) (by omega)
    | refine And.intro (fun h => absurd h (by omega)) (fun _ => ?_)
    | refine And.intro (fun _ => ?_) (fun h => absurd h (by omega))
    | refine And.intro (fun h => absurd h (by decide)) (fun _ => ?_)
    | refine And.intro (fun _ => ?_) (fun h => absurd (by decide) h)
    | refine And.intro (fun _ => ?_) (fun _ => ?_)
    | refine And.intro ?_ ?_
  all_goals (first | decide | omega | (trace_state; fail))
theorem s_set_1 {l : Launch} {ν : am_N} {Q : Option am_V → am_N → Prop} (w v : Int) (cw : am_c w = w) (cv : am_c v = v) (hW : w = 1) (k1 : (0 ≤ w ∧ w ≤ 3) → fp_sb w v → Q (some (.inl (ν 1 (fp_sl w)))) (am_up (am_up ν 1 (fp_sl w) v) 62 3 0)) (k0 : ¬((0 ≤ w ∧ w ≤ 3) ∧ fp_sb w v) → ∀ (r : Int) (μ' : am_N), (∀ a b, a ≠ 78 → μ' a b = ν a b) → Q (some (.inl r)) μ') : am_Does l 66 [.inr (.inr 0), .inl w, .inl v] ν Q := by
  refine am_Does_of (Nat.le_of_ble_eq_true rfl) (Nat.le_of_ble_eq_true rfl) (Nat.le_of_ble_eq_true rfl) ?_
  have l0 : am_c 0 = 0 := rfl
  have l1 : am_c 1 = 1 := rfl
  have l2 : am_c 2 = 2 := rfl
  have l3 : am_c 3 = 3 := rfl
  have l4 : am_c 4 = 4 := rfl
  have l5 : am_c 5 = 5 := rfl
  have l7 : am_c 7 = 7 := rfl
  have l9 : am_c 9 = 9 := rfl
  have l10 : am_c 10 = 10 := rfl
  have l20 : am_c 20 = 20 := rfl
  have l96 : am_c 96 = 96 := rfl
  have l99 : am_c 99 = 99 := rfl
  have l200 : am_c 200 = 200 := rfl
  have l255 : am_c 255 = 255 := rfl
  have l999 : am_c 999 = 999 := rfl
  subst hW
  have kk : 0 ≤ v → v ≤ 4 → Q (some (.inl (ν 1 (fp_sl 1)))) (am_up (am_up ν 1 (fp_sl 1) v) 62 3 0) := fun a b => k1 (by decide) (show 0 ≤ v ∧ v ≤ 4 from ⟨a, b⟩)
  have kn : ¬(0 ≤ v ∧ v ≤ 4) → ∀ (r : Int) (μ' : am_N), (∀ a b, a ≠ 78 → μ' a b = ν a b) → Q (some (.inl r)) μ' := fun h => k0 (fun z => h z.2)
  refine am_go (ct := fun _ => false) am_oX6_set 300 ?_
  conv => whnf
  repeat' first
    | (refine (?_ : am_wp _ _ _ _ _ _ _ _ _ _ _ _); conv => whnf)
    | (refine (?_ : am_sw _ _ _ _); conv => whnf)
    | refine And.intro trivial ?_
    | exact trivial
    | refine x_refuse _ ?_ (fun μr fr => ?_)
    | (refine x_leastOf _ cw (fun a ea => ?_); have ea2 : a = 0 := ea; have ca : am_c a = 0 := (by rw [ea2]; rfl))
    | (refine x_mostOf _ cw (fun b eb => ?_); have eb2 : b = 4 := eb; have cb : am_c b = 4 := (by rw [eb2]; rfl))
    | refine x_setting _ cw ?_
    | refine x_become _ _ cw ?_
    | refine v_drop_X4 ?_
    | exact kn (by omega) _ _ fr
    | exact kk (by omega) (by omega)
    | refine And.intro (fun h => absurd h (by omega)) (fun _ => ?_)
    | refine And.intro (fun _ => ?_) (fun h => absurd h (by omega))
    | refine And.intro (fun h => absurd h (by decide)) (fun _ => ?_)
    | refine And.intro (fun _ => ?_) (fun h => absurd (by decide) h)
    | refine And.intro (fun _ => ?_) (fun _ => ?_)
    | refine And.intro ?_ ?_
  all_goals (first | decide | omega | (trace_state; fail))
theorem s_set_2 {l : Launch} {ν : am_N} {Q : Option am_V → am_N → Prop} (w v : Int) (cw : am_c w = w) (cv : am_c v = v) (hW : w = 2) (k1 : (0 ≤ w ∧ w ≤ 3) → fp_sb w v → Q (some (.inl (ν 1 (fp_sl w)))) (am_up (am_up ν 1 (fp_sl w) v) 62 3 0)) (k0 : ¬((0 ≤ w ∧ w ≤ 3) ∧ fp_sb w v) → ∀ (r : Int) (μ' : am_N), (∀ a b, a ≠ 78 → μ' a b = ν a b) → Q (some (.inl r)) μ') : am_Does l 66 [.inr (.inr 0), .inl w, .inl v] ν Q := by
  refine am_Does_of (Nat.le_of_ble_eq_true rfl) (Nat.le_of_ble_eq_true rfl) (Nat.le_of_ble_eq_true rfl) ?_
  have l0 : am_c 0 = 0 := rfl
  have l1 : am_c 1 = 1 := rfl
  have l2 : am_c 2 = 2 := rfl
  have l3 : am_c 3 = 3 := rfl
  have l4 : am_c 4 = 4 := rfl
  have l5 : am_c 5 = 5 := rfl
  have l7 : am_c 7 = 7 := rfl
  have l9 : am_c 9 = 9 := rfl
  have l10 : am_c 10 = 10 := rfl
  have l20 : am_c 20 = 20 := rfl
  have l96 : am_c 96 = 96 := rfl
  have l99 : am_c 99 = 99 := rfl
  have l200 : am_c 200 = 200 := rfl
  have l255 : am_c 255 = 255 := rfl
  have l999 : am_c 999 = 999 := rfl
  subst hW
  have kk : 1 ≤ v → v ≤ 9 → Q (some (.inl (ν 1 (fp_sl 2)))) (am_up (am_up ν 1 (fp_sl 2) v) 62 3 0) := fun a b => k1 (by decide) (show 1 ≤ v ∧ v ≤ 9 from ⟨a, b⟩)
  have kn : ¬(1 ≤ v ∧ v ≤ 9) → ∀ (r : Int) (μ' : am_N), (∀ a b, a ≠ 78 → μ' a b = ν a b) → Q (some (.inl r)) μ' := fun h => k0 (fun z => h z.2)
  refine am_go (ct := fun _ => false) am_oX6_set 300 ?_
  conv => whnf
  repeat' first
    | (refine (?_ : am_wp _ _ _ _ _ _ _ _ _ _ _ _); conv => whnf)
    | (refine (?_ : am_sw _ _ _ _); conv => whnf)
    | refine And.intro trivial ?_
    | exact trivial
    | refine x_refuse _ ?_ (fun μr fr => ?_)
    | (refine x_leastOf _ cw (fun a ea => ?_); have ea2 : a = 1 := ea; have ca : am_c a = 1 := (by rw [ea2]; rfl))
    | (refine x_mostOf _ cw (fun b eb => ?_); have eb2 : b = 9 := eb; have cb : am_c b = 9 := (by rw [eb2]; rfl))
    | refine x_setting _ cw ?_
    | refine x_become _ _ cw ?_
    | refine v_drop_X4 ?_
    | exact kn (by omega) _ _ fr
    | exact kk (by omega) (by omega)
    | refine And.intro (fun h => absurd h (by omega)) (fun _ => ?_)
    | refine And.intro (fun _ => ?_) (fun h => absurd h (by omega))
    | refine And.intro (fun h => absurd h (by decide)) (fun _ => ?_)
    | refine And.intro (fun _ => ?_) (fun h => absurd (by decide) h)
    | refine And.intro (fun _ => ?_) (fun _ => ?_)
    | refine And.intro ?_ ?_
  all_goals (first | decide | omega | (trace_state; fail))
theorem s_set_3 {l : Launch} {ν : am_N} {Q : Option am_V → am_N → Prop} (w v : Int) (cw : am_c w = w) (cv : am_c v = v) (hW : w = 3) (k1 : (0 ≤ w ∧ w ≤ 3) → fp_sb w v → Q (some (.inl (ν 1 (fp_sl w)))) (am_up (am_up ν 1 (fp_sl w) v) 62 3 0)) (k0 : ¬((0 ≤ w ∧ w ≤ 3) ∧ fp_sb w v) → ∀ (r : Int) (μ' : am_N), (∀ a b, a ≠ 78 → μ' a b = ν a b) → Q (some (.inl r)) μ') : am_Does l 66 [.inr (.inr 0), .inl w, .inl v] ν Q := by
  refine am_Does_of (Nat.le_of_ble_eq_true rfl) (Nat.le_of_ble_eq_true rfl) (Nat.le_of_ble_eq_true rfl) ?_
  have l0 : am_c 0 = 0 := rfl
  have l1 : am_c 1 = 1 := rfl
  have l2 : am_c 2 = 2 := rfl
  have l3 : am_c 3 = 3 := rfl
  have l4 : am_c 4 = 4 := rfl
  have l5 : am_c 5 = 5 := rfl
  have l7 : am_c 7 = 7 := rfl
  have l9 : am_c 9 = 9 := rfl
  have l10 : am_c 10 = 10 := rfl
  have l20 : am_c 20 = 20 := rfl
  have l96 : am_c 96 = 96 := rfl
  have l99 : am_c 99 = 99 := rfl
  have l200 : am_c 200 = 200 := rfl
  have l255 : am_c 255 = 255 := rfl
  have l999 : am_c 999 = 999 := rfl
  subst hW
  have kk : 0 ≤ v → v ≤ 999 → Q (some (.inl (ν 1 (fp_sl 3)))) (am_up (am_up ν 1 (fp_sl 3) v) 62 3 0) := fun a b => k1 (by decide) (show 0 ≤ v ∧ v ≤ 999 from ⟨a, b⟩)
  have kn : ¬(0 ≤ v ∧ v ≤ 999) → ∀ (r : Int) (μ' : am_N), (∀ a b, a ≠ 78 → μ' a b = ν a b) → Q (some (.inl r)) μ' := fun h => k0 (fun z => h z.2)
  refine am_go (ct := fun _ => false) am_oX6_set 300 ?_
  conv => whnf
  repeat' first
    | (refine (?_ : am_wp _ _ _ _ _ _ _ _ _ _ _ _); conv => whnf)
    | (refine (?_ : am_sw _ _ _ _); conv => whnf)
    | refine And.intro trivial ?_
    | exact trivial
    | refine x_refuse _ ?_ (fun μr fr => ?_)
    | (refine x_leastOf _ cw (fun a ea => ?_); have ea2 : a = 0 := ea; have ca : am_c a = 0 := (by rw [ea2]; rfl))
    | (refine x_mostOf _ cw (fun b eb => ?_); have eb2 : b = 999 := eb; have cb : am_c b = 999 := (by rw [eb2]; rfl))
    | refine x_setting _ cw ?_
    | refine x_become _ _ cw ?_
    | refine v_drop_X4 ?_
    | exact kn (by omega) _ _ fr
    | exact kk (by omega) (by omega)
    | refine And.intro (fun h => absurd h (by omega)) (fun _ => ?_)
    | refine And.intro (fun _ => ?_) (fun h => absurd h (by omega))
    | refine And.intro (fun h => absurd h (by decide)) (fun _ => ?_)
    | refine And.intro (fun _ => ?_) (fun h => absurd (by decide) h)
    | refine And.intro (fun _ => ?_) (fun _ => ?_)
    | refine And.intro ?_ ?_
  all_goals (first | decide | omega | (trace_state; fail))
theorem s_set_9 {l : Launch} {ν : am_N} {Q : Option am_V → am_N → Prop} (w v : Int) (cw : am_c w = w) (cv : am_c v = v) (hW : ¬(0 ≤ w ∧ w ≤ 3)) (k1 : (0 ≤ w ∧ w ≤ 3) → fp_sb w v → Q (some (.inl (ν 1 (fp_sl w)))) (am_up (am_up ν 1 (fp_sl w) v) 62 3 0)) (k0 : ¬((0 ≤ w ∧ w ≤ 3) ∧ fp_sb w v) → ∀ (r : Int) (μ' : am_N), (∀ a b, a ≠ 78 → μ' a b = ν a b) → Q (some (.inl r)) μ') : am_Does l 66 [.inr (.inr 0), .inl w, .inl v] ν Q := by
  refine am_Does_of (Nat.le_of_ble_eq_true rfl) (Nat.le_of_ble_eq_true rfl) (Nat.le_of_ble_eq_true rfl) ?_
  have l0 : am_c 0 = 0 := rfl
  have l1 : am_c 1 = 1 := rfl
  have l2 : am_c 2 = 2 := rfl
  have l3 : am_c 3 = 3 := rfl
  have l4 : am_c 4 = 4 := rfl
  have l5 : am_c 5 = 5 := rfl
  have l7 : am_c 7 = 7 := rfl
  have l9 : am_c 9 = 9 := rfl
  have l10 : am_c 10 = 10 := rfl
  have l20 : am_c 20 = 20 := rfl
  have l96 : am_c 96 = 96 := rfl
  have l99 : am_c 99 = 99 := rfl
  have l200 : am_c 200 = 200 := rfl
  have l255 : am_c 255 = 255 := rfl
  have l999 : am_c 999 = 999 := rfl
  have kn := k0 (fun z => hW z.1)
  refine am_go (ct := fun _ => false) am_oX6_set 300 ?_
  conv => whnf
  repeat' first
    | (refine (?_ : am_wp _ _ _ _ _ _ _ _ _ _ _ _); conv => whnf)
    | (refine (?_ : am_sw _ _ _ _); conv => whnf)
    | refine And.intro trivial ?_
    | exact trivial
    | refine x_refuse _ ?_ (fun μr fr => ?_)
    | (refine x_leastOf _ cw (fun a ea => ?_); have ea2 : a = 0 := ea; have ca : am_c a = 0 := (by rw [ea2]; rfl))
    | (refine x_mostOf _ cw (fun b eb => ?_); have eb2 : b = 0 := eb; have cb : am_c b = 0 := (by rw [eb2]; rfl))
    | refine x_setting _ cw ?_
    | refine x_become _ _ cw ?_
    | refine v_drop_X4 ?_
    | exact kn _ _ fr
    | exact kk (by omega) (by omega)
    | refine And.intro (fun h => absurd h (by omega)) (fun _ => ?_)
    | refine And.intro (fun _ => ?_) (fun h => absurd h (by omega))
    | refine And.intro (fun h => absurd h (by decide)) (fun _ => ?_)
    | refine And.intro (fun _ => ?_) (fun h => absurd (by decide) h)
    | refine And.intro (fun _ => ?_) (fun _ => ?_)
    | refine And.intro ?_ ?_
  all_goals (first | decide | omega | (trace_state; fail))
theorem s_set {l : Launch} {ν : am_N} {Q : Option am_V → am_N → Prop} (w v : Int) (cw : am_c w = w) (cv : am_c v = v) (k1 : (0 ≤ w ∧ w ≤ 3) → fp_sb w v → Q (some (.inl (ν 1 (fp_sl w)))) (am_up (am_up ν 1 (fp_sl w) v) 62 3 0)) (k0 : ¬((0 ≤ w ∧ w ≤ 3) ∧ fp_sb w v) → ∀ (r : Int) (μ' : am_N), (∀ a b, a ≠ 78 → μ' a b = ν a b) → Q (some (.inl r)) μ') : am_Does l 66 [.inr (.inr 0), .inl w, .inl v] ν Q := by
  by_cases h : 0 ≤ w ∧ w ≤ 3
  · rcases (show w = 0 ∨ w = 1 ∨ w = 2 ∨ w = 3 by omega) with e | e | e | e
    · exact s_set_0 w v cw cv e k1 k0
    · exact s_set_1 w v cw cv e k1 k0
    · exact s_set_2 w v cw cv e k1 k0
    · exact s_set_3 w v cw cv e k1 k0
  · exact s_set_9 w v cw cv h k1 k0
theorem sx_keep1 {ν μ : am_N} (h : ∀ a b, a ≠ 78 → μ a b = ν a b) : fv μ 1 = fv ν 1 := fp_ct_e (fun b _ => h 1 b (by decide)) (fun a b q1 q2 _ => h (1 + a) b (by omega))
theorem s_run {l : Launch} {ν : am_N} {Q : Option am_V → am_N → Prop} (hw : fp_fw 999 (fv ν 1)) (h34 : sx_3 ν 34) (h62 : 0 ≤ ν 62 3 ∧ ν 62 3 ≤ 6) (k1 : 1 ≤ ν 1 4 → ν 1 1 < 999 → ∀ μ' : am_N, (∀ a b, a ≠ 6 → a ≠ 7 → ¬(a = 1 ∧ b = 1) → ¬(62 ≤ a ∧ a ≤ 77) → a ≠ 33 → a ≠ 34 → ¬(a = 29 ∧ b = 0) → μ' a b = ν a b) → fv μ' 1 = fp_rn (fv ν 1) → sx_3 μ' 34 → μ' 29 0 = ν 1 4 → μ' 62 3 = (if ν 62 3 < 6 then ν 62 3 + 1 else 6) → (∀ r : Nat, r < 4 → μ' (64 + (μ' 62 3 - 1).toNat) r = ν 6 r ∧ μ' (71 + (μ' 62 3 - 1).toNat) r = ν 7 r) → μ' 77 (μ' 62 3 - 1).toNat = ν 1 1 → (∀ j : Nat, (j : Int) + 1 < μ' 62 3 → (∀ r : Nat, r < 4 → μ' (64 + (μ' 62 3 - 2 - j).toNat) r = ν (64 + (ν 62 3 - 1 - j).toNat) r ∧ μ' (71 + (μ' 62 3 - 2 - j).toNat) r = ν (71 + (ν 62 3 - 1 - j).toNat) r) ∧ μ' 77 (μ' 62 3 - 2 - j).toNat = ν 77 (ν 62 3 - 1 - j).toNat) → Q (some (.inl (fp_f (fv ν 1)))) μ') (k0 : ∀ (r : Int) (μ' : am_N), ((ν 1 4 = 0 ∧ r = -3) ∨ (1 ≤ ν 1 4 ∧ ν 1 1 = 999 ∧ r = -6)) → (∀ a b, a ≠ 78 → μ' a b = ν a b) → Q (some (.inl r)) μ') : am_Does l 67 [.inr (.inr 0)] ν Q := by
  refine am_Does_of (Nat.le_of_ble_eq_true rfl) (Nat.le_of_ble_eq_true rfl) (Nat.le_of_ble_eq_true rfl) ?_
  have l0 : am_c 0 = 0 := rfl
  have l1 : am_c 1 = 1 := rfl
  have l2 : am_c 2 = 2 := rfl
  have l3 : am_c 3 = 3 := rfl
  have l4 : am_c 4 = 4 := rfl
  have l5 : am_c 5 = 5 := rfl
  have l7 : am_c 7 = 7 := rfl
  have l9 : am_c 9 = 9 := rfl
  have l10 : am_c 10 = 10 := rfl
  have l20 : am_c 20 = 20 := rfl
  have l96 : am_c 96 = 96 := rfl
  have l99 : am_c 99 = 99 := rfl
  have l200 : am_c 200 = 200 := rfl
  have l255 : am_c 255 = 255 := rfl
  have l999 : am_c 999 = 999 := rfl
  obtain ⟨hf, -, -, -, -, hweek, -⟩ := fw_C hw (by decide)
  have f0 := hf.1.1
  have f1 := hf.1.2
  have c4 : am_c (ν 1 4) = ν 1 4 := am_cR (by omega) (by omega)
  have c1w : am_c (ν 1 1) = ν 1 1 := am_cR (by omega) (by omega)
  refine am_go (ct := fun _ => false) am_oX6_run 300 ?_
  conv => whnf
  repeat' first
    | (refine (?_ : am_wp _ _ _ _ _ _ _ _ _ _ _ _); conv => whnf)
    | (refine (?_ : am_sw _ _ _ _); conv => whnf)
    | refine And.intro trivial ?_
    | exact trivial
    | refine x_refuse _ ?_ (fun μr fr => ?_)
    | refine k0 _ _ ?_ fr
    | (refine x_keep h62.1 h62.2 (fun μ1 g0 g1 g2 g3 g4 => ?_); have e1 : fv μ1 1 = fv ν 1 := fp_ct_e (fun b _ => g0 1 b (by omega)) (fun a b q1 q2 _ => g0 (1 + a) b (by omega)))
    | (rw [e1]; exact hw)
    | refine x_goOn_29_1 999 ?_ (by decide) ?_ ?_ (fun μ2 u0 u1 u2 u3 u4 u5 => ?_)
    | (rw [e1]; refine k1 ?_ ?_ _ ?_ ?_ u2 ?_ ?_ ?_ ?_ ?_)
    | refine And.intro (fun h => absurd h (by decide)) (fun _ => ?_)
    | refine And.intro (fun _ => ?_) (fun h => absurd (by decide) h)
    | refine And.intro (fun _ => ?_) (fun _ => ?_)
    | refine And.intro ?_ ?_
  all_goals (first | decide | omega | exact Or.inl ⟨by simp only [c4, c1w] at *; omega, rfl⟩ | exact Or.inr ⟨by simp only [c4, c1w] at *; omega, by simp only [c4, c1w] at *; omega, rfl⟩ | (simp only [c4, c1w] at *; omega) | (rw [g0 1 4 (by omega)]; simp only [c4] at *; omega) | (intro x hx; rw [g0 34 x (by omega)]; exact h34 x hx) | (intro a b q1 q2 q3 q4 q5 q6 q7; rw [u0 a b q1 q2 q3 q5 q6 q7]; exact g0 a b q4) | (rw [u1, e1]) | (rw [u3]; exact g0 1 4 (by omega)) | (rw [u0 62 3 (by first | decide | omega | exact fun z => absurd z.1 (by decide)) (by first | decide | omega | exact fun z => absurd z.1 (by decide)) (by first | decide | omega | exact fun z => absurd z.1 (by decide)) (by first | decide | omega | exact fun z => absurd z.1 (by decide)) (by first | decide | omega | exact fun z => absurd z.1 (by decide)) (by first | decide | omega | exact fun z => absurd z.1 (by decide))]; exact g1) | (rw [u0 62 3 (by first | decide | omega | exact fun z => absurd z.1 (by decide)) (by first | decide | omega | exact fun z => absurd z.1 (by decide)) (by first | decide | omega | exact fun z => absurd z.1 (by decide)) (by first | decide | omega | exact fun z => absurd z.1 (by decide)) (by first | decide | omega | exact fun z => absurd z.1 (by decide)) (by first | decide | omega | exact fun z => absurd z.1 (by decide))]; intro r hr; rw [u0 _ _ (by omega) (by omega) (by omega) (by omega) (by omega) (by omega), u0 _ _ (by omega) (by omega) (by omega) (by omega) (by omega) (by omega)]; exact g2 r hr) | (rw [u0 62 3 (by first | decide | omega | exact fun z => absurd z.1 (by decide)) (by first | decide | omega | exact fun z => absurd z.1 (by decide)) (by first | decide | omega | exact fun z => absurd z.1 (by decide)) (by first | decide | omega | exact fun z => absurd z.1 (by decide)) (by first | decide | omega | exact fun z => absurd z.1 (by decide)) (by first | decide | omega | exact fun z => absurd z.1 (by decide)), u0 77 _ (by first | decide | omega | exact fun z => absurd z.1 (by decide)) (by first | decide | omega | exact fun z => absurd z.1 (by decide)) (by first | decide | omega | exact fun z => absurd z.1 (by decide)) (by first | decide | omega | exact fun z => absurd z.1 (by decide)) (by first | decide | omega | exact fun z => absurd z.1 (by decide)) (by first | decide | omega | exact fun z => absurd z.1 (by decide))]; exact g3) | (rw [u0 62 3 (by first | decide | omega | exact fun z => absurd z.1 (by decide)) (by first | decide | omega | exact fun z => absurd z.1 (by decide)) (by first | decide | omega | exact fun z => absurd z.1 (by decide)) (by first | decide | omega | exact fun z => absurd z.1 (by decide)) (by first | decide | omega | exact fun z => absurd z.1 (by decide)) (by first | decide | omega | exact fun z => absurd z.1 (by decide))]; intro j hj; obtain ⟨w1, w2⟩ := g4 j hj; refine ⟨fun r hr => ?_, ?_⟩; (rw [u0 _ _ (by omega) (by omega) (by omega) (by omega) (by omega) (by omega), u0 _ _ (by omega) (by omega) (by omega) (by omega) (by omega) (by omega)]; exact w1 r hr); (rw [u0 _ _ (by omega) (by omega) (by omega) (by omega) (by omega) (by omega)]; exact w2)) | (trace_state; fail))
theorem s_back {l : Launch} {ν : am_N} {Q : Option am_V → am_N → Prop} (h62 : 0 ≤ ν 62 3 ∧ ν 62 3 ≤ 6) (k1 : 0 < ν 62 3 → ∀ μ' : am_N, (∀ a b, a ≠ 6 → a ≠ 7 → ¬(a = 1 ∧ b = 1) → ¬(a = 62 ∧ b = 3) → μ' a b = ν a b) → μ' 62 3 = ν 62 3 - 1 → μ' 1 1 = ν 77 (ν 62 3 - 1).toNat → (∀ r : Nat, r < 4 → μ' 6 r = ν (64 + (ν 62 3 - 1).toNat) r ∧ μ' 7 r = ν (71 + (ν 62 3 - 1).toNat) r) → Q (some (.inl (ν 62 3 - 1))) μ') (k0 : ν 62 3 = 0 → ∀ μ' : am_N, (∀ a b, a ≠ 78 → μ' a b = ν a b) → Q (some (.inl (-3))) μ') : am_Does l 90 [.inr (.inr 0)] ν Q := by
  refine am_Does_of (Nat.le_of_ble_eq_true rfl) (Nat.le_of_ble_eq_true rfl) (Nat.le_of_ble_eq_true rfl) ?_
  have l0 : am_c 0 = 0 := rfl
  have l1 : am_c 1 = 1 := rfl
  have l2 : am_c 2 = 2 := rfl
  have l3 : am_c 3 = 3 := rfl
  have l4 : am_c 4 = 4 := rfl
  have l5 : am_c 5 = 5 := rfl
  have l7 : am_c 7 = 7 := rfl
  have l9 : am_c 9 = 9 := rfl
  have l10 : am_c 10 = 10 := rfl
  have l20 : am_c 20 = 20 := rfl
  have l96 : am_c 96 = 96 := rfl
  have l99 : am_c 99 = 99 := rfl
  have l200 : am_c 200 = 200 := rfl
  have l255 : am_c 255 = 255 := rfl
  have l999 : am_c 999 = 999 := rfl
  have c62 : am_c (ν 62 3) = ν 62 3 := am_cR (by omega) (by omega)
  refine am_go (ct := fun _ => false) am_oX6_back 300 ?_
  conv => whnf
  repeat' first
    | (refine (?_ : am_wp _ _ _ _ _ _ _ _ _ _ _ _); conv => whnf)
    | (refine (?_ : am_sw _ _ _ _); conv => whnf)
    | refine And.intro trivial ?_
    | exact trivial
    | refine x_refuse _ ?_ (fun μr fr => ?_)
    | refine k0 ?_ _ fr
    | (refine x_bring ?_ ?_ (fun μ1 g0 g1 g2 g3 => ?_))
    | exact k1 (by simp only [c62] at *; omega) _ g0 g1 g2 g3
    | refine And.intro (fun h => absurd h (by decide)) (fun _ => ?_)
    | refine And.intro (fun _ => ?_) (fun h => absurd (by decide) h)
    | refine And.intro (fun _ => ?_) (fun _ => ?_)
    | refine And.intro ?_ ?_
  all_goals (first | decide | omega | (simp only [c62] at *; omega) | (trace_state; fail))
theorem s_image {l : Launch} {ν : am_N} {Q : Option am_V → am_N → Prop} (hb : (0 ≤ ν 48 1 ∧ ν 48 1 ≤ 6) ∧ (0 ≤ ν 53 1 ∧ ν 53 1 ≤ 4) ∧ (0 ≤ ν 55 1 ∧ ν 55 1 ≤ 4)) (k : ∀ μ' : am_N, (∀ a b, ¬(22 ≤ a ∧ a ≤ 28) → ¬(50 ≤ a ∧ a ≤ 51) → ¬(57 ≤ a ∧ a ≤ 61) → ¬(a = 0 ∧ b = 15) → μ' a b = ν a b) → fv μ' 22 = fv ν 1 → μ' 0 15 = 1 → μ' 50 1 = ν 48 1 → (∀ i : Nat, (i : Int) < ν 48 1 → μ' 51 i = ν 49 i) → μ' 58 1 = ν 53 1 → (∀ i : Nat, (i : Int) < ν 53 1 → μ' 59 i = ν 54 i) → μ' 60 1 = ν 55 1 → (∀ i : Nat, (i : Int) < ν 55 1 → μ' 61 i = ν 56 i) → Q (some (.inl (ν 1 1))) μ') : am_Does l 110 [.inr (.inr 0)] ν Q := by
  refine am_Does_of (Nat.le_of_ble_eq_true rfl) (Nat.le_of_ble_eq_true rfl) (Nat.le_of_ble_eq_true rfl) ?_
  refine am_go (ct := fun _ => false) am_oX6_image 300 ?_
  conv => whnf
  repeat' first
    | (refine (?_ : am_wp _ _ _ _ _ _ _ _ _ _ _ _); conv => whnf)
    | (refine (?_ : am_sw _ _ _ _); conv => whnf)
    | refine And.intro trivial ?_
    | exact trivial
    | (refine x_take_22_1 (fun μ1 f1 s1 r1 => ?_))
    | (refine x_rt_50_48 ?_ ?_ (fun μ2 f2 n2 r2 => ?_))
    | (refine x_ht_57_52 ?_ ?_ (fun μ3 f3 n3 r3 n4 r4 => ?_))
    | (refine am_qe (k _ ?_ ?_ ?_ ?_ ?_ ?_ ?_ ?_ ?_) ?_)
    | refine And.intro (fun h => absurd h (by decide)) (fun _ => ?_)
    | refine And.intro (fun _ => ?_) (fun h => absurd (by decide) h)
    | refine And.intro (fun _ => ?_) (fun _ => ?_)
    | refine And.intro ?_ ?_
  all_goals (first | decide | (rw [f1 48 1 (by omega)]; first | exact hb.1.1 | exact hb.1.2) | (rw [f2 53 1 (by first | decide | omega | exact fun z => absurd z.1 (by decide)) (by first | decide | omega | exact fun z => absurd z.1 (by decide)), f1 53 1 (by omega)]; first | exact hb.2.1 | exact hb.2.1.1 | exact hb.2.1.2) | (rw [f2 55 1 (by first | decide | omega | exact fun z => absurd z.1 (by decide)) (by first | decide | omega | exact fun z => absurd z.1 (by decide)), f1 55 1 (by omega)]; first | exact hb.2.2 | exact hb.2.2.1 | exact hb.2.2.2) | (intro a b q1 q2 q3 q4; rw [am_uE q4, f3 a b (by omega) (by omega) (by omega) (by omega), f2 a b (by omega) (by omega)]; exact f1 a b (by omega)) | (refine fp_ct_e (fun b hb => ?_) (fun a b q1 q2 hb => ?_); (show am_up μ3 0 15 1 22 b = ν 1 b; rw [am_upN (by decide), f3 22 b (by omega) (by omega) (by omega) (by omega), f2 22 b (by omega) (by omega)]; exact s1 b hb); (show am_up μ3 0 15 1 (22 + a) b = ν (1 + a) b; rw [am_uE (by omega), f3 _ b (by omega) (by omega) (by omega) (by omega), f2 _ b (by omega) (by omega)]; exact r1 a q1 q2 b hb)) | exact if_pos ⟨rfl, rfl⟩ | (rw [am_upN (by decide), f3 50 1 (by omega) (by omega) (by omega) (by omega), n2, f1 48 1 (by omega)]) | (intro i hi; rw [am_upN (by decide), f3 51 i (by omega) (by omega) (by omega) (by omega), r2 i (by rw [f1 48 1 (by omega)]; exact hi), f1 49 i (by omega)]) | (rw [am_upN (by decide), n3, f2 53 1 (by first | decide | omega | exact fun z => absurd z.1 (by decide)) (by first | decide | omega | exact fun z => absurd z.1 (by decide)), f1 53 1 (by omega)]) | (intro i hi; rw [am_upN (by decide), r3 i (by rw [f2 53 1 (by first | decide | omega | exact fun z => absurd z.1 (by decide)) (by first | decide | omega | exact fun z => absurd z.1 (by decide)), f1 53 1 (by omega)]; exact hi), f2 54 i (by first | decide | omega | exact fun z => absurd z.1 (by decide)) (by first | decide | omega | exact fun z => absurd z.1 (by decide)), f1 54 i (by omega)]) | (rw [am_upN (by decide), n4, f2 55 1 (by first | decide | omega | exact fun z => absurd z.1 (by decide)) (by first | decide | omega | exact fun z => absurd z.1 (by decide)), f1 55 1 (by omega)]) | (intro i hi; rw [am_upN (by decide), r4 i (by rw [f2 55 1 (by first | decide | omega | exact fun z => absurd z.1 (by decide)) (by first | decide | omega | exact fun z => absurd z.1 (by decide)), f1 55 1 (by omega)]; exact hi), f2 56 i (by first | decide | omega | exact fun z => absurd z.1 (by decide)) (by first | decide | omega | exact fun z => absurd z.1 (by decide)), f1 56 i (by omega)]) | (rw [am_upN (by decide), f3 1 1 (by omega) (by omega) (by omega) (by omega), f2 1 1 (by omega) (by omega), f1 1 1 (by omega)]) | (trace_state; fail))
theorem s_restore {l : Launch} {ν : am_N} {Q : Option am_V → am_N → Prop} (hb : (0 ≤ ν 50 1 ∧ ν 50 1 ≤ 6) ∧ (0 ≤ ν 58 1 ∧ ν 58 1 ≤ 4) ∧ (0 ≤ ν 60 1 ∧ ν 60 1 ≤ 4)) (c15 : am_c (ν 0 15) = ν 0 15) (k1 : ν 0 15 ≠ 0 → ∀ μ' : am_N, (∀ a b, ¬(1 ≤ a ∧ a ≤ 7) → ¬(48 ≤ a ∧ a ≤ 49) → ¬(52 ≤ a ∧ a ≤ 56) → ¬(a = 62 ∧ b = 3) → μ' a b = ν a b) → fv μ' 1 = fv ν 22 → μ' 62 3 = 0 → μ' 48 1 = ν 50 1 → (∀ i : Nat, (i : Int) < ν 50 1 → μ' 49 i = ν 51 i) → μ' 53 1 = ν 58 1 → (∀ i : Nat, (i : Int) < ν 58 1 → μ' 54 i = ν 59 i) → μ' 55 1 = ν 60 1 → (∀ i : Nat, (i : Int) < ν 60 1 → μ' 56 i = ν 61 i) → Q (some (.inl (ν 22 1))) μ') (k0 : ν 0 15 = 0 → ∀ μ' : am_N, (∀ a b, a ≠ 78 → μ' a b = ν a b) → Q (some (.inl (-3))) μ') : am_Does l 111 [.inr (.inr 0)] ν Q := by
  refine am_Does_of (Nat.le_of_ble_eq_true rfl) (Nat.le_of_ble_eq_true rfl) (Nat.le_of_ble_eq_true rfl) ?_
  refine am_go (ct := fun _ => false) am_oX6_restore 300 ?_
  conv => whnf
  repeat' first
    | (refine (?_ : am_wp _ _ _ _ _ _ _ _ _ _ _ _); conv => whnf)
    | (refine (?_ : am_sw _ _ _ _); conv => whnf)
    | refine And.intro trivial ?_
    | exact trivial
    | refine x_refuse _ ?_ (fun μr fr => ?_)
    | refine k0 ?_ _ fr
    | (refine x_take_1_22 (fun μ1 f1 s1 r1 => ?_))
    | (refine x_rt_48_50 ?_ ?_ (fun μ2 f2 n2 r2 => ?_))
    | (refine x_ht_52_57 ?_ ?_ (fun μ3 f3 n3 r3 n4 r4 => ?_))
    | refine v_drop_X4 ?_
    | (refine am_qe (k1 ?_ _ ?_ ?_ ?_ ?_ ?_ ?_ ?_ ?_ ?_) ?_)
    | refine And.intro (fun h => absurd h (by decide)) (fun _ => ?_)
    | refine And.intro (fun _ => ?_) (fun h => absurd (by decide) h)
    | refine And.intro (fun _ => ?_) (fun _ => ?_)
    | refine And.intro ?_ ?_
  all_goals (first | decide | (rw [c15] at *; assumption) | (intro z; rw [c15] at *; contradiction) | (simp only [c15] at *; omega) | (rw [f1 50 1 (by omega)]; first | exact hb.1.1 | exact hb.1.2) | (rw [f2 58 1 (by first | decide | omega | exact fun z => absurd z.1 (by decide)) (by first | decide | omega | exact fun z => absurd z.1 (by decide)), f1 58 1 (by omega)]; first | exact hb.2.1 | exact hb.2.1.1 | exact hb.2.1.2) | (rw [f2 60 1 (by first | decide | omega | exact fun z => absurd z.1 (by decide)) (by first | decide | omega | exact fun z => absurd z.1 (by decide)), f1 60 1 (by omega)]; first | exact hb.2.2 | exact hb.2.2.1 | exact hb.2.2.2) | (intro a b q1 q2 q3 q4; rw [am_uE q4, f3 a b (by omega) (by omega) (by omega) (by omega), f2 a b (by omega) (by omega)]; exact f1 a b (by omega)) | (refine fp_ct_e (fun b hb => ?_) (fun a b q1 q2 hb => ?_); (show am_up μ3 62 3 0 1 b = ν 22 b; rw [am_upN (by decide), f3 1 b (by omega) (by omega) (by omega) (by omega), f2 1 b (by omega) (by omega)]; exact s1 b hb); (show am_up μ3 62 3 0 (1 + a) b = ν (22 + a) b; rw [am_uE (by omega), f3 _ b (by omega) (by omega) (by omega) (by omega), f2 _ b (by omega) (by omega)]; exact r1 a q1 q2 b hb)) | exact if_pos ⟨rfl, rfl⟩ | (rw [am_upN (by decide), f3 48 1 (by omega) (by omega) (by omega) (by omega), n2, f1 50 1 (by omega)]) | (intro i hi; rw [am_upN (by decide), f3 49 i (by omega) (by omega) (by omega) (by omega), r2 i (by rw [f1 50 1 (by omega)]; exact hi), f1 51 i (by omega)]) | (rw [am_upN (by decide), n3, f2 58 1 (by first | decide | omega | exact fun z => absurd z.1 (by decide)) (by first | decide | omega | exact fun z => absurd z.1 (by decide)), f1 58 1 (by omega)]) | (intro i hi; rw [am_upN (by decide), r3 i (by rw [f2 58 1 (by first | decide | omega | exact fun z => absurd z.1 (by decide)) (by first | decide | omega | exact fun z => absurd z.1 (by decide)), f1 58 1 (by omega)]; exact hi), f2 59 i (by first | decide | omega | exact fun z => absurd z.1 (by decide)) (by first | decide | omega | exact fun z => absurd z.1 (by decide)), f1 59 i (by omega)]) | (rw [am_upN (by decide), n4, f2 60 1 (by first | decide | omega | exact fun z => absurd z.1 (by decide)) (by first | decide | omega | exact fun z => absurd z.1 (by decide)), f1 60 1 (by omega)]) | (intro i hi; rw [am_upN (by decide), r4 i (by rw [f2 60 1 (by first | decide | omega | exact fun z => absurd z.1 (by decide)) (by first | decide | omega | exact fun z => absurd z.1 (by decide)), f1 60 1 (by omega)]; exact hi), f2 61 i (by first | decide | omega | exact fun z => absurd z.1 (by decide)) (by first | decide | omega | exact fun z => absurd z.1 (by decide)), f1 61 i (by omega)]) | (rw [am_upN (by decide), f3 1 1 (by omega) (by omega) (by omega) (by omega), f2 1 1 (by omega) (by omega)]; exact s1 1 (by decide)) | (trace_state; fail))
theorem s_feed {l : Launch} {ν : am_N} {Q : Option am_V → am_N → Prop} (v : Int) (cv : am_c v = v) (hS : sx ν ν) (k1 : (0 ≤ v ∧ v ≤ 255) → ν 36 1 < 96 → Q (some (.inl (ν 36 1 + 1))) (am_up (am_up ν 36 1 (ν 36 1 + 1)) 37 (ν 36 1).toNat v)) (k0 : ∀ (r : Int) (μ' : am_N), ((v < 0 ∧ r = -4) ∨ (255 < v ∧ r = -6) ∨ ((0 ≤ v ∧ v ≤ 255) ∧ ν 36 1 = 96 ∧ r = -6)) → (∀ a b, a ≠ 78 → μ' a b = ν a b) → Q (some (.inl r)) μ') : am_Does l 61 [.inr (.inr 0), .inl v] ν Q := by
  refine am_Does_of (Nat.le_of_ble_eq_true rfl) (Nat.le_of_ble_eq_true rfl) (Nat.le_of_ble_eq_true rfl) ?_
  have l0 : am_c 0 = 0 := rfl
  have l1 : am_c 1 = 1 := rfl
  have l2 : am_c 2 = 2 := rfl
  have l3 : am_c 3 = 3 := rfl
  have l4 : am_c 4 = 4 := rfl
  have l5 : am_c 5 = 5 := rfl
  have l7 : am_c 7 = 7 := rfl
  have l9 : am_c 9 = 9 := rfl
  have l10 : am_c 10 = 10 := rfl
  have l20 : am_c 20 = 20 := rfl
  have l96 : am_c 96 = 96 := rfl
  have l99 : am_c 99 = 99 := rfl
  have l200 : am_c 200 = 200 := rfl
  have l255 : am_c 255 = 255 := rfl
  have l999 : am_c 999 = 999 := rfl
  refine am_go (ct := fun _ => false) am_oX6_feed 300 ?_
  conv => whnf
  repeat' first
    | (refine (?_ : am_wp _ _ _ _ _ _ _ _ _ _ _ _); conv => whnf)
    | (refine (?_ : am_sw _ _ _ _); conv => whnf)
    | refine And.intro trivial ?_
    | exact trivial
    | refine x_refuse _ ?_ (fun μr fr => ?_)
    | refine k0 _ _ ?_ fr
    | refine v_full_X3_36 (ν := ν) hS (fun w => ?_) (fun w => ?_)
    | refine v_putE_X3_36 _ hS w ?_
    | exact k1 (by omega) w
    | refine And.intro (fun h => absurd h (by decide)) (fun _ => ?_)
    | refine And.intro (fun _ => ?_) (fun h => absurd (by decide) h)
    | refine And.intro (fun _ => ?_) (fun _ => ?_)
    | refine And.intro ?_ ?_
  all_goals (first | decide | omega | (trace_state; fail))
