theorem x_lat {l : Launch} {ν : am_N} {Q : Option am_V → am_N → Prop} (t : Nat → Int) (n i : Int) (ht : ν 37 = t) (hn : ν 36 1 = n) (n0 : 0 ≤ n) (n1 : n ≤ 96) (hL : ∀ i : Nat, (i : Int) < n → 0 ≤ t i ∧ t i ≤ 255) (i0 : -1000 ≤ i) (i1 : i ≤ 1000) (k : ∀ v : Int, v = am_nx t n i → -1 ≤ v → v ≤ 255 → am_c v = v → Q (some (.inl v)) ν) : am_Does l 43 [.inr (.inr 36), .inl i] ν Q := by
  refine am_Does_of (Nat.le_of_ble_eq_true rfl) (Nat.le_of_ble_eq_true rfl) (Nat.le_of_ble_eq_true rfl) ?_
  have l0 : am_c 0 = 0 := rfl
  have l1 : am_c 1 = 1 := rfl
  have l3 : am_c 3 = 3 := rfl
  have l4 : am_c 4 = 4 := rfl
  have l5 : am_c 5 = 5 := rfl
  have l20 : am_c 20 = 20 := rfl
  have l40 : am_c 40 = 40 := rfl
  have l48 : am_c 48 = 48 := rfl
  have l57 : am_c 57 = 57 := rfl
  have l59 : am_c 59 = 59 := rfl
  have l119 : am_c 119 = 119 := rfl
  have l200 : am_c 200 = 200 := rfl
  have l999 : am_c 999 = 999 := rfl
  have ci : am_c i = i := am_cR (by omega) (by omega)
  have cn : am_c (ν 36 1) = n := by rw [hn]; exact am_cR (by omega) (by omega)
  have hb := am_nx_b hL i
  have kk := k _ rfl hb.1 hb.2 (am_cR (by omega) (by omega))
  clear hb
  refine am_go (ct := fun _ => false) am_oX3_at 300 ?_
  conv => whnf
  repeat' first
    | (refine (?_ : am_wp _ _ _ _ _ _ _ _ _ _ _ _); conv => whnf)
    | (refine (?_ : am_sw _ _ _ _); conv => whnf)
    | refine And.intro trivial ?_
    | exact trivial
    | refine am_qe kk ?_
    | refine And.intro (fun h => absurd h (by decide)) (fun _ => ?_)
    | refine And.intro (fun _ => ?_) (fun h => absurd (by decide) h)
    | refine And.intro (fun _ => ?_) (fun _ => ?_)
    | refine And.intro ?_ ?_
  all_goals (first | decide | omega | (unfold am_nx; rw [if_pos (by omega), ci, ht]) | (unfold am_nx; rw [if_neg (by omega)]) | (trace_state; fail))
theorem x_digit {l : Launch} {ν : am_N} {Q : Option am_V → am_N → Prop} (t : Nat → Int) (n p : Int) (ht : ν 37 = t) (hn : ν 36 1 = n) (n0 : 0 ≤ n) (n1 : n ≤ 96) (hL : ∀ i : Nat, (i : Int) < n → 0 ≤ t i ∧ t i ≤ 255) (i0 : -1000 ≤ p) (i1 : p ≤ 1000) (k : ∀ d : Int, d = am_dt t n p → -1 ≤ d → d ≤ 9 → am_c d = d → Q (some (.inl d)) ν) : am_Does l 54 [.inr (.inr 35), .inl p] ν Q := by
  refine am_Does_of (Nat.le_of_ble_eq_true rfl) (Nat.le_of_ble_eq_true rfl) (Nat.le_of_ble_eq_true rfl) ?_
  have l0 : am_c 0 = 0 := rfl
  have l1 : am_c 1 = 1 := rfl
  have l3 : am_c 3 = 3 := rfl
  have l4 : am_c 4 = 4 := rfl
  have l5 : am_c 5 = 5 := rfl
  have l20 : am_c 20 = 20 := rfl
  have l40 : am_c 40 = 40 := rfl
  have l48 : am_c 48 = 48 := rfl
  have l57 : am_c 57 = 57 := rfl
  have l59 : am_c 59 = 59 := rfl
  have l119 : am_c 119 = 119 := rfl
  have l200 : am_c 200 = 200 := rfl
  have l999 : am_c 999 = 999 := rfl
  have hb := am_dt_b t n p
  have kk := k _ rfl hb.1 hb.2 (am_cR (by omega) (by omega))
  clear hb
  refine am_go (ct := fun _ => false) am_oX5_digit 300 ?_
  conv => whnf
  repeat' first
    | (refine (?_ : am_wp _ _ _ _ _ _ _ _ _ _ _ _); conv => whnf)
    | (refine (?_ : am_sw _ _ _ _); conv => whnf)
    | refine And.intro trivial ?_
    | exact trivial
    | refine x_lat t n _ ?_ ?_ n0 n1 hL ?_ ?_ (fun v ev v0 v1 cv => ?_)
    | refine am_qe kk ?_
    | refine And.intro (fun h => absurd h (by decide)) (fun _ => ?_)
    | refine And.intro (fun _ => ?_) (fun h => absurd (by decide) h)
    | refine And.intro (fun _ => ?_) (fun _ => ?_)
    | refine And.intro ?_ ?_
  all_goals (first | decide | exact ht | exact hn | omega | (rw [am_dt_i (by omega) (by omega)]; omega) | (rw [am_dt_o (by omega)]) | (trace_state; fail))
theorem x_two {l : Launch} {ν : am_N} {Q : Option am_V → am_N → Prop} (t : Nat → Int) (n p : Int) (ht : ν 37 = t) (hn : ν 36 1 = n) (n0 : 0 ≤ n) (n1 : n ≤ 96) (hL : ∀ i : Nat, (i : Int) < n → 0 ≤ t i ∧ t i ≤ 255) (i0 : -1000 ≤ p) (i1 : p ≤ 999) (k : ∀ d : Int, d = fp_2 t n p → am_c d = d → Q (some (.inl d)) ν) : am_Does l 55 [.inr (.inr 35), .inl p] ν Q := by
  refine am_Does_of (Nat.le_of_ble_eq_true rfl) (Nat.le_of_ble_eq_true rfl) (Nat.le_of_ble_eq_true rfl) ?_
  have hb := am_dt_b t n p
  have hb2 := am_dt_b t n (p + 1)
  have kk := k _ rfl (am_cR (by unfold fp_2; omega) (by unfold fp_2; omega))
  clear hb hb2
  refine am_go (ct := fun _ => false) am_oX5_two 300 ?_
  conv => whnf
  repeat' first
    | (refine (?_ : am_wp _ _ _ _ _ _ _ _ _ _ _ _); conv => whnf)
    | (refine (?_ : am_sw _ _ _ _); conv => whnf)
    | refine And.intro trivial ?_
    | exact trivial
    | refine x_digit t n _ ?_ ?_ n0 n1 hL ?_ ?_ (fun u eu u0 u1 cu => ?_)
    | refine am_qe kk ?_
    | refine And.intro (fun h => absurd h (by decide)) (fun _ => ?_)
    | refine And.intro (fun _ => ?_) (fun h => absurd (by decide) h)
    | refine And.intro (fun _ => ?_) (fun _ => ?_)
    | refine And.intro ?_ ?_
  all_goals (first | decide | exact ht | exact hn | omega | (unfold fp_2; omega) | (unfold fp_2; subst_vars; rfl) | (trace_state; fail))
theorem x_most {l : Launch} {μ : am_N} {Q : Option am_V → am_N → Prop} (c : Int) (c0 : -1 ≤ c) (c1 : c ≤ 255) (k : ∀ m : Int, m = am_ld c → -1 ≤ m → m ≤ 8 → am_c m = m → Q (some (.inl m)) μ) : am_Does l 53 [.inl c] μ Q := by
  refine am_Does_of (Nat.le_of_ble_eq_true rfl) (Nat.le_of_ble_eq_true rfl) (Nat.le_of_ble_eq_true rfl) ?_
  have cc : am_c c = c := am_cR (by omega) (by omega)
  have hb := am_ld_b c
  have kk := k _ rfl hb.1 hb.2 (am_cR (by omega) (by omega))
  clear hb
  refine am_go (ct := fun _ => false) am_oX5_mostDigits 300 ?_
  conv => whnf
  repeat' first
    | (refine (?_ : am_wp _ _ _ _ _ _ _ _ _ _ _ _); conv => whnf)
    | (refine (?_ : am_sw _ _ _ _); conv => whnf)
    | refine And.intro trivial ?_
    | exact trivial
    | refine am_qe kk ?_
    | refine And.intro (fun h => absurd h (by decide)) (fun _ => ?_)
    | refine And.intro (fun _ => ?_) (fun h => absurd (by decide) h)
    | refine And.intro (fun _ => ?_) (fun _ => ?_)
    | refine And.intro ?_ ?_
  all_goals (first | decide | omega | (unfold am_ld; repeat' split) <;> omega | (trace_state; fail))
theorem x_behindT {l : Launch} {ν : am_N} {Q : Option am_V → am_N → Prop} (t : Nat → Int) (n p : Int) (ht : ν 37 = t) (hn : ν 36 1 = n) (n0 : 0 ≤ n) (n1 : n ≤ 96) (hL : ∀ i : Nat, (i : Int) < n → 0 ≤ t i ∧ t i ≤ 255) (p0 : 0 ≤ p) (p1 : p ≤ n) (k : ∀ v : Int, v = am_bh t n p → (0 ≤ v → p + 1 < v ∧ v ≤ n) → (v < 0 → p ≤ -1 - v ∧ -1 - v ≤ n) → am_c v = v → Q (some (.inl v)) ν) : am_Does l 52 [.inr (.inr 35), .inl p] ν Q := by
  refine am_Does_of (Nat.le_of_ble_eq_true rfl) (Nat.le_of_ble_eq_true rfl) (Nat.le_of_ble_eq_true rfl) ?_
  have l0 : am_c 0 = 0 := rfl
  have l1 : am_c 1 = 1 := rfl
  have l3 : am_c 3 = 3 := rfl
  have l4 : am_c 4 = 4 := rfl
  have l5 : am_c 5 = 5 := rfl
  have l20 : am_c 20 = 20 := rfl
  have l40 : am_c 40 = 40 := rfl
  have l48 : am_c 48 = 48 := rfl
  have l57 : am_c 57 = 57 := rfl
  have l59 : am_c 59 = 59 := rfl
  have l119 : am_c 119 = 119 := rfl
  have l200 : am_c 200 = 200 := rfl
  have l999 : am_c 999 = 999 := rfl
  have hb := am_bh_b t n p p0 p1
  have kk := k _ rfl hb.1 hb.2 (am_cR (by omega) (by omega))
  clear hb
  have lp71 : ∀ (M L q : Int) (o5 : Option am_V), M = am_ld (am_nx t n p) → L = am_ls (am_nx t n p) → 0 ≤ M → q = am_dn t n M.toNat (p + 1) → p + 1 ≤ q → q ≤ p + 9 → am_AW l 0 (fun _ => 0) 52 Q 71 [some (.inr (.inr 35)), some (.inl p), some (.inl M), some (.inl L), some (.inl q), o5] [] ν := by
    intro M L q o5  hv0 hv1 hv2 hv3 hv4 hv5
    have hl := am_ls_b (am_nx t n p)
    have cl : am_c L = L := am_cR (by omega) (by omega)
    have cd : am_c (q - p - 1) = q - p - 1 := am_cR (by omega) (by omega)
    have cq : am_c q = q := am_cR (by omega) (by omega)
    refine am_go (ct := fun pc => Nat.beq pc 71 || Nat.beq pc 47) am_oX5_behind 300 ?_
    conv => whnf
    repeat' first
      | (refine (?_ : am_wp _ _ _ _ _ _ _ _ _ _ _ _); conv => whnf)
      | (refine (?_ : am_sw _ _ _ _); conv => whnf)
      | refine And.intro trivial ?_
      | exact trivial
      | refine x_lat t n _ ?_ ?_ n0 n1 hL ?_ ?_ (fun v ev v0 v1 cv => ?_)
      | refine am_qe kk ?_
      | refine x_lat t n _ ?_ ?_ n0 n1 hL ?_ ?_ (fun v ev v0 v1 cv => ?_)
      | refine x_most _ ?_ ?_ (fun m em m0 m1 cm => ?_)
      | refine am_qe kk ?_
      | refine And.intro (fun h => absurd h (by decide)) (fun _ => ?_)
      | refine And.intro (fun _ => ?_) (fun h => absurd (by decide) h)
      | refine And.intro (fun _ => ?_) (fun _ => ?_)
      | refine And.intro ?_ ?_
    all_goals (first | decide | exact ht | exact hn | omega | (rw [am_bh_2 hv0 hv1 hv2 hv3 (by omega)]) | (rw [am_bh_3 hv0 hv1 hv2 hv3 (by omega)]) | (trace_state; fail))
  have lp47 : ∀ (m : Nat) (M L q j : Int) , M = am_ld (am_nx t n p) → L = am_ls (am_nx t n p) → 0 ≤ j → j ≤ M → q = p + 1 + j → am_dn t n (M - j).toNat q = am_dn t n M.toNat (p + 1) → M - j < (m : Int) → am_AW l 0 (fun _ => 0) 52 Q 47 [some (.inr (.inr 35)), some (.inl p), some (.inl M), some (.inl L), some (.inl q), some (.inl j)] [] ν := by
    intro m
    induction m with
    | zero =>
      intro M L q j  hv0 hv1 hv2 hv3 hv4 hv5 hm
      exfalso
      omega
    | succ m ih =>
      intro M L q j  hv0 hv1 hv2 hv3 hv4 hv5 hm
      have hm := am_ld_b (am_nx t n p)
      have cj : am_c j = j := am_cR (by omega) (by omega)
      have cM : am_c M = M := am_cR (by omega) (by omega)
      refine am_go (ct := fun pc => Nat.beq pc 71 || Nat.beq pc 47) am_oX5_behind 300 ?_
      conv => whnf
      repeat' first
        | (refine (?_ : am_wp _ _ _ _ _ _ _ _ _ _ _ _); conv => whnf)
        | (refine (?_ : am_sw _ _ _ _); conv => whnf)
        | refine And.intro trivial ?_
        | exact trivial
        | refine x_digit t n _ ?_ ?_ n0 n1 hL ?_ ?_ (fun d ed d0 d1 cd => ?_)
        | refine x_lat t n _ ?_ ?_ n0 n1 hL ?_ ?_ (fun v ev v0 v1 cv => ?_)
        | refine x_most _ ?_ ?_ (fun m em m0 m1 cm => ?_)
        | refine am_qe kk ?_
        | refine ih _ _ _ _  ?_ ?_ ?_ ?_ ?_ ?_ ?_
        | refine lp71 _ _ _ _  ?_ ?_ ?_ ?_ ?_ ?_
        | refine And.intro (fun h => absurd h (by decide)) (fun _ => ?_)
        | refine And.intro (fun _ => ?_) (fun h => absurd (by decide) h)
        | refine And.intro (fun _ => ?_) (fun _ => ?_)
        | refine And.intro ?_ ?_
      all_goals (first | decide | exact ht | exact hn | omega | assumption | (rw [← hv5]; first | (exact (am_dn_z (by omega)).symm) | (exact (am_dn_s (by omega) (by omega)).symm)) | (trace_state; fail))
  have lp47' : ∀ (M L q j : Int) , M = am_ld (am_nx t n p) → L = am_ls (am_nx t n p) → 0 ≤ j → j ≤ M → q = p + 1 + j → am_dn t n (M - j).toNat q = am_dn t n M.toNat (p + 1) → am_AW l 0 (fun _ => 0) 52 Q 47 [some (.inr (.inr 35)), some (.inl p), some (.inl M), some (.inl L), some (.inl q), some (.inl j)] [] ν := fun M L q j  hv0 hv1 hv2 hv3 hv4 hv5 => lp47 ((M - j) + 1).toNat M L q j  hv0 hv1 hv2 hv3 hv4 hv5 (by omega)
  refine am_go (ct := fun pc => Nat.beq pc 71 || Nat.beq pc 47) am_oX5_behind 300 ?_
  conv => whnf
  repeat' first
    | (refine (?_ : am_wp _ _ _ _ _ _ _ _ _ _ _ _); conv => whnf)
    | (refine (?_ : am_sw _ _ _ _); conv => whnf)
    | refine And.intro trivial ?_
    | exact trivial
    | refine x_lat t n _ ?_ ?_ n0 n1 hL ?_ ?_ (fun v ev v0 v1 cv => ?_)
    | refine x_most _ ?_ ?_ (fun m em m0 m1 cm => ?_)
    | refine am_qe kk ?_
    | refine lp47' _ _ _ _  ?_ ?_ ?_ ?_ ?_ ?_
    | refine lp71 _ _ _ _  ?_ ?_ ?_ ?_ ?_ ?_
    | refine And.intro (fun h => absurd h (by decide)) (fun _ => ?_)
    | refine And.intro (fun _ => ?_) (fun h => absurd (by decide) h)
    | refine And.intro (fun _ => ?_) (fun _ => ?_)
    | refine And.intro ?_ ?_
  all_goals (first | decide | exact ht | exact hn | omega | (rw [am_bh_1 (by rw [← ev, ← em]; omega)]) | exact em.trans (congrArg am_ld (by assumption)) | (unfold am_ls; rw [if_pos (by omega)]) | (unfold am_ls; rw [if_neg (by omega)]; exact em.trans (congrArg am_ld (by assumption))) | (rw [show m - 0 = m by omega, show p + 1 + 0 = p + 1 by omega]) | (rw [show m - 0 = m by omega]) | (trace_state; fail))
theorem x_firstFault {l : Launch} {ν : am_N} {Q : Option am_V → am_N → Prop} (t : Nat → Int) (n : Int) (ht : ν 37 = t) (hn : ν 36 1 = n) (n0 : 0 ≤ n) (n1 : n ≤ 96) (hL : ∀ i : Nat, (i : Int) < n → 0 ≤ t i ∧ t i ≤ 255) (k1 : ∀ K : Nat, fp_pr t n K → (fp_pk t n K < n ∨ K = 0) → am_bh t n (fp_pk t n K) < 0 → Q (some (.inl (-1 - am_bh t n (fp_pk t n K)))) ν) (k2 : ∀ K : Nat, 1 ≤ K → fp_pr t n K → n ≤ fp_pk t n K → Q (some (.inl (-1))) ν) : am_Does l 51 [.inr (.inr 35)] ν Q := by
  refine am_Does_of (Nat.le_of_ble_eq_true rfl) (Nat.le_of_ble_eq_true rfl) (Nat.le_of_ble_eq_true rfl) ?_
  have l0 : am_c 0 = 0 := rfl
  have l1 : am_c 1 = 1 := rfl
  have l3 : am_c 3 = 3 := rfl
  have l4 : am_c 4 = 4 := rfl
  have l5 : am_c 5 = 5 := rfl
  have l20 : am_c 20 = 20 := rfl
  have l40 : am_c 40 = 40 := rfl
  have l48 : am_c 48 = 48 := rfl
  have l57 : am_c 57 = 57 := rfl
  have l59 : am_c 59 = 59 := rfl
  have l119 : am_c 119 = 119 := rfl
  have l200 : am_c 200 = 200 := rfl
  have l999 : am_c 999 = 999 := rfl
  have cn : am_c (ν 36 1) = n := by rw [hn]; exact am_cR (by omega) (by omega)
  have lp16 : ∀ (m : Nat) (a j : Int) (o3 : Option am_V) , 0 ≤ j → a = fp_pk t n j.toNat → fp_pr t n j.toNat → 1 ≤ n → n - j < (m : Int) → am_AW l 0 (fun _ => 0) 51 Q 16 [some (.inr (.inr 35)), some (.inl a), some (.inl j), o3] [] ν := by
    intro m
    induction m with
    | zero =>
      intro a j o3  hv0 hv1 hv2 hv3 hm
      have hb := fp_pk_b n0 j.toNat hv2
      exfalso
      omega
    | succ m ih =>
      intro a j o3  hv0 hv1 hv2 hv3 hm
      have hb := fp_pk_b n0 j.toNat hv2
      have ca : am_c a = a := am_cR (by omega) (by omega)
      have cj : am_c j = j := am_cR (by omega) (by omega)
      have ej : (j + 1).toNat = j.toNat + 1 := by omega
      refine am_go (ct := fun pc => Nat.beq pc 16) am_oX5_firstFault 300 ?_
      conv => whnf
      repeat' first
        | (refine (?_ : am_wp _ _ _ _ _ _ _ _ _ _ _ _); conv => whnf)
        | (refine (?_ : am_sw _ _ _ _); conv => whnf)
        | refine And.intro trivial ?_
        | exact trivial
        | refine x_behindT t n _ ?_ ?_ n0 n1 hL ?_ ?_ (fun v ev v0 v1 cv => ?_)
        | refine k2 j.toNat ?_ hv2 ?_
        | (refine am_qe (k1 j.toNat hv2 ?_ ?_) ?_)
        | (refine am_qe (k1 0 fp_pr_0 (Or.inr rfl) ?_) ?_)
        | refine ih _ _ _  ?_ ?_ ?_ ?_ ?_
        | refine And.intro (fun h => absurd h (by decide)) (fun _ => ?_)
        | refine And.intro (fun _ => ?_) (fun h => absurd (by decide) h)
        | refine And.intro (fun _ => ?_) (fun _ => ?_)
        | refine And.intro ?_ ?_
      all_goals (first | decide | exact ht | exact hn | omega | (simp only [cn] at *; omega) | (rw [← hv1]; first | omega | (simp only [cn] at *; omega)) | (rw [← hv1, ← ev]; omega) | (rw [ej]; show v = am_bh t n (fp_pk t n j.toNat); rw [← hv1]; exact ev) | (rw [ej]; exact fp_pr_s hv2 (by omega) (by rw [← hv1]; omega)) | (have z : j.toNat ≠ 0 := (fun y => by rw [y] at hv1; have : a = 0 := hv1; simp only [cn] at *; omega); omega) | (trace_state; fail))
  have lp16' : ∀ (a j : Int) (o3 : Option am_V) , 0 ≤ j → a = fp_pk t n j.toNat → fp_pr t n j.toNat → 1 ≤ n → am_AW l 0 (fun _ => 0) 51 Q 16 [some (.inr (.inr 35)), some (.inl a), some (.inl j), o3] [] ν := fun a j o3  hv0 hv1 hv2 hv3 => lp16 ((n - j) + 1).toNat a j o3  hv0 hv1 hv2 hv3 (by omega)
  refine am_go (ct := fun pc => Nat.beq pc 16) am_oX5_firstFault 300 ?_
  conv => whnf
  repeat' first
    | (refine (?_ : am_wp _ _ _ _ _ _ _ _ _ _ _ _); conv => whnf)
    | (refine (?_ : am_sw _ _ _ _); conv => whnf)
    | refine And.intro trivial ?_
    | exact trivial
    | (refine am_qe (k1 0 fp_pr_0 (Or.inr rfl) ?_) ?_)
    | refine lp16' _ _ _  ?_ ?_ ?_ ?_
    | refine And.intro (fun h => absurd h (by decide)) (fun _ => ?_)
    | refine And.intro (fun _ => ?_) (fun h => absurd (by decide) h)
    | refine And.intro (fun _ => ?_) (fun _ => ?_)
    | refine And.intro ?_ ?_
  all_goals (first | decide | exact ht | exact hn | omega | rfl | exact fp_pr_0 | (simp only [cn] at *; omega) | (have z : am_bh t n (fp_pk t n 0) = -1 - 0 := am_bh_1 (by rw [show am_nx t n (fp_pk t n 0) = -1 from if_neg (by show ¬(0 ≤ (0 : Int) ∧ (0 : Int) < n); simp only [cn] at *; omega)]; decide); omega) | (trace_state; fail))
