theorem fw_fk {t : Nat → Int} {n : Int} {F : am_N} (h0 : 0 ≤ n) (hf : fp_fw 999 F) : ∀ K : Nat, fp_pr t n K → fp_okp t n F K → fp_fw 999 (fp_fk t n F K)
  | 0, _, _ => hf
  | K + 1, h, g => by
    have b := fp_pk_b h0 K (fun j hj => h j (by omega))
    exact fw_cf (fw_fk h0 hf K (fun j hj => h j (by omega)) (fun j hj => g j (by omega))) (g K (by omega)) (by omega) (h K (by omega)).2
theorem x_lat {l : Launch} {ν : am_N} {Q : Option am_V → am_N → Prop} (t : Nat → Int) (n i : Int) (ht : ν 37 = t) (hn : ν 36 1 = n) (n0 : 0 ≤ n) (n1 : n ≤ 96) (hL : ∀ i : Nat, (i : Int) < n → 0 ≤ t i ∧ t i ≤ 255) (i0 : -1000 ≤ i) (i1 : i ≤ 1000) (k : ∀ v : Int, v = am_nx t n i → -1 ≤ v → v ≤ 255 → am_c v = v → Q (some (.inl v)) ν) : am_Does l 43 [.inr (.inr 36), .inl i] ν Q := by
  refine am_Does_of (Nat.le_of_ble_eq_true rfl) (Nat.le_of_ble_eq_true rfl) (Nat.le_of_ble_eq_true rfl) ?_
  have l0 : am_c 0 = 0 := rfl
  have l1 : am_c 1 = 1 := rfl
  have l3 : am_c 3 = 3 := rfl
  have l4 : am_c 4 = 4 := rfl
  have l5 : am_c 5 = 5 := rfl
  have l20 : am_c 20 = 20 := rfl
  have l40 : am_c 40 = 40 := rfl
  have l48 : am_c 48 = 48 := rfl
  have l57 : am_c 57 = 57 := rfl
  have l59 : am_c 59 = 59 := rfl
  have l119 : am_c 119 = 119 := rfl
  have l200 : am_c 200 = 200 := rfl
  have l999 : am_c 999 = 999 := rfl
  have ci : am_c i = i := am_cR (by omega) (by omega)
  have cn : am_c (ν 36 1) = n := by rw [hn]; exact am_cR (by omega) (by omega)
  have hb := am_nx_b hL i
  have kk := k _ rfl hb.1 hb.2 (am_cR (by omega) (by omega))
  clear hb
  refine am_go (ct := fun _ => false) am_oX3_at 300 ?_
  conv => whnf
  repeat' first
    | (refine (?_ : am_wp _ _ _ _ _ _ _ _ _ _ _ _); conv => whnf)
    | (refine (?_ : am_sw _ _ _ _); conv => whnf)
    | refine And.intro trivial ?_
    | exact trivial
    | refine am_qe kk ?_
    | refine And.intro (fun h => absurd h (by decide)) (fun _ => ?_)
    | refine And.intro (fun _ => ?_) (fun h => absurd (by decide) h)
    | refine And.intro (fun _ => ?_) (fun _ => ?_)
    | refine And.intro ?_ ?_
  all_goals (first | decide | omega | (unfold am_nx; rw [if_pos (by omega), ci, ht]) | (unfold am_nx; rw [if_neg (by omega)]) | (trace_state; fail))
