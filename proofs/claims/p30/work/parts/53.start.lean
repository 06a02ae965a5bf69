/-! the law: its start and its loop -/
def lx_ad (b q : Nat) (u v : Nat → Nat) (k : Nat) : Nat := bif Nat.beq k 999 then b else bif Nat.blt k 83 then u k else bif Nat.beq k 83 then q else v (k - 84)
def lx_ca (u v : Nat → ClassId) (k : Nat) : ClassId := bif Nat.blt k 83 then u k else v (k - 84)
theorem nw_go_app (ad : Nat → Nat) (ca : Nat → ClassId) (l2 : List (Nat × List Nat)) : ∀ (l1 : List (Nat × List Nat)) (k : Nat), nw_go ad ca k (l1 ++ l2) = nw_go ad ca k l1 ++ nw_go ad ca (k + l1.length) l2
  | [], k => rfl
  | q :: r, k => by
    show _ :: nw_go ad ca (k + 1) (r ++ l2) = _ :: (nw_go ad ca (k + 1) r ++ nw_go ad ca (k + (r.length + 1)) l2)
    rw [nw_go_app ad ca l2 r (k + 1), show k + 1 + r.length = k + (r.length + 1) by omega]
def nw_okq (n : Nat) (q : Nat × List Nat) : Bool := match q.1 with
  | 0 => true
  | 1 => q.2.all (fun c => Nat.blt c n)
  | _ => q.2.all (fun c => Nat.ble c n)
theorem nw_ce_same {ad ad' : Nat → Nat} {ca ca' : Nat → ClassId} {n k : Nat} (ha : ∀ j, j < n → ad j = ad' j) (hc : ca k = ca' k) {q : Nat × List Nat} (hq : nw_okq n q = true) (f : Nat → Int) : nw_ce ad ca k q f = nw_ce ad' ca' k q f := by
  obtain ⟨t, fs⟩ := q
  match t, hq with
  | 0, _ => show (Sum.inl (ca k, fs.headD 0, Sum.inl (fun j => Int32.ofInt (f j))) : va_E) = _; rw [hc]; rfl
  | 1, hq =>
    have e : fs.map ad = fs.map ad' := List.map_congr_left (fun c h => ha c (Nat.le_of_ble_eq_true (List.all_eq_true.mp hq c h)))
    show (Sum.inl (ca k, fs.length, Sum.inr (Sum.inr (Sum.inr (Sum.inr (fun i => (fs.map ad)[i]?))))) : va_E) = _
    rw [hc, e]; rfl
  | c + 2, hq =>
    have e : nw_mi ad f 0 fs = nw_mi ad' f 0 fs := by
      apply List.ext_getElem?
      intro i
      rw [nw_mi_at, nw_mi_at]
      cases h : fs[i]? with
      | none => rfl
      | some w =>
        have hw : w ≤ n := Nat.le_of_ble_eq_true (List.all_eq_true.mp hq w (List.mem_of_getElem? h))
        cases w with
        | zero => rfl
        | succ w =>
          show some (Value.ref (ad w)) = some (Value.ref (ad' w))
          rw [ha w (by omega)]
    show (Sum.inr (c, nw_mi ad f 0 fs) : va_E) = _
    rw [e]; rfl
theorem nw_go_same {ad ad' : Nat → Nat} {ca ca' : Nat → ClassId} {n : Nat} (ha : ∀ j, j < n → ad j = ad' j) (hc : ∀ j, j < n → ca j = ca' j) : ∀ (l : List (Nat × List Nat)) (k : Nat), k + l.length ≤ n → l.all (nw_okq n) = true → nw_go ad ca k l = nw_go ad' ca' k l
  | [], _, _, _ => rfl
  | q :: r, k, h, ho => by
    have h1 : k + (r.length + 1) ≤ n := h
    have h2 := List.all_eq_true.mp ho
    show (ad k, nw_ce ad ca k q (nw_μ k)) :: nw_go ad ca (k + 1) r = (ad' k, nw_ce ad' ca' k q (nw_μ k)) :: nw_go ad' ca' (k + 1) r
    rw [ha k (by omega), nw_ce_same ha (hc k (by omega)) (h2 q List.mem_cons_self), nw_go_same ha hc r (k + 1) (by omega) (List.all_eq_true.mpr (fun x hx => h2 x (List.mem_cons_of_mem _ hx)))]
theorem lx_blt {j n : Nat} (h : j < n) : Nat.blt j n = true := Nat.ble_eq.mpr h
theorem lx_beq {j n : Nat} (h : j < n) : Nat.beq j n = false := by
  cases q : Nat.beq j n with
  | false => rfl
  | true => have := Nat.eq_of_beq_eq_true q; omega
theorem lx_world7 (b q : Nat) (u1 v1 : Nat → Nat) (u2 v2 : Nat → ClassId) : nw_go (lx_ad b q u1 v1) (lx_ca u2 v2) 83 (am_sh.drop 83) = nwX7 q v1 v2 := rfl
theorem lx_world (b q : Nat) (u1 v1 : Nat → Nat) (u2 v2 : Nat → ClassId) : am_ws (lx_ad b q u1 v1) (lx_ca u2 v2) nw_μ = nwX6 u1 u2 ++ nwX7 q v1 v2 := by
  have h1 : nw_go (lx_ad b q u1 v1) (lx_ca u2 v2) 0 (am_sh.take 83) = nwX6 u1 u2 := nw_go_same (n := 83) (fun j h => by
    unfold lx_ad
    rw [lx_beq (show j < 999 by omega), lx_blt h]; rfl) (fun j h => by
    unfold lx_ca
    rw [lx_blt h]; rfl) (am_sh.take 83) 0 (by decide) (by decide)
  have h2 : am_sh = am_sh.take 83 ++ am_sh.drop 83 := (List.take_append_drop 83 am_sh).symm
  rw [nw_ws]
  refine (congrArg (nw_go (lx_ad b q u1 v1) (lx_ca u2 v2) 0) h2).trans ?_
  rw [nw_go_app, h1, show 0 + (am_sh.take 83).length = 83 from rfl, lx_world7]
def lx_L : List (Nat × Bool) := [(2, false), (3, false), (4, false), (5, false), (6, false), (7, false), (9, false), (10, false), (11, false), (12, false), (13, false), (14, false), (16, false), (17, false), (18, false), (19, false), (20, false), (21, false), (23, false), (24, false), (25, false), (26, false), (27, false), (28, false), (30, false), (31, false), (32, false), (33, false), (34, false), (37, false), (39, false), (40, false), (41, false), (42, false), (43, false), (45, false), (47, false), (49, false), (51, false), (54, false), (56, false), (59, false), (61, false), (63, true), (64, false), (65, false), (66, false), (67, false), (68, false), (69, false), (70, true), (71, false), (72, false), (73, false), (74, false), (75, false), (76, false), (77, false), (78, false), (79, true), (80, false), (81, false), (82, false), (84, false), (85, false), (86, false), (87, false), (88, false), (89, false), (90, false), (91, false), (92, false), (93, false), (94, false), (95, false), (96, false), (97, false), (98, false), (99, false), (100, false), (101, false), (102, false), (103, false), (104, false), (105, false), (106, false)]
set_option maxRecDepth 20000 in
theorem lx_Le (u2 v2 : Nat → ClassId) : nkX6 u2 ++ nkX7 v2 = lx_L.map (fun p => (lx_ca u2 v2 p.1, (bif p.2 then FieldType.array .int else FieldType.int))) := rfl
def lx_tk (k : Nat) : Bool := match am_sh[k]? with
  | some q => (!(Nat.beq q.1 0) || lx_L.any (fun p => Nat.beq p.1 k && !p.2)) && (!(Nat.beq q.1 1) || lx_L.any (fun p => Nat.beq p.1 k && p.2))
  | none => true
set_option maxRecDepth 20000 in
theorem lx_tka : (List.range am_sh.length).all lx_tk = true := by decide +kernel
theorem lx_t0 {u2 v2 : Nat → ClassId} {k : Nat} (h : lx_L.any (fun p => Nat.beq p.1 k && !p.2) = true) : ∃ t0 : Nat, (nkX6 u2 ++ nkX7 v2)[t0]? = some (lx_ca u2 v2 k, FieldType.int) := by
  obtain ⟨⟨a, c⟩, hp, hq⟩ := List.any_eq_true.mp h
  obtain ⟨t0, ht⟩ := List.getElem?_of_mem hp
  refine ⟨t0, ?_⟩
  rw [Bool.and_eq_true] at hq
  have e : a = k := Nat.eq_of_beq_eq_true hq.1
  subst e
  cases c with
  | true => exact absurd (show (!true) = true from hq.2) (by decide)
  | false => rw [lx_Le, List.getElem?_map, ht]; rfl
theorem lx_t1 {u2 v2 : Nat → ClassId} {k : Nat} (h : lx_L.any (fun p => Nat.beq p.1 k && p.2) = true) : ∃ t0 : Nat, (nkX6 u2 ++ nkX7 v2)[t0]? = some (lx_ca u2 v2 k, FieldType.array .int) := by
  obtain ⟨⟨a, c⟩, hp, hq⟩ := List.any_eq_true.mp h
  obtain ⟨t0, ht⟩ := List.getElem?_of_mem hp
  refine ⟨t0, ?_⟩
  rw [Bool.and_eq_true] at hq
  have e : a = k := Nat.eq_of_beq_eq_true hq.1
  subst e
  cases c with
  | false => exact absurd (show false = true from hq.2) (by decide)
  | true => rw [lx_Le, List.getElem?_map, ht]; rfl
theorem lx_ty (u2 v2 : Nat → ClassId) : am_TY (lx_ca u2 v2) (nkX6 u2 ++ nkX7 v2) := fun k q h => by
  have hk : k < am_sh.length := by
    by_cases z : k < am_sh.length
    · exact z
    · rw [List.getElem?_eq_none (by omega)] at h
      cases h
  have t := List.all_eq_true.mp lx_tka k (List.mem_range.mpr hk)
  unfold lx_tk at t
  rw [h] at t
  have t : ((!(Nat.beq q.1 0) || lx_L.any (fun p => Nat.beq p.1 k && !p.2)) && (!(Nat.beq q.1 1) || lx_L.any (fun p => Nat.beq p.1 k && p.2))) = true := t
  rw [Bool.and_eq_true] at t
  refine ⟨fun z => ?_, fun z => ?_⟩
  · rcases Bool.or_eq_true_iff.mp t.1 with w | w
    · rw [z] at w
      exact absurd w (by decide)
    · exact lx_t0 w
  · rcases Bool.or_eq_true_iff.mp t.2 with w | w
    · rw [z] at w
      exact absurd w (by decide)
    · exact lx_t1 w
theorem lx_start : lx_I nw_μ := by
  refine ⟨⟨fun _ _ _ => rfl, fun p _ => ⟨Int.le_refl 0, by show (0 : Int) ≤ 3; decide⟩, fun p _ => ⟨Int.le_refl 0, by show (0 : Int) ≤ 3; decide⟩, ?_, ?_⟩, ?_, ⟨⟨?_, ?_⟩, ⟨rfl, fun _ => rfl, fun i hi => (by have z : nw_μ 36 1 = 0 := rfl; omega)⟩, rq_B_zero rfl rfl, Or.inl ⟨rfl, rfl⟩⟩⟩
  · unfold sx_4; decide
  · unfold px; decide
  · unfold mi
    refine ⟨by decide, by decide, by decide, by decide, by decide, by decide, by decide, by decide, by decide, by decide, fun p _ => ⟨Int.le_refl 0, by show (0 : Int) ≤ 3; decide⟩⟩
  · refine fp_ct_e (fun b hb => ?_) (fun a b q1 q2 hb => ?_)
    · rcases (show b = 0 ∨ b = 1 ∨ b = 2 ∨ b = 3 ∨ b = 4 by omega) with rfl | rfl | rfl | rfl | rfl <;> rfl
    · rcases (show a = 1 ∨ a = 2 ∨ a = 3 ∨ a = 4 ∨ a = 5 ∨ a = 6 by omega) with rfl | rfl | rfl | rfl | rfl | rfl <;> rfl
  · unfold fp_fw
    refine ⟨by decide, by decide, by decide, by decide, by decide, fun i hi => ?_, fun i hi => ?_⟩
    · rw [mv_5 hi]; exact ⟨Int.le_refl 0, by show (0 : Int) ≤ 99; decide⟩
    · have z : mv nw_μ 0 4 = 0 := rfl
      omega
theorem lx_Xt (xs : Nat → Int32) : lx_X (fun j => (xs j).toInt) := fun j => by
  have e := am_toInt (xs j).toInt
  rw [am_back] at e
  have h := am_cb (xs j).toInt
  show -2147483648 ≤ (xs j).toInt ∧ (xs j).toInt ≤ 2147483647
  omega
theorem lx_next {l : Launch} {L : Nat} {xs : Nat → Int} {i : Int} (hN : ∀ μ : am_N, lx_I μ → am_AW l L xs 0 lx_Q 18 [some (.inr (.inr 999)), some (.inr (.inr 0)), some (.inr (.inr 83)), some (.inl (i + 5))] [] μ) : lx_H l L xs i := fun μ hI => by
  refine am_go (ct := fun pc => Nat.beq pc 18) am_oL_law 20 ?_
  conv => whnf
  repeat' first
    | (refine (?_ : am_wp _ _ _ _ _ _ _ _ _ _ _ _); conv => whnf)
    | refine And.intro trivial ?_
    | exact hN _ hI
theorem lx_loop {l : Launch} {L : Nat} {xs : Nat → Int} (hX : lx_X xs) (hL : L ≤ 2560) : ∀ (m : Nat) (i : Int) (μ : am_N), 0 ≤ i → i ≤ 2565 → (L : Int) - i < m → lx_I μ → am_AW l L xs 0 lx_Q 18 [some (.inr (.inr 999)), some (.inr (.inr 0)), some (.inr (.inr 83)), some (.inl i)] [] μ := by
  intro m
  induction m with
  | zero =>
    intro i μ hi0 hi1 hm hI
    have ei : am_c i = i := am_cR (by omega) (by omega)
    have eL : am_c ((L : Int) - 5) = (L : Int) - 5 := am_cR (by omega) (by omega)
    refine am_go (ct := fun pc => Nat.beq pc 26) am_oL_law 20 ?_
    conv => whnf
    repeat' first
      | (refine (?_ : am_wp _ _ _ _ _ _ _ _ _ _ _ _); conv => whnf)
      | refine And.intro ⟨rfl, rfl⟩ ?_
      | refine And.intro trivial ?_
      | exact rfl
      | refine And.intro (fun _ => ?_) (fun hz => absurd (show am_c ((L : Int) - 5) < am_c i by omega) hz)
      | refine And.intro (Or.inr rfl) ?_
  | succ m ih =>
    intro i μ hi0 hi1 hm hI
    have ei : am_c i = i := am_cR (by omega) (by omega)
    have eL : am_c ((L : Int) - 5) = (L : Int) - 5 := am_cR (by omega) (by omega)
    have hgo : i ≤ (L : Int) - 5 → am_AW l L xs 0 lx_Q 26 [some (.inr (.inr 999)), some (.inr (.inr 0)), some (.inr (.inr 83)), some (.inl i)] [] μ := fun hi => by
      have hH : lx_H l L xs i := lx_next (fun μ hI => ih (i + 5) μ (by omega) (by omega) (by omega) hI)
      have ix : 0 ≤ am_c i ∧ am_c i < L := by rw [ei]; omega
      refine am_go (ct := fun pc => Nat.ble 256 pc && Nat.ble pc 1662) am_oL_law 20 ?_
      conv => whnf
      repeat' first
        | (refine (?_ : am_wp _ _ _ _ _ _ _ _ _ _ _ _); conv => whnf)
        | (refine (?_ : am_sw _ _ _ _); conv => whnf)
        | refine And.intro ⟨rfl, rfl⟩ ?_
        | refine And.intro ix ?_
        | refine And.intro trivial ?_
        | refine And.intro (fun _ => ?_) (fun _ => ?_)
        | ((with_reducible refine (?_ : am_AW _ _ _ _ _ 1662 _ _ _)); exact hH _ hI)
        | ((with_reducible refine (?_ : am_AW _ _ _ _ _ 256 _ _ _)); exact lx_c0 hX hL hi0 (by omega) hH _ hI)
        | ((with_reducible refine (?_ : am_AW _ _ _ _ _ 279 _ _ _)); exact lx_c1 hX hL hi0 (by omega) hH _ hI)
        | ((with_reducible refine (?_ : am_AW _ _ _ _ _ 292 _ _ _)); exact lx_c2 hX hL hi0 (by omega) hH _ hI)
        | ((with_reducible refine (?_ : am_AW _ _ _ _ _ 325 _ _ _)); exact lx_c3 hX hL hi0 (by omega) hH _ hI)
        | ((with_reducible refine (?_ : am_AW _ _ _ _ _ 358 _ _ _)); exact lx_c4 hX hL hi0 (by omega) hH _ hI)
        | ((with_reducible refine (?_ : am_AW _ _ _ _ _ 401 _ _ _)); exact lx_c5 hX hL hi0 (by omega) hH _ hI)
        | ((with_reducible refine (?_ : am_AW _ _ _ _ _ 434 _ _ _)); exact lx_c6 hX hL hi0 (by omega) hH _ hI)
        | ((with_reducible refine (?_ : am_AW _ _ _ _ _ 447 _ _ _)); exact lx_c7 hX hL hi0 (by omega) hH _ hI)
        | ((with_reducible refine (?_ : am_AW _ _ _ _ _ 460 _ _ _)); exact lx_c8 hX hL hi0 (by omega) hH _ hI)
        | ((with_reducible refine (?_ : am_AW _ _ _ _ _ 493 _ _ _)); exact lx_c9 hX hL hi0 (by omega) hH _ hI)
        | ((with_reducible refine (?_ : am_AW _ _ _ _ _ 526 _ _ _)); exact lx_c10 hX hL hi0 (by omega) hH _ hI)
        | ((with_reducible refine (?_ : am_AW _ _ _ _ _ 559 _ _ _)); exact lx_c11 hX hL hi0 (by omega) hH _ hI)
        | ((with_reducible refine (?_ : am_AW _ _ _ _ _ 582 _ _ _)); exact lx_c12 hX hL hi0 (by omega) hH _ hI)
        | ((with_reducible refine (?_ : am_AW _ _ _ _ _ 615 _ _ _)); exact lx_c13 hX hL hi0 (by omega) hH _ hI)
        | ((with_reducible refine (?_ : am_AW _ _ _ _ _ 648 _ _ _)); exact lx_c14 hX hL hi0 (by omega) hH _ hI)
        | ((with_reducible refine (?_ : am_AW _ _ _ _ _ 671 _ _ _)); exact lx_c15 hX hL hi0 (by omega) hH _ hI)
        | ((with_reducible refine (?_ : am_AW _ _ _ _ _ 714 _ _ _)); exact lx_c16 hX hL hi0 (by omega) hH _ hI)
        | ((with_reducible refine (?_ : am_AW _ _ _ _ _ 727 _ _ _)); exact lx_c17 hX hL hi0 (by omega) hH _ hI)
        | ((with_reducible refine (?_ : am_AW _ _ _ _ _ 750 _ _ _)); exact lx_c18 hX hL hi0 (by omega) hH _ hI)
        | ((with_reducible refine (?_ : am_AW _ _ _ _ _ 783 _ _ _)); exact lx_c19 hX hL hi0 (by omega) hH _ hI)
        | ((with_reducible refine (?_ : am_AW _ _ _ _ _ 816 _ _ _)); exact lx_c20 hX hL hi0 (by omega) hH _ hI)
        | ((with_reducible refine (?_ : am_AW _ _ _ _ _ 859 _ _ _)); exact lx_c21 hX hL hi0 (by omega) hH _ hI)
        | ((with_reducible refine (?_ : am_AW _ _ _ _ _ 882 _ _ _)); exact lx_c22 hX hL hi0 (by omega) hH _ hI)
        | ((with_reducible refine (?_ : am_AW _ _ _ _ _ 905 _ _ _)); exact lx_c23 hX hL hi0 (by omega) hH _ hI)
        | ((with_reducible refine (?_ : am_AW _ _ _ _ _ 938 _ _ _)); exact lx_c24 hX hL hi0 (by omega) hH _ hI)
        | ((with_reducible refine (?_ : am_AW _ _ _ _ _ 951 _ _ _)); exact lx_c25 hX hL hi0 (by omega) hH _ hI)
        | ((with_reducible refine (?_ : am_AW _ _ _ _ _ 974 _ _ _)); exact lx_c26 hX hL hi0 (by omega) hH _ hI)
        | ((with_reducible refine (?_ : am_AW _ _ _ _ _ 987 _ _ _)); exact lx_c27 hX hL hi0 (by omega) hH _ hI)
        | ((with_reducible refine (?_ : am_AW _ _ _ _ _ 1000 _ _ _)); exact lx_c28 hX hL hi0 (by omega) hH _ hI)
        | ((with_reducible refine (?_ : am_AW _ _ _ _ _ 1053 _ _ _)); exact lx_c29 hX hL hi0 (by omega) hH _ hI)
        | ((with_reducible refine (?_ : am_AW _ _ _ _ _ 1066 _ _ _)); exact lx_c30 hX hL hi0 (by omega) hH _ hI)
        | ((with_reducible refine (?_ : am_AW _ _ _ _ _ 1089 _ _ _)); exact lx_c31 hX hL hi0 (by omega) hH _ hI)
        | ((with_reducible refine (?_ : am_AW _ _ _ _ _ 1102 _ _ _)); exact lx_c32 hX hL hi0 (by omega) hH _ hI)
        | ((with_reducible refine (?_ : am_AW _ _ _ _ _ 1145 _ _ _)); exact lx_c33 hX hL hi0 (by omega) hH _ hI)
        | ((with_reducible refine (?_ : am_AW _ _ _ _ _ 1178 _ _ _)); exact lx_c34 hX hL hi0 (by omega) hH _ hI)
        | ((with_reducible refine (?_ : am_AW _ _ _ _ _ 1221 _ _ _)); exact lx_c35 hX hL hi0 (by omega) hH _ hI)
        | ((with_reducible refine (?_ : am_AW _ _ _ _ _ 1244 _ _ _)); exact lx_c36 hX hL hi0 (by omega) hH _ hI)
        | ((with_reducible refine (?_ : am_AW _ _ _ _ _ 1277 _ _ _)); exact lx_c37 hX hL hi0 (by omega) hH _ hI)
        | ((with_reducible refine (?_ : am_AW _ _ _ _ _ 1290 _ _ _)); exact lx_c38 hX hL hi0 (by omega) hH _ hI)
        | ((with_reducible refine (?_ : am_AW _ _ _ _ _ 1323 _ _ _)); exact lx_c39 hX hL hi0 (by omega) hH _ hI)
        | ((with_reducible refine (?_ : am_AW _ _ _ _ _ 1376 _ _ _)); exact lx_c40 hX hL hi0 (by omega) hH _ hI)
        | ((with_reducible refine (?_ : am_AW _ _ _ _ _ 1389 _ _ _)); exact lx_c41 hX hL hi0 (by omega) hH _ hI)
        | ((with_reducible refine (?_ : am_AW _ _ _ _ _ 1412 _ _ _)); exact lx_c42 hX hL hi0 (by omega) hH _ hI)
        | ((with_reducible refine (?_ : am_AW _ _ _ _ _ 1445 _ _ _)); exact lx_c43 hX hL hi0 (by omega) hH _ hI)
        | ((with_reducible refine (?_ : am_AW _ _ _ _ _ 1458 _ _ _)); exact lx_c44 hX hL hi0 (by omega) hH _ hI)
        | ((with_reducible refine (?_ : am_AW _ _ _ _ _ 1491 _ _ _)); exact lx_c45 hX hL hi0 (by omega) hH _ hI)
        | ((with_reducible refine (?_ : am_AW _ _ _ _ _ 1544 _ _ _)); exact lx_c46 hX hL hi0 (by omega) hH _ hI)
        | ((with_reducible refine (?_ : am_AW _ _ _ _ _ 1567 _ _ _)); exact lx_c47 hX hL hi0 (by omega) hH _ hI)
        | ((with_reducible refine (?_ : am_AW _ _ _ _ _ 1600 _ _ _)); exact lx_c48 hX hL hi0 (by omega) hH _ hI)
        | ((with_reducible refine (?_ : am_AW _ _ _ _ _ 1613 _ _ _)); exact lx_c49 hX hL hi0 (by omega) hH _ hI)
        | ((with_reducible refine (?_ : am_AW _ _ _ _ _ 1626 _ _ _)); exact lx_c50 hX hL hi0 (by omega) hH _ hI)
        | ((with_reducible refine (?_ : am_AW _ _ _ _ _ 1639 _ _ _)); exact lx_c51 hX hL hi0 (by omega) hH _ hI)
    refine am_go (ct := fun pc => Nat.beq pc 26) am_oL_law 20 ?_
    conv => whnf
    repeat' first
      | (refine (?_ : am_wp _ _ _ _ _ _ _ _ _ _ _ _); conv => whnf)
      | refine And.intro ⟨rfl, rfl⟩ ?_
      | refine And.intro trivial ?_
      | exact rfl
      | refine And.intro (Or.inr rfl) ?_
      | exact hgo (by omega)
      | refine And.intro (fun _ => ?_) (fun hz => ?_)
theorem dL_law_0 : decode code 0 = .ok (.new 7, 3) := by decide +kernel
theorem dL_law_3 : decode code 3 = .ok (.dup, 1) := by decide +kernel
theorem dL_law_4 : decode code 4 = .ok (.invokespecial 9, 3) := by decide +kernel
theorem dL_law_7 : decode code 7 = .ok (.astore_n 1, 1) := by decide +kernel
theorem dL_law_8 : decode code 8 = .ok (.new 10, 3) := by decide +kernel
theorem dL_law_11 : decode code 11 = .ok (.dup, 1) := by decide +kernel
theorem dL_law_12 : decode code 12 = .ok (.invokespecial 12, 3) := by decide +kernel
theorem dL_law_15 : decode code 15 = .ok (.astore_n 2, 1) := by decide +kernel
theorem dL_law_16 : decode code 16 = .ok (.iconst 0, 1) := by decide +kernel
theorem dL_law_17 : decode code 17 = .ok (.istore_n 3, 1) := by decide +kernel
