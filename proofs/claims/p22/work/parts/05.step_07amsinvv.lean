theorem am_s_lookup {l : Launch} {L : Nat} {xs : Nat → Int} {y : Nat} {Q : Option am_V → am_N → Prop} {K : Nat → List (Option am_V) → List am_V → am_N → Prop} {pc : Nat} {lv : List (Option am_V)} {st : List am_V} {μ : am_N} {d : Int} {ps : Array (Int × Int)} {len : Nat} (hk : ∀ pc lv st μ, K pc lv st μ → am_AW l L xs y Q pc lv st μ) (hd : decode (am_bt y) pc = .ok (.lookupswitch d ps, len)) (h0 : 0 ≤ (pc : Int) + d) (h1 : ∀ o ∈ ps.toList, 0 ≤ (pc : Int) + o.2) (h2 : (ps.toList.zip (ps.toList.drop 1)).all (fun (a, next) => a.1 < next.1) = true) (h : am_stp l L xs y Q K (0, 45, ((pc : Int) + d).toNat, 0, 0, 0, ps.toList.map (fun o => (o.1, ((pc : Int) + o.2).toNat))) lv st μ) : am_AW l L xs y Q pc lv st μ := by
  simp only [am_stp] at h
  split at h
  · rename_i v r
    intro p e R s m args below meth c D ad ca tys B0 cells slots Qf E hret H locs ls hL hP hD hS
    obtain ⟨hK, hn⟩ := am_sw_lk h0 h1 h
    exact lv_lookup (tgt := ((pc : Int) + Op.lookupswitch.offset ps.toList d (am_c v)).toNat) E.1 E.2.1 hd h2 (by rw [am_toInt]) (by omega) (hk _ _ _ _ hK p e R s m args below meth c D ad ca tys B0 cells slots Qf E hret H locs ls hL hP hD hS)
  · exact h.elim
theorem am_s_invv {l : Launch} {L : Nat} {xs : Nat → Int} {y : Nat} {Q : Option am_V → am_N → Prop} {K : Nat → List (Option am_V) → List am_V → am_N → Prop} {pc : Nat} {lv : List (Option am_V)} {st : List am_V} {μ : am_N} {k z : Nat} (hk : ∀ pc lv st μ, K pc lv st μ → am_AW l L xs y Q pc lv st μ) (hd : decode (am_bt y) pc = .ok (.invokevirtual k, 3)) (hf : (am_ow y, k, z) ∈ am_ca) (h0 : 0 < z) (h1 : z < am_ny) (h2 : am_fr z + 1 ≤ am_fr y) (h3 : 19 + am_ml z + am_lo z ≤ am_lo y) (h4 : am_st z = false) (h : am_stp l L xs y Q K (pc + 3, 40, z, (am_na z), (am_ow z + 2), 0, []) lv st μ) : am_AW l L xs y Q pc lv st μ := by
  simp only [am_stp] at h
  split at h
  · rename_i b as has
    obtain ⟨g0, -, h⟩ := am_ifb h
    obtain ⟨g1, g0⟩ := am_bb g0
    obtain ⟨g2, g3⟩ := am_bb g0
    have g1 := Nat.eq_of_beq_eq_true g1
    have g2 := Nat.le_of_ble_eq_true g2
    have g3 := Nat.le_of_ble_eq_true g3
    intro p e R s m args below meth c D ad ca tys B0 cells slots Qf E hret H locs ls hL hP hD hS
    obtain ⟨e1, e2, e3, e4, e5, e6, e7, e8, e9, e10, e11, e12, e13⟩ := id E
    obtain ⟨fs, hfs⟩ := am_tag_ok g1
    obtain ⟨m1, m2, m3, m4, m5, m6⟩ := am_md_ok h0 h1
    have hlen : as.length + 1 = am_na z := by
      have q := congrArg List.length has
      rw [List.length_reverse, List.length_take] at q
      simp only [List.length_cons] at q
      omega
    have hst : st.map (am_rv ad) = ((as.map (am_rv ad)).reverse ++ .ref (ad b) :: (st.drop (am_na z)).map (am_rv ad)) := by
      have q1 : st.take (am_na z) = as.reverse ++ [.inr (.inr b)] := by rw [← List.reverse_reverse (st.take (am_na z)), has, List.reverse_cons]
      have q2 : st = (as.reverse ++ [.inr (.inr b)]) ++ st.drop (am_na z) := by rw [← q1, List.take_append_drop]
      refine (congrArg (List.map (am_rv ad)) q2).trans ?_
      rw [List.map_append, List.map_append, List.map_reverse, List.append_assoc]
      rfl
    have cw : CallW R s args (am_cn (am_ow y)) (am_cn (am_ow z)) k (am_md z).1 (am_bt z) (am_ml z) (am_re z) (am_w z) (am_rm z) 0 0 as.length :=
      ⟨callB_of (Ts := am_big) as.length e5 (am_goodw h0 h1) rfl rfl rfl (e5 _ m5) (e5 _ (am_ca_in _ hf)) ⟨m2.1, m2.2, by rw [m3, h4]; simp only [Bool.false_eq_true, if_false, Option.some.injEq]; omega⟩ ⟨Nat.le_trans h2 e9, by show 8 + (am_ml z + 11) + am_lo z ≤ R.locals; omega⟩, e5 _ (m4.1 h4), by rw [← m1]; exact e5 _ (m4.2 h4)⟩
    rw [hst]
    refine am_callW (va_runV (As := as.map (am_rv ad)) (rest := (st.drop (am_na z)).map (am_rv ad)) ⟨e1, e2, e3, e4, e5⟩ (h D ad ca tys B0 e7) cw ⟨am_blind, am_recv m6 e6 hP hfs, fun U hU hW => ⟨rfl, by rw [hU]; exact Nat.le_trans e8 hS.1, by rw [hU]; exact hP, va_K.moved hW.alike e6, hD⟩⟩ rfl (by rw [List.length_map]) hL.1 rfl (lv_room (by rw [am_cats]; exact g3)) hd ⟨e11, e12⟩) hS (fun r μ' H1 locs1 hq hP hD hS => ?_)
    have kk := hk _ _ _ _ hq p e R s m args below meth c D ad ca tys B0 cells slots Qf E hret H1 locs1 ls hL hP hD hS
    rw [List.map_append] at kk
    have e : (am_rs r).map (am_rv ad) = (r.map (am_rv ad)).toList := by cases r <;> rfl
    rw [e] at kk
    exact kk
  · exact h.elim
