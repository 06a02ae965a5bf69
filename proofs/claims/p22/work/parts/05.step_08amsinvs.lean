theorem am_s_invs {l : Launch} {L : Nat} {xs : Nat → Int} {y : Nat} {Q : Option am_V → am_N → Prop} {K : Nat → List (Option am_V) → List am_V → am_N → Prop} {pc : Nat} {lv : List (Option am_V)} {st : List am_V} {μ : am_N} {k z : Nat} (hk : ∀ pc lv st μ, K pc lv st μ → am_AW l L xs y Q pc lv st μ) (hd : decode (am_bt y) pc = .ok (.invokestatic k, 3)) (hf : (am_ow y, k, z) ∈ am_ca) (h0 : 0 < z) (h1 : z < am_ny) (h2 : am_fr z + 1 ≤ am_fr y) (h3 : 19 + am_ml z + am_lo z ≤ am_lo y) (h4 : am_st z = true) (h5 : am_ow z = am_ow y) (h : am_stp l L xs y Q K (pc + 3, 41, z, (am_na z), 0, 0, []) lv st μ) : am_AW l L xs y Q pc lv st μ := by
  simp only [am_stp] at h
  obtain ⟨g0, -, h⟩ := am_ifb h
  obtain ⟨g2, g3⟩ := am_bb g0
  have g2 := Nat.le_of_ble_eq_true g2
  have g3 := Nat.le_of_ble_eq_true g3
  intro p e R s m args below meth c D ad ca tys B0 cells slots Qf E hret H locs ls hL hP hD hS
  obtain ⟨e1, e2, e3, e4, e5, e6, e7, e8, e9, e10, e11, e12, e13⟩ := id E
  obtain ⟨m1, m2, m3, m4, m5, m6⟩ := am_md_ok h0 h1
  have hlen : ((st.take (am_na z)).reverse.map (am_rv ad)).length = am_na z := by
    rw [List.length_map, List.length_reverse, List.length_take]; omega
  have hst : st.map (am_rv ad) = (((st.take (am_na z)).reverse.map (am_rv ad)).reverse ++ (st.drop (am_na z)).map (am_rv ad)) := by
    rw [← List.map_reverse, List.reverse_reverse, ← List.map_append, List.take_append_drop]
  have cw : CallB R s args (am_cn (am_ow y)) k (am_md z).1 (am_bt z) (am_ml z) (am_re z) (am_w z) (am_rm z) 0 0 (am_na z) ∧ (Cond.static (am_md z).1).before args s = true :=
    ⟨callB_of (Ts := am_big) (am_na z) e5 (am_goodw h0 h1) rfl rfl rfl (e5 _ m5) (e5 _ (am_ca_in _ hf)) ⟨m2.1, m2.2, by rw [m3, h4]; rfl⟩ ⟨Nat.le_trans h2 e9, by show 8 + (am_ml z + 11) + am_lo z ≤ R.locals; omega⟩, e5 _ (am_md_st h0 h1 h4)⟩
  rw [hst]
  refine am_callW (va_runS (As := (st.take (am_na z)).reverse.map (am_rv ad)) (rest := (st.drop (am_na z)).map (am_rv ad)) ⟨e1, e2, e3, e4, e5⟩ (h D ad ca tys B0 e7) cw ⟨am_blind, fun U hU hW => ⟨rfl, by rw [hU]; exact Nat.le_trans e8 hS.1, by rw [hU]; exact hP, va_K.moved hW.alike e6, hD⟩⟩ rfl hlen hL.1 rfl (lv_room (by rw [am_cats]; exact g3)) hd ⟨e11, e12⟩) hS (fun r μ' H1 locs1 hq hP hD hS => ?_)
  have kk := hk _ _ _ _ hq p e R s m args below meth c D ad ca tys B0 cells slots Qf E hret H1 locs1 ls hL hP hD hS
  rw [List.map_append] at kk
  have e : (am_rs r).map (am_rv ad) = (r.map (am_rv ad)).toList := by cases r <;> rfl
  rw [e] at kk
  exact kk

