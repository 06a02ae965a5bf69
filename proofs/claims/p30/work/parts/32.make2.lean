theorem dX1_init_0 : decode cX1_init 0 = .ok (.aload_n 0, 1) := by decide +kernel
theorem dX1_init_1 : decode cX1_init 1 = .ok (.invokespecial 1, 3) := by decide +kernel
theorem dX1_init_4 : decode cX1_init 4 = .ok (.aload_n 0, 1) := by decide +kernel
theorem dX1_init_5 : decode cX1_init 5 = .ok (.new 7, 3) := by decide +kernel
theorem dX1_init_8 : decode cX1_init 8 = .ok (.dup, 1) := by decide +kernel
theorem dX1_init_9 : decode cX1_init 9 = .ok (.iconst 4, 1) := by decide +kernel
theorem dX1_init_10 : decode cX1_init 10 = .ok (.invokespecial 9, 3) := by decide +kernel
theorem dX1_init_13 : decode cX1_init 13 = .ok (.putfield 12, 3) := by decide +kernel
theorem dX1_init_16 : decode cX1_init 16 = .ok (.aload_n 0, 1) := by decide +kernel
theorem dX1_init_17 : decode cX1_init 17 = .ok (.new 7, 3) := by decide +kernel
theorem dX1_init_20 : decode cX1_init 20 = .ok (.dup, 1) := by decide +kernel
theorem dX1_init_21 : decode cX1_init 21 = .ok (.iconst 4, 1) := by decide +kernel
theorem dX1_init_22 : decode cX1_init 22 = .ok (.invokespecial 9, 3) := by decide +kernel
theorem dX1_init_25 : decode cX1_init 25 = .ok (.putfield 18, 3) := by decide +kernel
theorem dX1_init_28 : decode cX1_init 28 = .ok (.return_, 1) := by decide +kernel
set_option maxHeartbeats 4000000 in
set_option maxRecDepth 100000 in
theorem nw_c1 (l : Launch) (D : va_G) (h0 sz : Nat) : Met l yX1_init (Cond.code yX1_init cX1_init 1 none :: am_big) ({ frames := 2, cells := 4, slots := 12, locals := 42 }) (va_Pc [.ref h0] (fun U => U.heap.size = sz ∧ va_P D vwCl [(h0, .inr (1, [.null, .null]))] U.heap ∧ va_K D vwCl [] U ∧ va_D (fun _ => True) [(h0, .inr (1, [.null, .null]))])) (va_Qv (fun u : (Nat → Nat) × (Nat → ClassId) => True) (fun u t => va_P D vwCl (nwX1 h0 u.1 u.2) t.heap ∧ va_K D vwCl (nkX1 u.2) t ∧ va_D (va_A [(h0, .inr (1, [.null, .null]))] sz) (nwX1 h0 u.1 u.2)) (va_A [(h0, .inr (1, [.null, .null]))] sz)) 4 12 (va_A [(h0, .inr (1, [.null, .null]))] sz) := by
  refine Met.ofW (cc := cX1_init) (maxL := 1) (ret := none) (by decide) rfl ?_
  intro p e s m args below meth c s₁ B hml hv
  obtain ⟨rfl, hsz, hP, hK, hD0⟩ := hv
  have hx := B.exec
  have hb := B.bytes
  have hr := B.returns
  have hts := atoms_spec (ws := Cond.code yX1_init cX1_init 1 none :: am_big) B.pre
  have hbig : ∀ w ∈ am_big, w.before _ s = true := fun w h => hts w (List.mem_cons_of_mem _ h)
  have hown : s.vm.findClass RX1 = some m.cls := findClass_of_methodNamed B.named
  have hlocks := B.notSynchronized
  have hin : meth.name = "<init>" := (name_of_methodNamed B.named B.method).1
  subst hsz
  have hD := hD0.self (sz := s.heap.size)
  generalize hAe : va_A [(h0, .inr (1, [.null, .null]))] s.heap.size = A at hD ⊢
  have hA : ∀ q : Nat, s.heap.size ≤ q → A q := fun q h => by rw [← hAe]; exact Or.inr h
  have hS : va_S A s.heap s.heap [] := va_S.rf
  have hP : va_P D vwCl [(h0, .inr (1, [.null, .null]))] s.heap := hP
  have hl := lv_entry ([.ref h0]) (n := 1) (Nat.le_of_ble_eq_true rfl)
  rw [lg_entry_eq]
  generalize (lg_sl ([.ref h0]) ++ List.replicate (1 - (lg_sl ([.ref h0])).length) Slot.unset).toArray = ls at hl ⊢
  have hl : lv_has ls 1 [(0, .ref h0)] := hl
  refine lv_aload_n hx hb dX1_init_0 rfl (lv_at hl 0 rfl) ?_
  refine W.objInit hx hb hown (hbig _ (nw_in2 _ (List.mem_of_getElem? (i := 1) rfl))) (hbig _ (nw_in0 _ (List.mem_of_getElem? (i := 1) rfl))) (hbig _ (nw_in0 _ (List.mem_of_getElem? (i := 2) rfl))) rfl (by rw [hml]; exact hl.1) rfl dX1_init_1 (Nat.le_of_ble_eq_true rfl) (Nat.le_of_ble_eq_true rfl) ?_
  refine W.eq (g2 := F0 m 4 ls []) rfl ?_
  have hP : va_P D vwCl (((h0, .inr (1, [.null, .null])) :: [])) s.heap := hP
  have hD : va_D A (((h0, .inr (1, [.null, .null])) :: [])) := hD
  refine lv_aload_n hx hb dX1_init_4 rfl (lv_at hl 0 rfl) ?_
  refine va_new (ci := 3) (fs := [.null, .int (Int32.ofInt 0)]) (C := RX3) (T := TX3) (N := 2) hx hb hbig am_lay_in_3 tyX3 tyX3_ok hown (hbig _ (nw_in2 _ (List.mem_of_getElem? (i := 2) rfl))) (hbig _ (nw_in2 _ (List.mem_of_getElem? (i := 3) rfl))) (hbig _ (nw_in2 _ (List.mem_of_getElem? (i := 4) rfl))) hK hP hD hS hA rfl nw_df3 (Nat.le_of_ble_eq_true rfl) (Nat.le_of_ble_eq_true rfl) dX1_init_5 (fun o1 H hP hD hS => ?_)
  have hP : va_P D vwCl (((h0, .inr (1, [.null, .null])) :: []) ++ [(o1, .inr (3, [.null, .int (Int32.ofInt 0)]))]) H := hP
  have hD : va_D A (((h0, .inr (1, [.null, .null])) :: []) ++ [(o1, .inr (3, [.null, .int (Int32.ofInt 0)]))]) := hD
  refine lv_dup hx hb dX1_init_8 rfl ?_
  refine lv_iconst (v := Int32.ofInt 4) hx hb dX1_init_9 rfl ?_
  have hPc := nw_right (X := ((h0, .inr (1, [.null, .null])) :: [])) hP
  have hDc := nw_rightD (X := ((h0, .inr (1, [.null, .null])) :: [])) hD
  have hFc := nw_free (X := ((h0, .inr (1, [.null, .null])) :: [])) (wc := [(o1, .inr (3, [.null, .int (Int32.ofInt 0)]))]) hD hS hA
  have hKc := hK.sub (tys' := []) [] rfl
  refine va_callv (va_runI (As := [.int (Int32.ofInt 4)]) (rest := [.ref o1, .ref h0]) ⟨hx, hb, hml, hown, hbig⟩ (nw_c3 l D o1 H.size (Int32.ofInt 4) 4 (by decide +kernel) (by decide +kernel) (by decide +kernel) (Nat.le_of_ble_eq_true rfl)) (cwI 1 hbig (nw_good (nw_in2 _ (List.mem_of_getElem? (i := 5) rfl))) rfl rfl rfl (hbig _ (nw_in2 _ (List.mem_of_getElem? (i := 4) rfl))) (hbig _ (nw_in2 _ (List.mem_of_getElem? (i := 6) rfl))) (hbig _ (nw_in2 _ (List.mem_of_getElem? (i := 7) rfl))) rfl (by decide +kernel) ⟨(Nat.le_of_ble_eq_true rfl), (Nat.le_of_ble_eq_true rfl)⟩) ⟨fun a U g mk z => by obtain ⟨q0, q1, qP, qK, qD⟩ := z; exact ⟨q0, q1, qP, va_K.moved (u := U) (U := U.calling g mk a) (Vm.Alike.refl U.vm) qK, qD⟩, fun U hU hW => ⟨rfl, by rw [hU], by rw [hU]; exact hPc, va_K.moved hW.alike hKc, hDc.weaken (fun _ _ _ _ => trivial)⟩⟩ rfl rfl hl.1 rfl (lv_room (Nat.le_of_ble_eq_true rfl)) dX1_init_10 ⟨(Nat.le_of_ble_eq_true rfl), (Nat.le_of_ble_eq_true rfl)⟩) hS (fun q _ h => hFc q h) hFc (fun u1 t H1 locs ht hvm hw hB hz1 hk1 hS => ?_)
  obtain ⟨hP1, hK1, hD1⟩ := hB
  rw [ht] at hP1
  have hK1 := va_K.moved hvm.symm hK1
  obtain ⟨hP, hD⟩ := nw_join (X := ((h0, .inr (1, [.null, .null])) :: [])) hP hD hk1 hFc hP1 hD1
  have hK := hK.app hK1
  generalize H1 = H at hP hS ⊢
  have hP : va_P D vwCl (((h0, .inr (1, [.null, .null])) :: nwX3 4 o1 u1.1 u1.2)) H := hP
  have hD : va_D A (((h0, .inr (1, [.null, .null])) :: nwX3 4 o1 u1.1 u1.2)) := hD
  have hK : va_K D vwCl (nkX3 u1.2) s := hK
  refine va_putF (D := D) (ci := 1) (v := .ref o1) (ty := .object "HeadStart$Row") (C := RX1) (T := TX1) (N := 2) hx hb hbig am_lay_in_1 tyX1 tyX1_ok nmX1 hown hK hP hD hS 0 rfl rfl 0 (by decide) (hbig _ (nw_in2 _ (List.mem_of_getElem? (i := 8) rfl))) (fun _ h9 => h9) rfl hin rfl (by decide +kernel) rfl rfl (Nat.le_of_ble_eq_true rfl) dX1_init_13 (fun H locs hP hD hS => ?_)
  have hP : va_P D vwCl (((h0, .inr (1, [.ref o1, .null])) :: nwX3 4 o1 u1.1 u1.2)) H := hP
  have hD : va_D A (((h0, .inr (1, [.ref o1, .null])) :: nwX3 4 o1 u1.1 u1.2)) := hD
  refine lv_aload_n hx hb dX1_init_16 rfl (lv_at hl 0 rfl) ?_
  refine va_new (ci := 3) (fs := [.null, .int (Int32.ofInt 0)]) (C := RX3) (T := TX3) (N := 2) hx hb hbig am_lay_in_3 tyX3 tyX3_ok hown (hbig _ (nw_in2 _ (List.mem_of_getElem? (i := 2) rfl))) (hbig _ (nw_in2 _ (List.mem_of_getElem? (i := 3) rfl))) (hbig _ (nw_in2 _ (List.mem_of_getElem? (i := 4) rfl))) hK hP hD hS hA rfl nw_df3 (Nat.le_of_ble_eq_true rfl) (Nat.le_of_ble_eq_true rfl) dX1_init_17 (fun o2 H hP hD hS => ?_)
  have hP : va_P D vwCl (((h0, .inr (1, [.ref o1, .null])) :: nwX3 4 o1 u1.1 u1.2) ++ [(o2, .inr (3, [.null, .int (Int32.ofInt 0)]))]) H := hP
  have hD : va_D A (((h0, .inr (1, [.ref o1, .null])) :: nwX3 4 o1 u1.1 u1.2) ++ [(o2, .inr (3, [.null, .int (Int32.ofInt 0)]))]) := hD
  refine lv_dup hx hb dX1_init_20 rfl ?_
  refine lv_iconst (v := Int32.ofInt 4) hx hb dX1_init_21 rfl ?_
  have hPc := nw_right (X := ((h0, .inr (1, [.ref o1, .null])) :: nwX3 4 o1 u1.1 u1.2)) hP
  have hDc := nw_rightD (X := ((h0, .inr (1, [.ref o1, .null])) :: nwX3 4 o1 u1.1 u1.2)) hD
  have hFc := nw_free (X := ((h0, .inr (1, [.ref o1, .null])) :: nwX3 4 o1 u1.1 u1.2)) (wc := [(o2, .inr (3, [.null, .int (Int32.ofInt 0)]))]) hD hS hA
  have hKc := hK.sub (tys' := []) [] rfl
  refine va_callv (va_runI (As := [.int (Int32.ofInt 4)]) (rest := [.ref o2, .ref h0]) ⟨hx, hb, hml, hown, hbig⟩ (nw_c3 l D o2 H.size (Int32.ofInt 4) 4 (by decide +kernel) (by decide +kernel) (by decide +kernel) (Nat.le_of_ble_eq_true rfl)) (cwI 1 hbig (nw_good (nw_in2 _ (List.mem_of_getElem? (i := 5) rfl))) rfl rfl rfl (hbig _ (nw_in2 _ (List.mem_of_getElem? (i := 4) rfl))) (hbig _ (nw_in2 _ (List.mem_of_getElem? (i := 6) rfl))) (hbig _ (nw_in2 _ (List.mem_of_getElem? (i := 7) rfl))) rfl (by decide +kernel) ⟨(Nat.le_of_ble_eq_true rfl), (Nat.le_of_ble_eq_true rfl)⟩) ⟨fun a U g mk z => by obtain ⟨q0, q1, qP, qK, qD⟩ := z; exact ⟨q0, q1, qP, va_K.moved (u := U) (U := U.calling g mk a) (Vm.Alike.refl U.vm) qK, qD⟩, fun U hU hW => ⟨rfl, by rw [hU], by rw [hU]; exact hPc, va_K.moved hW.alike hKc, hDc.weaken (fun _ _ _ _ => trivial)⟩⟩ rfl rfl hl.1 rfl (lv_room (Nat.le_of_ble_eq_true rfl)) dX1_init_22 ⟨(Nat.le_of_ble_eq_true rfl), (Nat.le_of_ble_eq_true rfl)⟩) hS (fun q _ h => hFc q h) hFc (fun u2 t H1 locs ht hvm hw hB hz1 hk1 hS => ?_)
  obtain ⟨hP1, hK1, hD1⟩ := hB
  rw [ht] at hP1
  have hK1 := va_K.moved hvm.symm hK1
  obtain ⟨hP, hD⟩ := nw_join (X := ((h0, .inr (1, [.ref o1, .null])) :: nwX3 4 o1 u1.1 u1.2)) hP hD hk1 hFc hP1 hD1
  have hK := hK.app hK1
  generalize H1 = H at hP hS ⊢
  have hP : va_P D vwCl (((h0, .inr (1, [.ref o1, .null])) :: (nwX3 4 o1 u1.1 u1.2 ++ nwX3 4 o2 u2.1 u2.2))) H := hP
  have hD : va_D A (((h0, .inr (1, [.ref o1, .null])) :: (nwX3 4 o1 u1.1 u1.2 ++ nwX3 4 o2 u2.1 u2.2))) := hD
  have hK : va_K D vwCl ((nkX3 u1.2 ++ nkX3 u2.2)) s := hK
  refine va_putF (D := D) (ci := 1) (v := .ref o2) (ty := .object "HeadStart$Row") (C := RX1) (T := TX1) (N := 2) hx hb hbig am_lay_in_1 tyX1 tyX1_ok nmX1 hown hK hP hD hS 0 rfl rfl 1 (by decide) (hbig _ (nw_in2 _ (List.mem_of_getElem? (i := 9) rfl))) (fun _ h9 => h9) rfl hin rfl (by decide +kernel) rfl rfl (Nat.le_of_ble_eq_true rfl) dX1_init_25 (fun H locs hP hD hS => ?_)
  have hP : va_P D vwCl (((h0, .inr (1, [.ref o1, .ref o2])) :: (nwX3 4 o1 u1.1 u1.2 ++ nwX3 4 o2 u2.1 u2.2))) H := hP
  have hD : va_D A (((h0, .inr (1, [.ref o1, .ref o2])) :: (nwX3 4 o1 u1.1 u1.2 ++ nwX3 4 o2 u2.1 u2.2))) := hD
  refine W.widen (k := 4) (n := 12) (Nat.le_of_ble_eq_true rfl) (Nat.le_of_ble_eq_true rfl) ?_
  exact W.vret hx hb hr (fun t ht hW => ⟨⟨(nw_l [o1, u1.1 0, o2, u2.1 0], nw_l [u1.2 0, u2.2 0]), rfl, trivial, by rw [ht]; exact hP, va_K.moved hW.alike hK, hD⟩, hS.F ht⟩) hS.2.2 dX1_init_28
theorem dX5_init_0 : decode cX5_init 0 = .ok (.aload_n 0, 1) := by decide +kernel
theorem dX5_init_1 : decode cX5_init 1 = .ok (.invokespecial 3, 3) := by decide +kernel
theorem dX5_init_4 : decode cX5_init 4 = .ok (.aload_n 0, 1) := by decide +kernel
theorem dX5_init_5 : decode cX5_init 5 = .ok (.new 9, 3) := by decide +kernel
theorem dX5_init_8 : decode cX5_init 8 = .ok (.dup, 1) := by decide +kernel
theorem dX5_init_9 : decode cX5_init 9 = .ok (.bipush 96, 2) := by decide +kernel
theorem dX5_init_11 : decode cX5_init 11 = .ok (.invokespecial 11, 3) := by decide +kernel
theorem dX5_init_14 : decode cX5_init 14 = .ok (.putfield 14, 3) := by decide +kernel
theorem dX5_init_17 : decode cX5_init 17 = .ok (.aload_n 0, 1) := by decide +kernel
theorem dX5_init_18 : decode cX5_init 18 = .ok (.new 20, 3) := by decide +kernel
theorem dX5_init_21 : decode cX5_init 21 = .ok (.dup, 1) := by decide +kernel
theorem dX5_init_22 : decode cX5_init 22 = .ok (.invokespecial 22, 3) := by decide +kernel
theorem dX5_init_25 : decode cX5_init 25 = .ok (.putfield 23, 3) := by decide +kernel
theorem dX5_init_28 : decode cX5_init 28 = .ok (.return_, 1) := by decide +kernel
set_option maxHeartbeats 4000000 in
set_option maxRecDepth 100000 in
theorem nw_c5 (l : Launch) (D : va_G) (h0 sz : Nat) : Met l yX5_init (Cond.code yX5_init cX5_init 1 none :: am_big) ({ frames := 2, cells := 8, slots := 124, locals := 42 }) (va_Pc [.ref h0] (fun U => U.heap.size = sz ∧ va_P D vwCl [(h0, .inr (5, [.null, .null]))] U.heap ∧ va_K D vwCl [] U ∧ va_D (fun _ => True) [(h0, .inr (5, [.null, .null]))])) (va_Qv (fun u : (Nat → Nat) × (Nat → ClassId) => True) (fun u t => va_P D vwCl (nwX5 h0 u.1 u.2) t.heap ∧ va_K D vwCl (nkX5 u.2) t ∧ va_D (va_A [(h0, .inr (5, [.null, .null]))] sz) (nwX5 h0 u.1 u.2)) (va_A [(h0, .inr (5, [.null, .null]))] sz)) 8 124 (va_A [(h0, .inr (5, [.null, .null]))] sz) := by
  refine Met.ofW (cc := cX5_init) (maxL := 1) (ret := none) (by decide) rfl ?_
  intro p e s m args below meth c s₁ B hml hv
  obtain ⟨rfl, hsz, hP, hK, hD0⟩ := hv
  have hx := B.exec
  have hb := B.bytes
  have hr := B.returns
  have hts := atoms_spec (ws := Cond.code yX5_init cX5_init 1 none :: am_big) B.pre
  have hbig : ∀ w ∈ am_big, w.before _ s = true := fun w h => hts w (List.mem_cons_of_mem _ h)
  have hown : s.vm.findClass RX5 = some m.cls := findClass_of_methodNamed B.named
  have hlocks := B.notSynchronized
  have hin : meth.name = "<init>" := (name_of_methodNamed B.named B.method).1
  subst hsz
  have hD := hD0.self (sz := s.heap.size)
  generalize hAe : va_A [(h0, .inr (5, [.null, .null]))] s.heap.size = A at hD ⊢
  have hA : ∀ q : Nat, s.heap.size ≤ q → A q := fun q h => by rw [← hAe]; exact Or.inr h
  have hS : va_S A s.heap s.heap [] := va_S.rf
  have hP : va_P D vwCl [(h0, .inr (5, [.null, .null]))] s.heap := hP
  have hl := lv_entry ([.ref h0]) (n := 1) (Nat.le_of_ble_eq_true rfl)
  rw [lg_entry_eq]
  generalize (lg_sl ([.ref h0]) ++ List.replicate (1 - (lg_sl ([.ref h0])).length) Slot.unset).toArray = ls at hl ⊢
  have hl : lv_has ls 1 [(0, .ref h0)] := hl
  refine lv_aload_n hx hb dX5_init_0 rfl (lv_at hl 0 rfl) ?_
  refine W.objInit hx hb hown (hbig _ (nw_in2 _ (List.mem_of_getElem? (i := 10) rfl))) (hbig _ (nw_in0 _ (List.mem_of_getElem? (i := 1) rfl))) (hbig _ (nw_in0 _ (List.mem_of_getElem? (i := 2) rfl))) rfl (by rw [hml]; exact hl.1) rfl dX5_init_1 (Nat.le_of_ble_eq_true rfl) (Nat.le_of_ble_eq_true rfl) ?_
  refine W.eq (g2 := F0 m 4 ls []) rfl ?_
  have hP : va_P D vwCl (((h0, .inr (5, [.null, .null])) :: [])) s.heap := hP
  have hD : va_D A (((h0, .inr (5, [.null, .null])) :: [])) := hD
  refine lv_aload_n hx hb dX5_init_4 rfl (lv_at hl 0 rfl) ?_
  refine va_new (ci := 3) (fs := [.null, .int (Int32.ofInt 0)]) (C := RX3) (T := TX3) (N := 2) hx hb hbig am_lay_in_3 tyX3 tyX3_ok hown (hbig _ (nw_in2 _ (List.mem_of_getElem? (i := 11) rfl))) (hbig _ (nw_in2 _ (List.mem_of_getElem? (i := 3) rfl))) (hbig _ (nw_in2 _ (List.mem_of_getElem? (i := 4) rfl))) hK hP hD hS hA rfl nw_df3 (Nat.le_of_ble_eq_true rfl) (Nat.le_of_ble_eq_true rfl) dX5_init_5 (fun o1 H hP hD hS => ?_)
  have hP : va_P D vwCl (((h0, .inr (5, [.null, .null])) :: []) ++ [(o1, .inr (3, [.null, .int (Int32.ofInt 0)]))]) H := hP
  have hD : va_D A (((h0, .inr (5, [.null, .null])) :: []) ++ [(o1, .inr (3, [.null, .int (Int32.ofInt 0)]))]) := hD
  refine lv_dup hx hb dX5_init_8 rfl ?_
  refine lv_bipush (v := Int32.ofInt 96) hx hb dX5_init_9 (by decide +kernel) ?_
  have hPc := nw_right (X := ((h0, .inr (5, [.null, .null])) :: [])) hP
  have hDc := nw_rightD (X := ((h0, .inr (5, [.null, .null])) :: [])) hD
  have hFc := nw_free (X := ((h0, .inr (5, [.null, .null])) :: [])) (wc := [(o1, .inr (3, [.null, .int (Int32.ofInt 0)]))]) hD hS hA
  have hKc := hK.sub (tys' := []) [] rfl
  refine va_callv (va_runI (As := [.int (Int32.ofInt 96)]) (rest := [.ref o1, .ref h0]) ⟨hx, hb, hml, hown, hbig⟩ (nw_c3 l D o1 H.size (Int32.ofInt 96) 96 (by decide +kernel) (by decide +kernel) (by decide +kernel) (Nat.le_of_ble_eq_true rfl)) (cwI 1 hbig (nw_good (nw_in2 _ (List.mem_of_getElem? (i := 5) rfl))) rfl rfl rfl (hbig _ (nw_in2 _ (List.mem_of_getElem? (i := 4) rfl))) (hbig _ (nw_in2 _ (List.mem_of_getElem? (i := 12) rfl))) (hbig _ (nw_in2 _ (List.mem_of_getElem? (i := 7) rfl))) rfl (by decide +kernel) ⟨(Nat.le_of_ble_eq_true rfl), (Nat.le_of_ble_eq_true rfl)⟩) ⟨fun a U g mk z => by obtain ⟨q0, q1, qP, qK, qD⟩ := z; exact ⟨q0, q1, qP, va_K.moved (u := U) (U := U.calling g mk a) (Vm.Alike.refl U.vm) qK, qD⟩, fun U hU hW => ⟨rfl, by rw [hU], by rw [hU]; exact hPc, va_K.moved hW.alike hKc, hDc.weaken (fun _ _ _ _ => trivial)⟩⟩ rfl rfl hl.1 rfl (lv_room (Nat.le_of_ble_eq_true rfl)) dX5_init_11 ⟨(Nat.le_of_ble_eq_true rfl), (Nat.le_of_ble_eq_true rfl)⟩) hS (fun q _ h => hFc q h) hFc (fun u1 t H1 locs ht hvm hw hB hz1 hk1 hS => ?_)
  obtain ⟨hP1, hK1, hD1⟩ := hB
  rw [ht] at hP1
  have hK1 := va_K.moved hvm.symm hK1
  obtain ⟨hP, hD⟩ := nw_join (X := ((h0, .inr (5, [.null, .null])) :: [])) hP hD hk1 hFc hP1 hD1
  have hK := hK.app hK1
  generalize H1 = H at hP hS ⊢
  have hP : va_P D vwCl (((h0, .inr (5, [.null, .null])) :: nwX3 96 o1 u1.1 u1.2)) H := hP
  have hD : va_D A (((h0, .inr (5, [.null, .null])) :: nwX3 96 o1 u1.1 u1.2)) := hD
  have hK : va_K D vwCl (nkX3 u1.2) s := hK
  refine va_putF (D := D) (ci := 5) (v := .ref o1) (ty := .object "HeadStart$Row") (C := RX5) (T := TX5) (N := 2) hx hb hbig am_lay_in_5 tyX5 tyX5_ok nmX5 hown hK hP hD hS 0 rfl rfl 0 (by decide) (hbig _ (nw_in2 _ (List.mem_of_getElem? (i := 13) rfl))) (fun _ h9 => h9) rfl hin rfl (by decide +kernel) rfl rfl (Nat.le_of_ble_eq_true rfl) dX5_init_14 (fun H locs hP hD hS => ?_)
  have hP : va_P D vwCl (((h0, .inr (5, [.ref o1, .null])) :: nwX3 96 o1 u1.1 u1.2)) H := hP
  have hD : va_D A (((h0, .inr (5, [.ref o1, .null])) :: nwX3 96 o1 u1.1 u1.2)) := hD
  refine lv_aload_n hx hb dX5_init_17 rfl (lv_at hl 0 rfl) ?_
  refine va_new (ci := 2) (fs := [.int (Int32.ofInt 0), .null, .null, .null, .null, .null]) (C := RX2) (T := TX2) (N := 6) hx hb hbig am_lay_in_2 tyX2 tyX2_ok hown (hbig _ (nw_in2 _ (List.mem_of_getElem? (i := 14) rfl))) (hbig _ (nw_in2 _ (List.mem_of_getElem? (i := 15) rfl))) (hbig _ (nw_in2 _ (List.mem_of_getElem? (i := 16) rfl))) hK hP hD hS hA rfl nw_df2 (Nat.le_of_ble_eq_true rfl) (Nat.le_of_ble_eq_true rfl) dX5_init_18 (fun o2 H hP hD hS => ?_)
  have hP : va_P D vwCl (((h0, .inr (5, [.ref o1, .null])) :: nwX3 96 o1 u1.1 u1.2) ++ [(o2, .inr (2, [.int (Int32.ofInt 0), .null, .null, .null, .null, .null]))]) H := hP
  have hD : va_D A (((h0, .inr (5, [.ref o1, .null])) :: nwX3 96 o1 u1.1 u1.2) ++ [(o2, .inr (2, [.int (Int32.ofInt 0), .null, .null, .null, .null, .null]))]) := hD
  refine lv_dup hx hb dX5_init_21 rfl ?_
  have hPc := nw_right (X := ((h0, .inr (5, [.ref o1, .null])) :: nwX3 96 o1 u1.1 u1.2)) hP
  have hDc := nw_rightD (X := ((h0, .inr (5, [.ref o1, .null])) :: nwX3 96 o1 u1.1 u1.2)) hD
  have hFc := nw_free (X := ((h0, .inr (5, [.ref o1, .null])) :: nwX3 96 o1 u1.1 u1.2)) (wc := [(o2, .inr (2, [.int (Int32.ofInt 0), .null, .null, .null, .null, .null]))]) hD hS hA
  have hKc := hK.sub (tys' := []) [] rfl
  refine va_callv (va_runI (As := []) (rest := [.ref o2, .ref h0]) ⟨hx, hb, hml, hown, hbig⟩ (nw_c2 l D o2 H.size) (cwI 0 hbig (nw_good (nw_in2 _ (List.mem_of_getElem? (i := 17) rfl))) rfl rfl rfl (hbig _ (nw_in2 _ (List.mem_of_getElem? (i := 16) rfl))) (hbig _ (nw_in2 _ (List.mem_of_getElem? (i := 18) rfl))) (hbig _ (nw_in2 _ (List.mem_of_getElem? (i := 19) rfl))) rfl (by decide +kernel) ⟨(Nat.le_of_ble_eq_true rfl), (Nat.le_of_ble_eq_true rfl)⟩) ⟨fun a U g mk z => by obtain ⟨q0, q1, qP, qK, qD⟩ := z; exact ⟨q0, q1, qP, va_K.moved (u := U) (U := U.calling g mk a) (Vm.Alike.refl U.vm) qK, qD⟩, fun U hU hW => ⟨rfl, by rw [hU], by rw [hU]; exact hPc, va_K.moved hW.alike hKc, hDc.weaken (fun _ _ _ _ => trivial)⟩⟩ rfl rfl hl.1 rfl (lv_room (Nat.le_of_ble_eq_true rfl)) dX5_init_22 ⟨(Nat.le_of_ble_eq_true rfl), (Nat.le_of_ble_eq_true rfl)⟩) hS (fun q _ h => hFc q h) hFc (fun u2 t H1 locs ht hvm hw hB hz1 hk1 hS => ?_)
  obtain ⟨hP1, hK1, hD1⟩ := hB
  rw [ht] at hP1
  have hK1 := va_K.moved hvm.symm hK1
  obtain ⟨hP, hD⟩ := nw_join (X := ((h0, .inr (5, [.ref o1, .null])) :: nwX3 96 o1 u1.1 u1.2)) hP hD hk1 hFc hP1 hD1
  have hK := hK.app hK1
  generalize H1 = H at hP hS ⊢
  have hP : va_P D vwCl (((h0, .inr (5, [.ref o1, .null])) :: (nwX3 96 o1 u1.1 u1.2 ++ nwX2 o2 u2.1 u2.2))) H := hP
  have hD : va_D A (((h0, .inr (5, [.ref o1, .null])) :: (nwX3 96 o1 u1.1 u1.2 ++ nwX2 o2 u2.1 u2.2))) := hD
  have hK : va_K D vwCl ((nkX3 u1.2 ++ nkX2 u2.2)) s := hK
  refine va_putF (D := D) (ci := 5) (v := .ref o2) (ty := .object "HeadStart$Race") (C := RX5) (T := TX5) (N := 2) hx hb hbig am_lay_in_5 tyX5 tyX5_ok nmX5 hown hK hP hD hS 0 rfl rfl 1 (by decide) (hbig _ (nw_in2 _ (List.mem_of_getElem? (i := 20) rfl))) (fun _ h9 => h9) rfl hin rfl (by decide +kernel) rfl rfl (Nat.le_of_ble_eq_true rfl) dX5_init_25 (fun H locs hP hD hS => ?_)
  have hP : va_P D vwCl (((h0, .inr (5, [.ref o1, .ref o2])) :: (nwX3 96 o1 u1.1 u1.2 ++ nwX2 o2 u2.1 u2.2))) H := hP
  have hD : va_D A (((h0, .inr (5, [.ref o1, .ref o2])) :: (nwX3 96 o1 u1.1 u1.2 ++ nwX2 o2 u2.1 u2.2))) := hD
  refine W.widen (k := 8) (n := 124) (Nat.le_of_ble_eq_true rfl) (Nat.le_of_ble_eq_true rfl) ?_
  exact W.vret hx hb hr (fun t ht hW => ⟨⟨(nw_l [o1, u1.1 0, o2, u2.1 0, u2.1 1, u2.1 2, u2.1 3, u2.1 4], nw_l [u1.2 0, u2.2 0, u2.2 1, u2.2 2, u2.2 3, u2.2 4]), rfl, trivial, by rw [ht]; exact hP, va_K.moved hW.alike hK, hD⟩, hS.F ht⟩) hS.2.2 dX5_init_28
