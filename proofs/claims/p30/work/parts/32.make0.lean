theorem dX0_init_0 : decode cX0_init 0 = .ok (.aload_n 0, 1) := by decide +kernel
theorem dX0_init_1 : decode cX0_init 1 = .ok (.invokespecial 3, 3) := by decide +kernel
theorem dX0_init_4 : decode cX0_init 4 = .ok (.aload_n 0, 1) := by decide +kernel
theorem dX0_init_5 : decode cX0_init 5 = .ok (.bipush 100, 2) := by decide +kernel
theorem dX0_init_7 : decode cX0_init 7 = .ok (.putfield 9, 3) := by decide +kernel
theorem dX0_init_10 : decode cX0_init 10 = .ok (.aload_n 0, 1) := by decide +kernel
theorem dX0_init_11 : decode cX0_init 11 = .ok (.iconst 0, 1) := by decide +kernel
theorem dX0_init_12 : decode cX0_init 12 = .ok (.putfield 15, 3) := by decide +kernel
theorem dX0_init_15 : decode cX0_init 15 = .ok (.aload_n 0, 1) := by decide +kernel
theorem dX0_init_16 : decode cX0_init 16 = .ok (.iconst 0, 1) := by decide +kernel
theorem dX0_init_17 : decode cX0_init 17 = .ok (.putfield 18, 3) := by decide +kernel
theorem dX0_init_20 : decode cX0_init 20 = .ok (.aload_n 0, 1) := by decide +kernel
theorem dX0_init_21 : decode cX0_init 21 = .ok (.iconst 2, 1) := by decide +kernel
theorem dX0_init_22 : decode cX0_init 22 = .ok (.putfield 21, 3) := by decide +kernel
theorem dX0_init_25 : decode cX0_init 25 = .ok (.aload_n 0, 1) := by decide +kernel
theorem dX0_init_26 : decode cX0_init 26 = .ok (.iconst 0, 1) := by decide +kernel
theorem dX0_init_27 : decode cX0_init 27 = .ok (.putfield 24, 3) := by decide +kernel
theorem dX0_init_30 : decode cX0_init 30 = .ok (.aload_n 0, 1) := by decide +kernel
theorem dX0_init_31 : decode cX0_init 31 = .ok (.iconst 4, 1) := by decide +kernel
theorem dX0_init_32 : decode cX0_init 32 = .ok (.newarray .int, 2) := by decide +kernel
theorem dX0_init_34 : decode cX0_init 34 = .ok (.putfield 27, 3) := by decide +kernel
theorem dX0_init_37 : decode cX0_init 37 = .ok (.aload_n 0, 1) := by decide +kernel
theorem dX0_init_38 : decode cX0_init 38 = .ok (.iconst 4, 1) := by decide +kernel
theorem dX0_init_39 : decode cX0_init 39 = .ok (.newarray .int, 2) := by decide +kernel
theorem dX0_init_41 : decode cX0_init 41 = .ok (.putfield 31, 3) := by decide +kernel
theorem dX0_init_44 : decode cX0_init 44 = .ok (.aload_n 0, 1) := by decide +kernel
theorem dX0_init_45 : decode cX0_init 45 = .ok (.iconst 4, 1) := by decide +kernel
theorem dX0_init_46 : decode cX0_init 46 = .ok (.newarray .int, 2) := by decide +kernel
theorem dX0_init_48 : decode cX0_init 48 = .ok (.putfield 34, 3) := by decide +kernel
theorem dX0_init_51 : decode cX0_init 51 = .ok (.aload_n 0, 1) := by decide +kernel
theorem dX0_init_52 : decode cX0_init 52 = .ok (.iconst 4, 1) := by decide +kernel
theorem dX0_init_53 : decode cX0_init 53 = .ok (.newarray .int, 2) := by decide +kernel
theorem dX0_init_55 : decode cX0_init 55 = .ok (.putfield 37, 3) := by decide +kernel
theorem dX0_init_58 : decode cX0_init 58 = .ok (.aload_n 0, 1) := by decide +kernel
theorem dX0_init_59 : decode cX0_init 59 = .ok (.iconst 4, 1) := by decide +kernel
theorem dX0_init_60 : decode cX0_init 60 = .ok (.newarray .int, 2) := by decide +kernel
theorem dX0_init_62 : decode cX0_init 62 = .ok (.putfield 40, 3) := by decide +kernel
theorem dX0_init_65 : decode cX0_init 65 = .ok (.aload_n 0, 1) := by decide +kernel
theorem dX0_init_66 : decode cX0_init 66 = .ok (.iconst 4, 1) := by decide +kernel
theorem dX0_init_67 : decode cX0_init 67 = .ok (.newarray .int, 2) := by decide +kernel
theorem dX0_init_69 : decode cX0_init 69 = .ok (.putfield 43, 3) := by decide +kernel
theorem dX0_init_72 : decode cX0_init 72 = .ok (.return_, 1) := by decide +kernel
set_option maxHeartbeats 4000000 in
set_option maxRecDepth 100000 in
theorem nw_c0 (l : Launch) (D : va_G) (h0 sz : Nat) : Met l yX0_init (Cond.code yX0_init cX0_init 1 none :: am_big) ({ frames := 1, cells := 6, slots := 24, locals := 12 }) (va_Pc [.ref h0] (fun U => U.heap.size = sz ∧ va_P D vwCl [(h0, .inr (0, [.int (Int32.ofInt 0), .int (Int32.ofInt 0), .int (Int32.ofInt 0), .int (Int32.ofInt 0), .int (Int32.ofInt 0), .null, .null, .null, .null, .null, .null]))] U.heap ∧ va_K D vwCl [] U ∧ va_D (fun _ => True) [(h0, .inr (0, [.int (Int32.ofInt 0), .int (Int32.ofInt 0), .int (Int32.ofInt 0), .int (Int32.ofInt 0), .int (Int32.ofInt 0), .null, .null, .null, .null, .null, .null]))])) (va_Qv (fun u : (Nat → Nat) × (Nat → ClassId) => True) (fun u t => va_P D vwCl (nwX0 h0 u.1 u.2) t.heap ∧ va_K D vwCl (nkX0 u.2) t ∧ va_D (va_A [(h0, .inr (0, [.int (Int32.ofInt 0), .int (Int32.ofInt 0), .int (Int32.ofInt 0), .int (Int32.ofInt 0), .int (Int32.ofInt 0), .null, .null, .null, .null, .null, .null]))] sz) (nwX0 h0 u.1 u.2)) (va_A [(h0, .inr (0, [.int (Int32.ofInt 0), .int (Int32.ofInt 0), .int (Int32.ofInt 0), .int (Int32.ofInt 0), .int (Int32.ofInt 0), .null, .null, .null, .null, .null, .null]))] sz)) 6 24 (va_A [(h0, .inr (0, [.int (Int32.ofInt 0), .int (Int32.ofInt 0), .int (Int32.ofInt 0), .int (Int32.ofInt 0), .int (Int32.ofInt 0), .null, .null, .null, .null, .null, .null]))] sz) := by
  refine Met.ofW (cc := cX0_init) (maxL := 1) (ret := none) (by decide) rfl ?_
  intro p e s m args below meth c s₁ B hml hv
  obtain ⟨rfl, hsz, hP, hK, hD0⟩ := hv
  have hx := B.exec
  have hb := B.bytes
  have hr := B.returns
  have hts := atoms_spec (ws := Cond.code yX0_init cX0_init 1 none :: am_big) B.pre
  have hbig : ∀ w ∈ am_big, w.before _ s = true := fun w h => hts w (List.mem_cons_of_mem _ h)
  have hown : s.vm.findClass RX0 = some m.cls := findClass_of_methodNamed B.named
  have hlocks := B.notSynchronized
  have hin : meth.name = "<init>" := (name_of_methodNamed B.named B.method).1
  subst hsz
  have hD := hD0.self (sz := s.heap.size)
  generalize hAe : va_A [(h0, .inr (0, [.int (Int32.ofInt 0), .int (Int32.ofInt 0), .int (Int32.ofInt 0), .int (Int32.ofInt 0), .int (Int32.ofInt 0), .null, .null, .null, .null, .null, .null]))] s.heap.size = A at hD ⊢
  have hA : ∀ q : Nat, s.heap.size ≤ q → A q := fun q h => by rw [← hAe]; exact Or.inr h
  have hS : va_S A s.heap s.heap [] := va_S.rf
  have hP : va_P D vwCl [(h0, .inr (0, [.int (Int32.ofInt 0), .int (Int32.ofInt 0), .int (Int32.ofInt 0), .int (Int32.ofInt 0), .int (Int32.ofInt 0), .null, .null, .null, .null, .null, .null]))] s.heap := hP
  have hl := lv_entry ([.ref h0]) (n := 1) (Nat.le_of_ble_eq_true rfl)
  rw [lg_entry_eq]
  generalize (lg_sl ([.ref h0]) ++ List.replicate (1 - (lg_sl ([.ref h0])).length) Slot.unset).toArray = ls at hl ⊢
  have hl : lv_has ls 1 [(0, .ref h0)] := hl
  refine lv_aload_n hx hb dX0_init_0 rfl (lv_at hl 0 rfl) ?_
  refine W.objInit hx hb hown (hbig _ (nw_in0 _ (List.mem_of_getElem? (i := 0) rfl))) (hbig _ (nw_in0 _ (List.mem_of_getElem? (i := 1) rfl))) (hbig _ (nw_in0 _ (List.mem_of_getElem? (i := 2) rfl))) rfl (by rw [hml]; exact hl.1) rfl dX0_init_1 (Nat.le_of_ble_eq_true rfl) (Nat.le_of_ble_eq_true rfl) ?_
  refine W.eq (g2 := F0 m 4 ls []) rfl ?_
  refine lv_aload_n hx hb dX0_init_4 rfl (lv_at hl 0 rfl) ?_
  refine lv_bipush (v := Int32.ofInt 100) hx hb dX0_init_5 (by decide +kernel) ?_
  refine va_put (D := D) (ci := 0) (v := .int (Int32.ofInt 100)) (ty := .int) (C := RX0) (T := TX0) (N := 11) hx hb hbig am_lay_in_0 tyX0 tyX0_ok nmX0 hown hK hP hD hS 0 rfl rfl 0 (by decide) (hbig _ (nw_in0 _ (List.mem_of_getElem? (i := 3) rfl))) (fun _ h9 => h9) rfl (by decide +kernel) rfl rfl (Nat.le_of_ble_eq_true rfl) dX0_init_7 (fun H locs hP hD hS => ?_)
  have hP : va_P D vwCl [(h0, .inr (0, [.int (Int32.ofInt 100), .int (Int32.ofInt 0), .int (Int32.ofInt 0), .int (Int32.ofInt 0), .int (Int32.ofInt 0), .null, .null, .null, .null, .null, .null]))] H := hP
  have hD : va_D A [(h0, .inr (0, [.int (Int32.ofInt 100), .int (Int32.ofInt 0), .int (Int32.ofInt 0), .int (Int32.ofInt 0), .int (Int32.ofInt 0), .null, .null, .null, .null, .null, .null]))] := hD
  refine lv_aload_n hx hb dX0_init_10 rfl (lv_at hl 0 rfl) ?_
  refine lv_iconst (v := Int32.ofInt 0) hx hb dX0_init_11 rfl ?_
  refine va_put (D := D) (ci := 0) (v := .int (Int32.ofInt 0)) (ty := .int) (C := RX0) (T := TX0) (N := 11) hx hb hbig am_lay_in_0 tyX0 tyX0_ok nmX0 hown hK hP hD hS 0 rfl rfl 1 (by decide) (hbig _ (nw_in0 _ (List.mem_of_getElem? (i := 4) rfl))) (fun _ h9 => h9) rfl (by decide +kernel) rfl rfl (Nat.le_of_ble_eq_true rfl) dX0_init_12 (fun H locs hP hD hS => ?_)
  have hP : va_P D vwCl [(h0, .inr (0, [.int (Int32.ofInt 100), .int (Int32.ofInt 0), .int (Int32.ofInt 0), .int (Int32.ofInt 0), .int (Int32.ofInt 0), .null, .null, .null, .null, .null, .null]))] H := hP
  have hD : va_D A [(h0, .inr (0, [.int (Int32.ofInt 100), .int (Int32.ofInt 0), .int (Int32.ofInt 0), .int (Int32.ofInt 0), .int (Int32.ofInt 0), .null, .null, .null, .null, .null, .null]))] := hD
  refine lv_aload_n hx hb dX0_init_15 rfl (lv_at hl 0 rfl) ?_
  refine lv_iconst (v := Int32.ofInt 0) hx hb dX0_init_16 rfl ?_
  refine va_put (D := D) (ci := 0) (v := .int (Int32.ofInt 0)) (ty := .int) (C := RX0) (T := TX0) (N := 11) hx hb hbig am_lay_in_0 tyX0 tyX0_ok nmX0 hown hK hP hD hS 0 rfl rfl 2 (by decide) (hbig _ (nw_in0 _ (List.mem_of_getElem? (i := 5) rfl))) (fun _ h9 => h9) rfl (by decide +kernel) rfl rfl (Nat.le_of_ble_eq_true rfl) dX0_init_17 (fun H locs hP hD hS => ?_)
  have hP : va_P D vwCl [(h0, .inr (0, [.int (Int32.ofInt 100), .int (Int32.ofInt 0), .int (Int32.ofInt 0), .int (Int32.ofInt 0), .int (Int32.ofInt 0), .null, .null, .null, .null, .null, .null]))] H := hP
  have hD : va_D A [(h0, .inr (0, [.int (Int32.ofInt 100), .int (Int32.ofInt 0), .int (Int32.ofInt 0), .int (Int32.ofInt 0), .int (Int32.ofInt 0), .null, .null, .null, .null, .null, .null]))] := hD
  refine lv_aload_n hx hb dX0_init_20 rfl (lv_at hl 0 rfl) ?_
  refine lv_iconst (v := Int32.ofInt 2) hx hb dX0_init_21 rfl ?_
  refine va_put (D := D) (ci := 0) (v := .int (Int32.ofInt 2)) (ty := .int) (C := RX0) (T := TX0) (N := 11) hx hb hbig am_lay_in_0 tyX0 tyX0_ok nmX0 hown hK hP hD hS 0 rfl rfl 3 (by decide) (hbig _ (nw_in0 _ (List.mem_of_getElem? (i := 6) rfl))) (fun _ h9 => h9) rfl (by decide +kernel) rfl rfl (Nat.le_of_ble_eq_true rfl) dX0_init_22 (fun H locs hP hD hS => ?_)
  have hP : va_P D vwCl [(h0, .inr (0, [.int (Int32.ofInt 100), .int (Int32.ofInt 0), .int (Int32.ofInt 0), .int (Int32.ofInt 2), .int (Int32.ofInt 0), .null, .null, .null, .null, .null, .null]))] H := hP
  have hD : va_D A [(h0, .inr (0, [.int (Int32.ofInt 100), .int (Int32.ofInt 0), .int (Int32.ofInt 0), .int (Int32.ofInt 2), .int (Int32.ofInt 0), .null, .null, .null, .null, .null, .null]))] := hD
  refine lv_aload_n hx hb dX0_init_25 rfl (lv_at hl 0 rfl) ?_
  refine lv_iconst (v := Int32.ofInt 0) hx hb dX0_init_26 rfl ?_
  refine va_put (D := D) (ci := 0) (v := .int (Int32.ofInt 0)) (ty := .int) (C := RX0) (T := TX0) (N := 11) hx hb hbig am_lay_in_0 tyX0 tyX0_ok nmX0 hown hK hP hD hS 0 rfl rfl 4 (by decide) (hbig _ (nw_in0 _ (List.mem_of_getElem? (i := 7) rfl))) (fun _ h9 => h9) rfl (by decide +kernel) rfl rfl (Nat.le_of_ble_eq_true rfl) dX0_init_27 (fun H locs hP hD hS => ?_)
  have hP : va_P D vwCl [(h0, .inr (0, [.int (Int32.ofInt 100), .int (Int32.ofInt 0), .int (Int32.ofInt 0), .int (Int32.ofInt 2), .int (Int32.ofInt 0), .null, .null, .null, .null, .null, .null]))] H := hP
  have hD : va_D A [(h0, .inr (0, [.int (Int32.ofInt 100), .int (Int32.ofInt 0), .int (Int32.ofInt 0), .int (Int32.ofInt 2), .int (Int32.ofInt 0), .null, .null, .null, .null, .null, .null]))] := hD
  refine lv_aload_n hx hb dX0_init_30 rfl (lv_at hl 0 rfl) ?_
  refine lv_iconst (v := Int32.ofInt 4) hx hb dX0_init_31 rfl ?_
  refine va_newa (atype := .int) (ty := .int) (N' := 4) (a0 := (4, .inl (fun _ => Int32.ofInt 0))) hx hb (hbig _ (nw_in0 _ (List.mem_of_getElem? (i := 8) rfl))) rfl hK hP hD hS hA (fun cA => nw_ha cA 4) (by decide +kernel) (by decide +kernel) (Nat.le_of_ble_eq_true rfl) (Nat.le_of_ble_eq_true rfl) (Nat.le_of_ble_eq_true rfl) dX0_init_32 (fun q1 c1 H hK hP hD hS => ?_)
  have hP : va_P D vwCl [(h0, .inr (0, [.int (Int32.ofInt 100), .int (Int32.ofInt 0), .int (Int32.ofInt 0), .int (Int32.ofInt 2), .int (Int32.ofInt 0), .null, .null, .null, .null, .null, .null])), (q1, .inl (c1, 4, .inl (fun _ => Int32.ofInt 0)))] H := hP
  have hD : va_D A [(h0, .inr (0, [.int (Int32.ofInt 100), .int (Int32.ofInt 0), .int (Int32.ofInt 0), .int (Int32.ofInt 2), .int (Int32.ofInt 0), .null, .null, .null, .null, .null, .null])), (q1, .inl (c1, 4, .inl (fun _ => Int32.ofInt 0)))] := hD
  have hK : va_K D vwCl [(c1, .int)] s := hK
  refine va_putF (D := D) (ci := 0) (v := .ref q1) (ty := .array .int) (C := RX0) (T := TX0) (N := 11) hx hb hbig am_lay_in_0 tyX0 tyX0_ok nmX0 hown hK hP hD hS 0 rfl rfl 5 (by decide) (hbig _ (nw_in0 _ (List.mem_of_getElem? (i := 9) rfl))) (fun _ h9 => h9) rfl hin rfl (by decide +kernel) rfl rfl (Nat.le_of_ble_eq_true rfl) dX0_init_34 (fun H locs hP hD hS => ?_)
  have hP : va_P D vwCl [(h0, .inr (0, [.int (Int32.ofInt 100), .int (Int32.ofInt 0), .int (Int32.ofInt 0), .int (Int32.ofInt 2), .int (Int32.ofInt 0), .ref q1, .null, .null, .null, .null, .null])), (q1, .inl (c1, 4, .inl (fun _ => Int32.ofInt 0)))] H := hP
  have hD : va_D A [(h0, .inr (0, [.int (Int32.ofInt 100), .int (Int32.ofInt 0), .int (Int32.ofInt 0), .int (Int32.ofInt 2), .int (Int32.ofInt 0), .ref q1, .null, .null, .null, .null, .null])), (q1, .inl (c1, 4, .inl (fun _ => Int32.ofInt 0)))] := hD
  refine lv_aload_n hx hb dX0_init_37 rfl (lv_at hl 0 rfl) ?_
  refine lv_iconst (v := Int32.ofInt 4) hx hb dX0_init_38 rfl ?_
  refine va_newa (atype := .int) (ty := .int) (N' := 4) (a0 := (4, .inl (fun _ => Int32.ofInt 0))) hx hb (hbig _ (nw_in0 _ (List.mem_of_getElem? (i := 8) rfl))) rfl hK hP hD hS hA (fun cA => nw_ha cA 4) (by decide +kernel) (by decide +kernel) (Nat.le_of_ble_eq_true rfl) (Nat.le_of_ble_eq_true rfl) (Nat.le_of_ble_eq_true rfl) dX0_init_39 (fun q2 c2 H hK hP hD hS => ?_)
  have hP : va_P D vwCl [(h0, .inr (0, [.int (Int32.ofInt 100), .int (Int32.ofInt 0), .int (Int32.ofInt 0), .int (Int32.ofInt 2), .int (Int32.ofInt 0), .ref q1, .null, .null, .null, .null, .null])), (q1, .inl (c1, 4, .inl (fun _ => Int32.ofInt 0))), (q2, .inl (c2, 4, .inl (fun _ => Int32.ofInt 0)))] H := hP
  have hD : va_D A [(h0, .inr (0, [.int (Int32.ofInt 100), .int (Int32.ofInt 0), .int (Int32.ofInt 0), .int (Int32.ofInt 2), .int (Int32.ofInt 0), .ref q1, .null, .null, .null, .null, .null])), (q1, .inl (c1, 4, .inl (fun _ => Int32.ofInt 0))), (q2, .inl (c2, 4, .inl (fun _ => Int32.ofInt 0)))] := hD
  have hK : va_K D vwCl [(c1, .int), (c2, .int)] s := hK
  refine va_putF (D := D) (ci := 0) (v := .ref q2) (ty := .array .int) (C := RX0) (T := TX0) (N := 11) hx hb hbig am_lay_in_0 tyX0 tyX0_ok nmX0 hown hK hP hD hS 0 rfl rfl 6 (by decide) (hbig _ (nw_in0 _ (List.mem_of_getElem? (i := 10) rfl))) (fun _ h9 => h9) rfl hin rfl (by decide +kernel) rfl rfl (Nat.le_of_ble_eq_true rfl) dX0_init_41 (fun H locs hP hD hS => ?_)
  have hP : va_P D vwCl [(h0, .inr (0, [.int (Int32.ofInt 100), .int (Int32.ofInt 0), .int (Int32.ofInt 0), .int (Int32.ofInt 2), .int (Int32.ofInt 0), .ref q1, .ref q2, .null, .null, .null, .null])), (q1, .inl (c1, 4, .inl (fun _ => Int32.ofInt 0))), (q2, .inl (c2, 4, .inl (fun _ => Int32.ofInt 0)))] H := hP
  have hD : va_D A [(h0, .inr (0, [.int (Int32.ofInt 100), .int (Int32.ofInt 0), .int (Int32.ofInt 0), .int (Int32.ofInt 2), .int (Int32.ofInt 0), .ref q1, .ref q2, .null, .null, .null, .null])), (q1, .inl (c1, 4, .inl (fun _ => Int32.ofInt 0))), (q2, .inl (c2, 4, .inl (fun _ => Int32.ofInt 0)))] := hD
  refine lv_aload_n hx hb dX0_init_44 rfl (lv_at hl 0 rfl) ?_
  refine lv_iconst (v := Int32.ofInt 4) hx hb dX0_init_45 rfl ?_
  refine va_newa (atype := .int) (ty := .int) (N' := 4) (a0 := (4, .inl (fun _ => Int32.ofInt 0))) hx hb (hbig _ (nw_in0 _ (List.mem_of_getElem? (i := 8) rfl))) rfl hK hP hD hS hA (fun cA => nw_ha cA 4) (by decide +kernel) (by decide +kernel) (Nat.le_of_ble_eq_true rfl) (Nat.le_of_ble_eq_true rfl) (Nat.le_of_ble_eq_true rfl) dX0_init_46 (fun q3 c3 H hK hP hD hS => ?_)
  have hP : va_P D vwCl [(h0, .inr (0, [.int (Int32.ofInt 100), .int (Int32.ofInt 0), .int (Int32.ofInt 0), .int (Int32.ofInt 2), .int (Int32.ofInt 0), .ref q1, .ref q2, .null, .null, .null, .null])), (q1, .inl (c1, 4, .inl (fun _ => Int32.ofInt 0))), (q2, .inl (c2, 4, .inl (fun _ => Int32.ofInt 0))), (q3, .inl (c3, 4, .inl (fun _ => Int32.ofInt 0)))] H := hP
  have hD : va_D A [(h0, .inr (0, [.int (Int32.ofInt 100), .int (Int32.ofInt 0), .int (Int32.ofInt 0), .int (Int32.ofInt 2), .int (Int32.ofInt 0), .ref q1, .ref q2, .null, .null, .null, .null])), (q1, .inl (c1, 4, .inl (fun _ => Int32.ofInt 0))), (q2, .inl (c2, 4, .inl (fun _ => Int32.ofInt 0))), (q3, .inl (c3, 4, .inl (fun _ => Int32.ofInt 0)))] := hD
  have hK : va_K D vwCl [(c1, .int), (c2, .int), (c3, .int)] s := hK
  refine va_putF (D := D) (ci := 0) (v := .ref q3) (ty := .array .int) (C := RX0) (T := TX0) (N := 11) hx hb hbig am_lay_in_0 tyX0 tyX0_ok nmX0 hown hK hP hD hS 0 rfl rfl 7 (by decide) (hbig _ (nw_in0 _ (List.mem_of_getElem? (i := 11) rfl))) (fun _ h9 => h9) rfl hin rfl (by decide +kernel) rfl rfl (Nat.le_of_ble_eq_true rfl) dX0_init_48 (fun H locs hP hD hS => ?_)
  have hP : va_P D vwCl [(h0, .inr (0, [.int (Int32.ofInt 100), .int (Int32.ofInt 0), .int (Int32.ofInt 0), .int (Int32.ofInt 2), .int (Int32.ofInt 0), .ref q1, .ref q2, .ref q3, .null, .null, .null])), (q1, .inl (c1, 4, .inl (fun _ => Int32.ofInt 0))), (q2, .inl (c2, 4, .inl (fun _ => Int32.ofInt 0))), (q3, .inl (c3, 4, .inl (fun _ => Int32.ofInt 0)))] H := hP
  have hD : va_D A [(h0, .inr (0, [.int (Int32.ofInt 100), .int (Int32.ofInt 0), .int (Int32.ofInt 0), .int (Int32.ofInt 2), .int (Int32.ofInt 0), .ref q1, .ref q2, .ref q3, .null, .null, .null])), (q1, .inl (c1, 4, .inl (fun _ => Int32.ofInt 0))), (q2, .inl (c2, 4, .inl (fun _ => Int32.ofInt 0))), (q3, .inl (c3, 4, .inl (fun _ => Int32.ofInt 0)))] := hD
  refine lv_aload_n hx hb dX0_init_51 rfl (lv_at hl 0 rfl) ?_
  refine lv_iconst (v := Int32.ofInt 4) hx hb dX0_init_52 rfl ?_
  refine va_newa (atype := .int) (ty := .int) (N' := 4) (a0 := (4, .inl (fun _ => Int32.ofInt 0))) hx hb (hbig _ (nw_in0 _ (List.mem_of_getElem? (i := 8) rfl))) rfl hK hP hD hS hA (fun cA => nw_ha cA 4) (by decide +kernel) (by decide +kernel) (Nat.le_of_ble_eq_true rfl) (Nat.le_of_ble_eq_true rfl) (Nat.le_of_ble_eq_true rfl) dX0_init_53 (fun q4 c4 H hK hP hD hS => ?_)
  have hP : va_P D vwCl [(h0, .inr (0, [.int (Int32.ofInt 100), .int (Int32.ofInt 0), .int (Int32.ofInt 0), .int (Int32.ofInt 2), .int (Int32.ofInt 0), .ref q1, .ref q2, .ref q3, .null, .null, .null])), (q1, .inl (c1, 4, .inl (fun _ => Int32.ofInt 0))), (q2, .inl (c2, 4, .inl (fun _ => Int32.ofInt 0))), (q3, .inl (c3, 4, .inl (fun _ => Int32.ofInt 0))), (q4, .inl (c4, 4, .inl (fun _ => Int32.ofInt 0)))] H := hP
  have hD : va_D A [(h0, .inr (0, [.int (Int32.ofInt 100), .int (Int32.ofInt 0), .int (Int32.ofInt 0), .int (Int32.ofInt 2), .int (Int32.ofInt 0), .ref q1, .ref q2, .ref q3, .null, .null, .null])), (q1, .inl (c1, 4, .inl (fun _ => Int32.ofInt 0))), (q2, .inl (c2, 4, .inl (fun _ => Int32.ofInt 0))), (q3, .inl (c3, 4, .inl (fun _ => Int32.ofInt 0))), (q4, .inl (c4, 4, .inl (fun _ => Int32.ofInt 0)))] := hD
  have hK : va_K D vwCl [(c1, .int), (c2, .int), (c3, .int), (c4, .int)] s := hK
  refine va_putF (D := D) (ci := 0) (v := .ref q4) (ty := .array .int) (C := RX0) (T := TX0) (N := 11) hx hb hbig am_lay_in_0 tyX0 tyX0_ok nmX0 hown hK hP hD hS 0 rfl rfl 8 (by decide) (hbig _ (nw_in0 _ (List.mem_of_getElem? (i := 12) rfl))) (fun _ h9 => h9) rfl hin rfl (by decide +kernel) rfl rfl (Nat.le_of_ble_eq_true rfl) dX0_init_55 (fun H locs hP hD hS => ?_)
  have hP : va_P D vwCl [(h0, .inr (0, [.int (Int32.ofInt 100), .int (Int32.ofInt 0), .int (Int32.ofInt 0), .int (Int32.ofInt 2), .int (Int32.ofInt 0), .ref q1, .ref q2, .ref q3, .ref q4, .null, .null])), (q1, .inl (c1, 4, .inl (fun _ => Int32.ofInt 0))), (q2, .inl (c2, 4, .inl (fun _ => Int32.ofInt 0))), (q3, .inl (c3, 4, .inl (fun _ => Int32.ofInt 0))), (q4, .inl (c4, 4, .inl (fun _ => Int32.ofInt 0)))] H := hP
  have hD : va_D A [(h0, .inr (0, [.int (Int32.ofInt 100), .int (Int32.ofInt 0), .int (Int32.ofInt 0), .int (Int32.ofInt 2), .int (Int32.ofInt 0), .ref q1, .ref q2, .ref q3, .ref q4, .null, .null])), (q1, .inl (c1, 4, .inl (fun _ => Int32.ofInt 0))), (q2, .inl (c2, 4, .inl (fun _ => Int32.ofInt 0))), (q3, .inl (c3, 4, .inl (fun _ => Int32.ofInt 0))), (q4, .inl (c4, 4, .inl (fun _ => Int32.ofInt 0)))] := hD
  refine lv_aload_n hx hb dX0_init_58 rfl (lv_at hl 0 rfl) ?_
  refine lv_iconst (v := Int32.ofInt 4) hx hb dX0_init_59 rfl ?_
  refine va_newa (atype := .int) (ty := .int) (N' := 4) (a0 := (4, .inl (fun _ => Int32.ofInt 0))) hx hb (hbig _ (nw_in0 _ (List.mem_of_getElem? (i := 8) rfl))) rfl hK hP hD hS hA (fun cA => nw_ha cA 4) (by decide +kernel) (by decide +kernel) (Nat.le_of_ble_eq_true rfl) (Nat.le_of_ble_eq_true rfl) (Nat.le_of_ble_eq_true rfl) dX0_init_60 (fun q5 c5 H hK hP hD hS => ?_)
  have hP : va_P D vwCl [(h0, .inr (0, [.int (Int32.ofInt 100), .int (Int32.ofInt 0), .int (Int32.ofInt 0), .int (Int32.ofInt 2), .int (Int32.ofInt 0), .ref q1, .ref q2, .ref q3, .ref q4, .null, .null])), (q1, .inl (c1, 4, .inl (fun _ => Int32.ofInt 0))), (q2, .inl (c2, 4, .inl (fun _ => Int32.ofInt 0))), (q3, .inl (c3, 4, .inl (fun _ => Int32.ofInt 0))), (q4, .inl (c4, 4, .inl (fun _ => Int32.ofInt 0))), (q5, .inl (c5, 4, .inl (fun _ => Int32.ofInt 0)))] H := hP
  have hD : va_D A [(h0, .inr (0, [.int (Int32.ofInt 100), .int (Int32.ofInt 0), .int (Int32.ofInt 0), .int (Int32.ofInt 2), .int (Int32.ofInt 0), .ref q1, .ref q2, .ref q3, .ref q4, .null, .null])), (q1, .inl (c1, 4, .inl (fun _ => Int32.ofInt 0))), (q2, .inl (c2, 4, .inl (fun _ => Int32.ofInt 0))), (q3, .inl (c3, 4, .inl (fun _ => Int32.ofInt 0))), (q4, .inl (c4, 4, .inl (fun _ => Int32.ofInt 0))), (q5, .inl (c5, 4, .inl (fun _ => Int32.ofInt 0)))] := hD
  have hK : va_K D vwCl [(c1, .int), (c2, .int), (c3, .int), (c4, .int), (c5, .int)] s := hK
  refine va_putF (D := D) (ci := 0) (v := .ref q5) (ty := .array .int) (C := RX0) (T := TX0) (N := 11) hx hb hbig am_lay_in_0 tyX0 tyX0_ok nmX0 hown hK hP hD hS 0 rfl rfl 9 (by decide) (hbig _ (nw_in0 _ (List.mem_of_getElem? (i := 13) rfl))) (fun _ h9 => h9) rfl hin rfl (by decide +kernel) rfl rfl (Nat.le_of_ble_eq_true rfl) dX0_init_62 (fun H locs hP hD hS => ?_)
  have hP : va_P D vwCl [(h0, .inr (0, [.int (Int32.ofInt 100), .int (Int32.ofInt 0), .int (Int32.ofInt 0), .int (Int32.ofInt 2), .int (Int32.ofInt 0), .ref q1, .ref q2, .ref q3, .ref q4, .ref q5, .null])), (q1, .inl (c1, 4, .inl (fun _ => Int32.ofInt 0))), (q2, .inl (c2, 4, .inl (fun _ => Int32.ofInt 0))), (q3, .inl (c3, 4, .inl (fun _ => Int32.ofInt 0))), (q4, .inl (c4, 4, .inl (fun _ => Int32.ofInt 0))), (q5, .inl (c5, 4, .inl (fun _ => Int32.ofInt 0)))] H := hP
  have hD : va_D A [(h0, .inr (0, [.int (Int32.ofInt 100), .int (Int32.ofInt 0), .int (Int32.ofInt 0), .int (Int32.ofInt 2), .int (Int32.ofInt 0), .ref q1, .ref q2, .ref q3, .ref q4, .ref q5, .null])), (q1, .inl (c1, 4, .inl (fun _ => Int32.ofInt 0))), (q2, .inl (c2, 4, .inl (fun _ => Int32.ofInt 0))), (q3, .inl (c3, 4, .inl (fun _ => Int32.ofInt 0))), (q4, .inl (c4, 4, .inl (fun _ => Int32.ofInt 0))), (q5, .inl (c5, 4, .inl (fun _ => Int32.ofInt 0)))] := hD
  refine lv_aload_n hx hb dX0_init_65 rfl (lv_at hl 0 rfl) ?_
  refine lv_iconst (v := Int32.ofInt 4) hx hb dX0_init_66 rfl ?_
  refine va_newa (atype := .int) (ty := .int) (N' := 4) (a0 := (4, .inl (fun _ => Int32.ofInt 0))) hx hb (hbig _ (nw_in0 _ (List.mem_of_getElem? (i := 8) rfl))) rfl hK hP hD hS hA (fun cA => nw_ha cA 4) (by decide +kernel) (by decide +kernel) (Nat.le_of_ble_eq_true rfl) (Nat.le_of_ble_eq_true rfl) (Nat.le_of_ble_eq_true rfl) dX0_init_67 (fun q6 c6 H hK hP hD hS => ?_)
  have hP : va_P D vwCl [(h0, .inr (0, [.int (Int32.ofInt 100), .int (Int32.ofInt 0), .int (Int32.ofInt 0), .int (Int32.ofInt 2), .int (Int32.ofInt 0), .ref q1, .ref q2, .ref q3, .ref q4, .ref q5, .null])), (q1, .inl (c1, 4, .inl (fun _ => Int32.ofInt 0))), (q2, .inl (c2, 4, .inl (fun _ => Int32.ofInt 0))), (q3, .inl (c3, 4, .inl (fun _ => Int32.ofInt 0))), (q4, .inl (c4, 4, .inl (fun _ => Int32.ofInt 0))), (q5, .inl (c5, 4, .inl (fun _ => Int32.ofInt 0))), (q6, .inl (c6, 4, .inl (fun _ => Int32.ofInt 0)))] H := hP
  have hD : va_D A [(h0, .inr (0, [.int (Int32.ofInt 100), .int (Int32.ofInt 0), .int (Int32.ofInt 0), .int (Int32.ofInt 2), .int (Int32.ofInt 0), .ref q1, .ref q2, .ref q3, .ref q4, .ref q5, .null])), (q1, .inl (c1, 4, .inl (fun _ => Int32.ofInt 0))), (q2, .inl (c2, 4, .inl (fun _ => Int32.ofInt 0))), (q3, .inl (c3, 4, .inl (fun _ => Int32.ofInt 0))), (q4, .inl (c4, 4, .inl (fun _ => Int32.ofInt 0))), (q5, .inl (c5, 4, .inl (fun _ => Int32.ofInt 0))), (q6, .inl (c6, 4, .inl (fun _ => Int32.ofInt 0)))] := hD
  have hK : va_K D vwCl [(c1, .int), (c2, .int), (c3, .int), (c4, .int), (c5, .int), (c6, .int)] s := hK
  refine va_putF (D := D) (ci := 0) (v := .ref q6) (ty := .array .int) (C := RX0) (T := TX0) (N := 11) hx hb hbig am_lay_in_0 tyX0 tyX0_ok nmX0 hown hK hP hD hS 0 rfl rfl 10 (by decide) (hbig _ (nw_in0 _ (List.mem_of_getElem? (i := 14) rfl))) (fun _ h9 => h9) rfl hin rfl (by decide +kernel) rfl rfl (Nat.le_of_ble_eq_true rfl) dX0_init_69 (fun H locs hP hD hS => ?_)
  have hP : va_P D vwCl [(h0, .inr (0, [.int (Int32.ofInt 100), .int (Int32.ofInt 0), .int (Int32.ofInt 0), .int (Int32.ofInt 2), .int (Int32.ofInt 0), .ref q1, .ref q2, .ref q3, .ref q4, .ref q5, .ref q6])), (q1, .inl (c1, 4, .inl (fun _ => Int32.ofInt 0))), (q2, .inl (c2, 4, .inl (fun _ => Int32.ofInt 0))), (q3, .inl (c3, 4, .inl (fun _ => Int32.ofInt 0))), (q4, .inl (c4, 4, .inl (fun _ => Int32.ofInt 0))), (q5, .inl (c5, 4, .inl (fun _ => Int32.ofInt 0))), (q6, .inl (c6, 4, .inl (fun _ => Int32.ofInt 0)))] H := hP
  have hD : va_D A [(h0, .inr (0, [.int (Int32.ofInt 100), .int (Int32.ofInt 0), .int (Int32.ofInt 0), .int (Int32.ofInt 2), .int (Int32.ofInt 0), .ref q1, .ref q2, .ref q3, .ref q4, .ref q5, .ref q6])), (q1, .inl (c1, 4, .inl (fun _ => Int32.ofInt 0))), (q2, .inl (c2, 4, .inl (fun _ => Int32.ofInt 0))), (q3, .inl (c3, 4, .inl (fun _ => Int32.ofInt 0))), (q4, .inl (c4, 4, .inl (fun _ => Int32.ofInt 0))), (q5, .inl (c5, 4, .inl (fun _ => Int32.ofInt 0))), (q6, .inl (c6, 4, .inl (fun _ => Int32.ofInt 0)))] := hD
  refine W.widen (k := 6) (n := 24) (Nat.le_of_ble_eq_true rfl) (Nat.le_of_ble_eq_true rfl) ?_
  exact W.vret hx hb hr (fun t ht hW => ⟨⟨(nw_l [q1, q2, q3, q4, q5, q6], nw_l [c1, c2, c3, c4, c5, c6]), rfl, trivial, by rw [ht]; exact hP, va_K.moved hW.alike hK, hD⟩, hS.F ht⟩) hS.2.2 dX0_init_72
theorem dX2_init_0 : decode cX2_init 0 = .ok (.aload_n 0, 1) := by decide +kernel
theorem dX2_init_1 : decode cX2_init 1 = .ok (.invokespecial 3, 3) := by decide +kernel
theorem dX2_init_4 : decode cX2_init 4 = .ok (.aload_n 0, 1) := by decide +kernel
theorem dX2_init_5 : decode cX2_init 5 = .ok (.iconst 0, 1) := by decide +kernel
theorem dX2_init_6 : decode cX2_init 6 = .ok (.putfield 9, 3) := by decide +kernel
theorem dX2_init_9 : decode cX2_init 9 = .ok (.aload_n 0, 1) := by decide +kernel
theorem dX2_init_10 : decode cX2_init 10 = .ok (.iconst 4, 1) := by decide +kernel
theorem dX2_init_11 : decode cX2_init 11 = .ok (.newarray .int, 2) := by decide +kernel
theorem dX2_init_13 : decode cX2_init 13 = .ok (.putfield 15, 3) := by decide +kernel
theorem dX2_init_16 : decode cX2_init 16 = .ok (.aload_n 0, 1) := by decide +kernel
theorem dX2_init_17 : decode cX2_init 17 = .ok (.iconst 4, 1) := by decide +kernel
theorem dX2_init_18 : decode cX2_init 18 = .ok (.newarray .int, 2) := by decide +kernel
theorem dX2_init_20 : decode cX2_init 20 = .ok (.putfield 19, 3) := by decide +kernel
theorem dX2_init_23 : decode cX2_init 23 = .ok (.aload_n 0, 1) := by decide +kernel
theorem dX2_init_24 : decode cX2_init 24 = .ok (.iconst 4, 1) := by decide +kernel
theorem dX2_init_25 : decode cX2_init 25 = .ok (.newarray .int, 2) := by decide +kernel
theorem dX2_init_27 : decode cX2_init 27 = .ok (.putfield 22, 3) := by decide +kernel
theorem dX2_init_30 : decode cX2_init 30 = .ok (.aload_n 0, 1) := by decide +kernel
theorem dX2_init_31 : decode cX2_init 31 = .ok (.iconst 4, 1) := by decide +kernel
theorem dX2_init_32 : decode cX2_init 32 = .ok (.newarray .int, 2) := by decide +kernel
theorem dX2_init_34 : decode cX2_init 34 = .ok (.putfield 25, 3) := by decide +kernel
theorem dX2_init_37 : decode cX2_init 37 = .ok (.aload_n 0, 1) := by decide +kernel
theorem dX2_init_38 : decode cX2_init 38 = .ok (.iconst 4, 1) := by decide +kernel
theorem dX2_init_39 : decode cX2_init 39 = .ok (.newarray .int, 2) := by decide +kernel
theorem dX2_init_41 : decode cX2_init 41 = .ok (.putfield 28, 3) := by decide +kernel
theorem dX2_init_44 : decode cX2_init 44 = .ok (.return_, 1) := by decide +kernel
set_option maxHeartbeats 4000000 in
set_option maxRecDepth 100000 in
theorem nw_c2 (l : Launch) (D : va_G) (h0 sz : Nat) : Met l yX2_init (Cond.code yX2_init cX2_init 1 none :: am_big) ({ frames := 1, cells := 5, slots := 20, locals := 12 }) (va_Pc [.ref h0] (fun U => U.heap.size = sz ∧ va_P D vwCl [(h0, .inr (2, [.int (Int32.ofInt 0), .null, .null, .null, .null, .null]))] U.heap ∧ va_K D vwCl [] U ∧ va_D (fun _ => True) [(h0, .inr (2, [.int (Int32.ofInt 0), .null, .null, .null, .null, .null]))])) (va_Qv (fun u : (Nat → Nat) × (Nat → ClassId) => True) (fun u t => va_P D vwCl (nwX2 h0 u.1 u.2) t.heap ∧ va_K D vwCl (nkX2 u.2) t ∧ va_D (va_A [(h0, .inr (2, [.int (Int32.ofInt 0), .null, .null, .null, .null, .null]))] sz) (nwX2 h0 u.1 u.2)) (va_A [(h0, .inr (2, [.int (Int32.ofInt 0), .null, .null, .null, .null, .null]))] sz)) 5 20 (va_A [(h0, .inr (2, [.int (Int32.ofInt 0), .null, .null, .null, .null, .null]))] sz) := by
  refine Met.ofW (cc := cX2_init) (maxL := 1) (ret := none) (by decide) rfl ?_
  intro p e s m args below meth c s₁ B hml hv
  obtain ⟨rfl, hsz, hP, hK, hD0⟩ := hv
  have hx := B.exec
  have hb := B.bytes
  have hr := B.returns
  have hts := atoms_spec (ws := Cond.code yX2_init cX2_init 1 none :: am_big) B.pre
  have hbig : ∀ w ∈ am_big, w.before _ s = true := fun w h => hts w (List.mem_cons_of_mem _ h)
  have hown : s.vm.findClass RX2 = some m.cls := findClass_of_methodNamed B.named
  have hlocks := B.notSynchronized
  have hin : meth.name = "<init>" := (name_of_methodNamed B.named B.method).1
  subst hsz
  have hD := hD0.self (sz := s.heap.size)
  generalize hAe : va_A [(h0, .inr (2, [.int (Int32.ofInt 0), .null, .null, .null, .null, .null]))] s.heap.size = A at hD ⊢
  have hA : ∀ q : Nat, s.heap.size ≤ q → A q := fun q h => by rw [← hAe]; exact Or.inr h
  have hS : va_S A s.heap s.heap [] := va_S.rf
  have hP : va_P D vwCl [(h0, .inr (2, [.int (Int32.ofInt 0), .null, .null, .null, .null, .null]))] s.heap := hP
  have hl := lv_entry ([.ref h0]) (n := 1) (Nat.le_of_ble_eq_true rfl)
  rw [lg_entry_eq]
  generalize (lg_sl ([.ref h0]) ++ List.replicate (1 - (lg_sl ([.ref h0])).length) Slot.unset).toArray = ls at hl ⊢
  have hl : lv_has ls 1 [(0, .ref h0)] := hl
  refine lv_aload_n hx hb dX2_init_0 rfl (lv_at hl 0 rfl) ?_
  refine W.objInit hx hb hown (hbig _ (nw_in0 _ (List.mem_of_getElem? (i := 15) rfl))) (hbig _ (nw_in0 _ (List.mem_of_getElem? (i := 1) rfl))) (hbig _ (nw_in0 _ (List.mem_of_getElem? (i := 2) rfl))) rfl (by rw [hml]; exact hl.1) rfl dX2_init_1 (Nat.le_of_ble_eq_true rfl) (Nat.le_of_ble_eq_true rfl) ?_
  refine W.eq (g2 := F0 m 4 ls []) rfl ?_
  refine lv_aload_n hx hb dX2_init_4 rfl (lv_at hl 0 rfl) ?_
  refine lv_iconst (v := Int32.ofInt 0) hx hb dX2_init_5 rfl ?_
  refine va_put (D := D) (ci := 2) (v := .int (Int32.ofInt 0)) (ty := .int) (C := RX2) (T := TX2) (N := 6) hx hb hbig am_lay_in_2 tyX2 tyX2_ok nmX2 hown hK hP hD hS 0 rfl rfl 0 (by decide) (hbig _ (nw_in0 _ (List.mem_of_getElem? (i := 16) rfl))) (fun _ h9 => h9) rfl (by decide +kernel) rfl rfl (Nat.le_of_ble_eq_true rfl) dX2_init_6 (fun H locs hP hD hS => ?_)
  have hP : va_P D vwCl [(h0, .inr (2, [.int (Int32.ofInt 0), .null, .null, .null, .null, .null]))] H := hP
  have hD : va_D A [(h0, .inr (2, [.int (Int32.ofInt 0), .null, .null, .null, .null, .null]))] := hD
  refine lv_aload_n hx hb dX2_init_9 rfl (lv_at hl 0 rfl) ?_
  refine lv_iconst (v := Int32.ofInt 4) hx hb dX2_init_10 rfl ?_
  refine va_newa (atype := .int) (ty := .int) (N' := 4) (a0 := (4, .inl (fun _ => Int32.ofInt 0))) hx hb (hbig _ (nw_in0 _ (List.mem_of_getElem? (i := 8) rfl))) rfl hK hP hD hS hA (fun cA => nw_ha cA 4) (by decide +kernel) (by decide +kernel) (Nat.le_of_ble_eq_true rfl) (Nat.le_of_ble_eq_true rfl) (Nat.le_of_ble_eq_true rfl) dX2_init_11 (fun q1 c1 H hK hP hD hS => ?_)
  have hP : va_P D vwCl [(h0, .inr (2, [.int (Int32.ofInt 0), .null, .null, .null, .null, .null])), (q1, .inl (c1, 4, .inl (fun _ => Int32.ofInt 0)))] H := hP
  have hD : va_D A [(h0, .inr (2, [.int (Int32.ofInt 0), .null, .null, .null, .null, .null])), (q1, .inl (c1, 4, .inl (fun _ => Int32.ofInt 0)))] := hD
  have hK : va_K D vwCl [(c1, .int)] s := hK
  refine va_putF (D := D) (ci := 2) (v := .ref q1) (ty := .array .int) (C := RX2) (T := TX2) (N := 6) hx hb hbig am_lay_in_2 tyX2 tyX2_ok nmX2 hown hK hP hD hS 0 rfl rfl 1 (by decide) (hbig _ (nw_in0 _ (List.mem_of_getElem? (i := 17) rfl))) (fun _ h9 => h9) rfl hin rfl (by decide +kernel) rfl rfl (Nat.le_of_ble_eq_true rfl) dX2_init_13 (fun H locs hP hD hS => ?_)
  have hP : va_P D vwCl [(h0, .inr (2, [.int (Int32.ofInt 0), .ref q1, .null, .null, .null, .null])), (q1, .inl (c1, 4, .inl (fun _ => Int32.ofInt 0)))] H := hP
  have hD : va_D A [(h0, .inr (2, [.int (Int32.ofInt 0), .ref q1, .null, .null, .null, .null])), (q1, .inl (c1, 4, .inl (fun _ => Int32.ofInt 0)))] := hD
  refine lv_aload_n hx hb dX2_init_16 rfl (lv_at hl 0 rfl) ?_
  refine lv_iconst (v := Int32.ofInt 4) hx hb dX2_init_17 rfl ?_
  refine va_newa (atype := .int) (ty := .int) (N' := 4) (a0 := (4, .inl (fun _ => Int32.ofInt 0))) hx hb (hbig _ (nw_in0 _ (List.mem_of_getElem? (i := 8) rfl))) rfl hK hP hD hS hA (fun cA => nw_ha cA 4) (by decide +kernel) (by decide +kernel) (Nat.le_of_ble_eq_true rfl) (Nat.le_of_ble_eq_true rfl) (Nat.le_of_ble_eq_true rfl) dX2_init_18 (fun q2 c2 H hK hP hD hS => ?_)
  have hP : va_P D vwCl [(h0, .inr (2, [.int (Int32.ofInt 0), .ref q1, .null, .null, .null, .null])), (q1, .inl (c1, 4, .inl (fun _ => Int32.ofInt 0))), (q2, .inl (c2, 4, .inl (fun _ => Int32.ofInt 0)))] H := hP
  have hD : va_D A [(h0, .inr (2, [.int (Int32.ofInt 0), .ref q1, .null, .null, .null, .null])), (q1, .inl (c1, 4, .inl (fun _ => Int32.ofInt 0))), (q2, .inl (c2, 4, .inl (fun _ => Int32.ofInt 0)))] := hD
  have hK : va_K D vwCl [(c1, .int), (c2, .int)] s := hK
  refine va_putF (D := D) (ci := 2) (v := .ref q2) (ty := .array .int) (C := RX2) (T := TX2) (N := 6) hx hb hbig am_lay_in_2 tyX2 tyX2_ok nmX2 hown hK hP hD hS 0 rfl rfl 2 (by decide) (hbig _ (nw_in0 _ (List.mem_of_getElem? (i := 18) rfl))) (fun _ h9 => h9) rfl hin rfl (by decide +kernel) rfl rfl (Nat.le_of_ble_eq_true rfl) dX2_init_20 (fun H locs hP hD hS => ?_)
  have hP : va_P D vwCl [(h0, .inr (2, [.int (Int32.ofInt 0), .ref q1, .ref q2, .null, .null, .null])), (q1, .inl (c1, 4, .inl (fun _ => Int32.ofInt 0))), (q2, .inl (c2, 4, .inl (fun _ => Int32.ofInt 0)))] H := hP
  have hD : va_D A [(h0, .inr (2, [.int (Int32.ofInt 0), .ref q1, .ref q2, .null, .null, .null])), (q1, .inl (c1, 4, .inl (fun _ => Int32.ofInt 0))), (q2, .inl (c2, 4, .inl (fun _ => Int32.ofInt 0)))] := hD
  refine lv_aload_n hx hb dX2_init_23 rfl (lv_at hl 0 rfl) ?_
  refine lv_iconst (v := Int32.ofInt 4) hx hb dX2_init_24 rfl ?_
  refine va_newa (atype := .int) (ty := .int) (N' := 4) (a0 := (4, .inl (fun _ => Int32.ofInt 0))) hx hb (hbig _ (nw_in0 _ (List.mem_of_getElem? (i := 8) rfl))) rfl hK hP hD hS hA (fun cA => nw_ha cA 4) (by decide +kernel) (by decide +kernel) (Nat.le_of_ble_eq_true rfl) (Nat.le_of_ble_eq_true rfl) (Nat.le_of_ble_eq_true rfl) dX2_init_25 (fun q3 c3 H hK hP hD hS => ?_)
  have hP : va_P D vwCl [(h0, .inr (2, [.int (Int32.ofInt 0), .ref q1, .ref q2, .null, .null, .null])), (q1, .inl (c1, 4, .inl (fun _ => Int32.ofInt 0))), (q2, .inl (c2, 4, .inl (fun _ => Int32.ofInt 0))), (q3, .inl (c3, 4, .inl (fun _ => Int32.ofInt 0)))] H := hP
  have hD : va_D A [(h0, .inr (2, [.int (Int32.ofInt 0), .ref q1, .ref q2, .null, .null, .null])), (q1, .inl (c1, 4, .inl (fun _ => Int32.ofInt 0))), (q2, .inl (c2, 4, .inl (fun _ => Int32.ofInt 0))), (q3, .inl (c3, 4, .inl (fun _ => Int32.ofInt 0)))] := hD
  have hK : va_K D vwCl [(c1, .int), (c2, .int), (c3, .int)] s := hK
  refine va_putF (D := D) (ci := 2) (v := .ref q3) (ty := .array .int) (C := RX2) (T := TX2) (N := 6) hx hb hbig am_lay_in_2 tyX2 tyX2_ok nmX2 hown hK hP hD hS 0 rfl rfl 3 (by decide) (hbig _ (nw_in0 _ (List.mem_of_getElem? (i := 19) rfl))) (fun _ h9 => h9) rfl hin rfl (by decide +kernel) rfl rfl (Nat.le_of_ble_eq_true rfl) dX2_init_27 (fun H locs hP hD hS => ?_)
  have hP : va_P D vwCl [(h0, .inr (2, [.int (Int32.ofInt 0), .ref q1, .ref q2, .ref q3, .null, .null])), (q1, .inl (c1, 4, .inl (fun _ => Int32.ofInt 0))), (q2, .inl (c2, 4, .inl (fun _ => Int32.ofInt 0))), (q3, .inl (c3, 4, .inl (fun _ => Int32.ofInt 0)))] H := hP
  have hD : va_D A [(h0, .inr (2, [.int (Int32.ofInt 0), .ref q1, .ref q2, .ref q3, .null, .null])), (q1, .inl (c1, 4, .inl (fun _ => Int32.ofInt 0))), (q2, .inl (c2, 4, .inl (fun _ => Int32.ofInt 0))), (q3, .inl (c3, 4, .inl (fun _ => Int32.ofInt 0)))] := hD
  refine lv_aload_n hx hb dX2_init_30 rfl (lv_at hl 0 rfl) ?_
  refine lv_iconst (v := Int32.ofInt 4) hx hb dX2_init_31 rfl ?_
  refine va_newa (atype := .int) (ty := .int) (N' := 4) (a0 := (4, .inl (fun _ => Int32.ofInt 0))) hx hb (hbig _ (nw_in0 _ (List.mem_of_getElem? (i := 8) rfl))) rfl hK hP hD hS hA (fun cA => nw_ha cA 4) (by decide +kernel) (by decide +kernel) (Nat.le_of_ble_eq_true rfl) (Nat.le_of_ble_eq_true rfl) (Nat.le_of_ble_eq_true rfl) dX2_init_32 (fun q4 c4 H hK hP hD hS => ?_)
  have hP : va_P D vwCl [(h0, .inr (2, [.int (Int32.ofInt 0), .ref q1, .ref q2, .ref q3, .null, .null])), (q1, .inl (c1, 4, .inl (fun _ => Int32.ofInt 0))), (q2, .inl (c2, 4, .inl (fun _ => Int32.ofInt 0))), (q3, .inl (c3, 4, .inl (fun _ => Int32.ofInt 0))), (q4, .inl (c4, 4, .inl (fun _ => Int32.ofInt 0)))] H := hP
  have hD : va_D A [(h0, .inr (2, [.int (Int32.ofInt 0), .ref q1, .ref q2, .ref q3, .null, .null])), (q1, .inl (c1, 4, .inl (fun _ => Int32.ofInt 0))), (q2, .inl (c2, 4, .inl (fun _ => Int32.ofInt 0))), (q3, .inl (c3, 4, .inl (fun _ => Int32.ofInt 0))), (q4, .inl (c4, 4, .inl (fun _ => Int32.ofInt 0)))] := hD
  have hK : va_K D vwCl [(c1, .int), (c2, .int), (c3, .int), (c4, .int)] s := hK
  refine va_putF (D := D) (ci := 2) (v := .ref q4) (ty := .array .int) (C := RX2) (T := TX2) (N := 6) hx hb hbig am_lay_in_2 tyX2 tyX2_ok nmX2 hown hK hP hD hS 0 rfl rfl 4 (by decide) (hbig _ (nw_in0 _ (List.mem_of_getElem? (i := 20) rfl))) (fun _ h9 => h9) rfl hin rfl (by decide +kernel) rfl rfl (Nat.le_of_ble_eq_true rfl) dX2_init_34 (fun H locs hP hD hS => ?_)
  have hP : va_P D vwCl [(h0, .inr (2, [.int (Int32.ofInt 0), .ref q1, .ref q2, .ref q3, .ref q4, .null])), (q1, .inl (c1, 4, .inl (fun _ => Int32.ofInt 0))), (q2, .inl (c2, 4, .inl (fun _ => Int32.ofInt 0))), (q3, .inl (c3, 4, .inl (fun _ => Int32.ofInt 0))), (q4, .inl (c4, 4, .inl (fun _ => Int32.ofInt 0)))] H := hP
  have hD : va_D A [(h0, .inr (2, [.int (Int32.ofInt 0), .ref q1, .ref q2, .ref q3, .ref q4, .null])), (q1, .inl (c1, 4, .inl (fun _ => Int32.ofInt 0))), (q2, .inl (c2, 4, .inl (fun _ => Int32.ofInt 0))), (q3, .inl (c3, 4, .inl (fun _ => Int32.ofInt 0))), (q4, .inl (c4, 4, .inl (fun _ => Int32.ofInt 0)))] := hD
  refine lv_aload_n hx hb dX2_init_37 rfl (lv_at hl 0 rfl) ?_
  refine lv_iconst (v := Int32.ofInt 4) hx hb dX2_init_38 rfl ?_
  refine va_newa (atype := .int) (ty := .int) (N' := 4) (a0 := (4, .inl (fun _ => Int32.ofInt 0))) hx hb (hbig _ (nw_in0 _ (List.mem_of_getElem? (i := 8) rfl))) rfl hK hP hD hS hA (fun cA => nw_ha cA 4) (by decide +kernel) (by decide +kernel) (Nat.le_of_ble_eq_true rfl) (Nat.le_of_ble_eq_true rfl) (Nat.le_of_ble_eq_true rfl) dX2_init_39 (fun q5 c5 H hK hP hD hS => ?_)
  have hP : va_P D vwCl [(h0, .inr (2, [.int (Int32.ofInt 0), .ref q1, .ref q2, .ref q3, .ref q4, .null])), (q1, .inl (c1, 4, .inl (fun _ => Int32.ofInt 0))), (q2, .inl (c2, 4, .inl (fun _ => Int32.ofInt 0))), (q3, .inl (c3, 4, .inl (fun _ => Int32.ofInt 0))), (q4, .inl (c4, 4, .inl (fun _ => Int32.ofInt 0))), (q5, .inl (c5, 4, .inl (fun _ => Int32.ofInt 0)))] H := hP
  have hD : va_D A [(h0, .inr (2, [.int (Int32.ofInt 0), .ref q1, .ref q2, .ref q3, .ref q4, .null])), (q1, .inl (c1, 4, .inl (fun _ => Int32.ofInt 0))), (q2, .inl (c2, 4, .inl (fun _ => Int32.ofInt 0))), (q3, .inl (c3, 4, .inl (fun _ => Int32.ofInt 0))), (q4, .inl (c4, 4, .inl (fun _ => Int32.ofInt 0))), (q5, .inl (c5, 4, .inl (fun _ => Int32.ofInt 0)))] := hD
  have hK : va_K D vwCl [(c1, .int), (c2, .int), (c3, .int), (c4, .int), (c5, .int)] s := hK
  refine va_putF (D := D) (ci := 2) (v := .ref q5) (ty := .array .int) (C := RX2) (T := TX2) (N := 6) hx hb hbig am_lay_in_2 tyX2 tyX2_ok nmX2 hown hK hP hD hS 0 rfl rfl 5 (by decide) (hbig _ (nw_in0 _ (List.mem_of_getElem? (i := 21) rfl))) (fun _ h9 => h9) rfl hin rfl (by decide +kernel) rfl rfl (Nat.le_of_ble_eq_true rfl) dX2_init_41 (fun H locs hP hD hS => ?_)
  have hP : va_P D vwCl [(h0, .inr (2, [.int (Int32.ofInt 0), .ref q1, .ref q2, .ref q3, .ref q4, .ref q5])), (q1, .inl (c1, 4, .inl (fun _ => Int32.ofInt 0))), (q2, .inl (c2, 4, .inl (fun _ => Int32.ofInt 0))), (q3, .inl (c3, 4, .inl (fun _ => Int32.ofInt 0))), (q4, .inl (c4, 4, .inl (fun _ => Int32.ofInt 0))), (q5, .inl (c5, 4, .inl (fun _ => Int32.ofInt 0)))] H := hP
  have hD : va_D A [(h0, .inr (2, [.int (Int32.ofInt 0), .ref q1, .ref q2, .ref q3, .ref q4, .ref q5])), (q1, .inl (c1, 4, .inl (fun _ => Int32.ofInt 0))), (q2, .inl (c2, 4, .inl (fun _ => Int32.ofInt 0))), (q3, .inl (c3, 4, .inl (fun _ => Int32.ofInt 0))), (q4, .inl (c4, 4, .inl (fun _ => Int32.ofInt 0))), (q5, .inl (c5, 4, .inl (fun _ => Int32.ofInt 0)))] := hD
  refine W.widen (k := 5) (n := 20) (Nat.le_of_ble_eq_true rfl) (Nat.le_of_ble_eq_true rfl) ?_
  exact W.vret hx hb hr (fun t ht hW => ⟨⟨(nw_l [q1, q2, q3, q4, q5], nw_l [c1, c2, c3, c4, c5]), rfl, trivial, by rw [ht]; exact hP, va_K.moved hW.alike hK, hD⟩, hS.F ht⟩) hS.2.2 dX2_init_44
theorem dX3_init_0 : decode cX3_init 0 = .ok (.aload_n 0, 1) := by decide +kernel
theorem dX3_init_1 : decode cX3_init 1 = .ok (.invokespecial 1, 3) := by decide +kernel
theorem dX3_init_4 : decode cX3_init 4 = .ok (.aload_n 0, 1) := by decide +kernel
theorem dX3_init_5 : decode cX3_init 5 = .ok (.iconst 0, 1) := by decide +kernel
theorem dX3_init_6 : decode cX3_init 6 = .ok (.putfield 7, 3) := by decide +kernel
theorem dX3_init_9 : decode cX3_init 9 = .ok (.aload_n 0, 1) := by decide +kernel
theorem dX3_init_10 : decode cX3_init 10 = .ok (.iconst 0, 1) := by decide +kernel
theorem dX3_init_11 : decode cX3_init 11 = .ok (.iload_n 1, 1) := by decide +kernel
theorem dX3_init_12 : decode cX3_init 12 = .ok (.invokestatic 13, 3) := by decide +kernel
theorem dX3_init_15 : decode cX3_init 15 = .ok (.newarray .int, 2) := by decide +kernel
theorem dX3_init_17 : decode cX3_init 17 = .ok (.putfield 19, 3) := by decide +kernel
theorem dX3_init_20 : decode cX3_init 20 = .ok (.return_, 1) := by decide +kernel
set_option maxHeartbeats 4000000 in
set_option maxRecDepth 100000 in
theorem nw_c3 (l : Launch) (D : va_G) (h0 sz : Nat) (n : Int32) (N : Nat) (e1 : (if Int32.ofInt 0 < n then n else Int32.ofInt 0) = n) (e2 : n.toNatClampNeg = N) (e3 : ¬ n < 0) (e4 : N * 4 ≤ 536870912) : Met l yX3_init (Cond.code yX3_init cX3_init 2 none :: am_big) ({ frames := 1, cells := 1, slots := N, locals := 21 }) (va_Pc [.ref h0, .int n] (fun U => U.heap.size = sz ∧ va_P D vwCl [(h0, .inr (3, [.null, .int (Int32.ofInt 0)]))] U.heap ∧ va_K D vwCl [] U ∧ va_D (fun _ => True) [(h0, .inr (3, [.null, .int (Int32.ofInt 0)]))])) (va_Qv (fun u : (Nat → Nat) × (Nat → ClassId) => True) (fun u t => va_P D vwCl (nwX3 N h0 u.1 u.2) t.heap ∧ va_K D vwCl (nkX3 u.2) t ∧ va_D (va_A [(h0, .inr (3, [.null, .int (Int32.ofInt 0)]))] sz) (nwX3 N h0 u.1 u.2)) (va_A [(h0, .inr (3, [.null, .int (Int32.ofInt 0)]))] sz)) 1 N (va_A [(h0, .inr (3, [.null, .int (Int32.ofInt 0)]))] sz) := by
  refine Met.ofW (cc := cX3_init) (maxL := 2) (ret := none) (by decide) rfl ?_
  intro p e s m args below meth c s₁ B hml hv
  obtain ⟨rfl, hsz, hP, hK, hD0⟩ := hv
  have hx := B.exec
  have hb := B.bytes
  have hr := B.returns
  have hts := atoms_spec (ws := Cond.code yX3_init cX3_init 2 none :: am_big) B.pre
  have hbig : ∀ w ∈ am_big, w.before _ s = true := fun w h => hts w (List.mem_cons_of_mem _ h)
  have hown : s.vm.findClass RX3 = some m.cls := findClass_of_methodNamed B.named
  have hlocks := B.notSynchronized
  have hin : meth.name = "<init>" := (name_of_methodNamed B.named B.method).1
  subst hsz
  have hD := hD0.self (sz := s.heap.size)
  generalize hAe : va_A [(h0, .inr (3, [.null, .int (Int32.ofInt 0)]))] s.heap.size = A at hD ⊢
  have hA : ∀ q : Nat, s.heap.size ≤ q → A q := fun q h => by rw [← hAe]; exact Or.inr h
  have hS : va_S A s.heap s.heap [] := va_S.rf
  have hP : va_P D vwCl [(h0, .inr (3, [.null, .int (Int32.ofInt 0)]))] s.heap := hP
  have hl := lv_entry ([.ref h0, .int n]) (n := 2) (Nat.le_of_ble_eq_true rfl)
  rw [lg_entry_eq]
  generalize (lg_sl ([.ref h0, .int n]) ++ List.replicate (2 - (lg_sl ([.ref h0, .int n])).length) Slot.unset).toArray = ls at hl ⊢
  have hl : lv_has ls 2 [(0, .ref h0), (1, .int n)] := hl
  refine lv_aload_n hx hb dX3_init_0 rfl (lv_at hl 0 rfl) ?_
  refine W.objInit hx hb hown (hbig _ (nw_in0 _ (List.mem_of_getElem? (i := 22) rfl))) (hbig _ (nw_in0 _ (List.mem_of_getElem? (i := 1) rfl))) (hbig _ (nw_in0 _ (List.mem_of_getElem? (i := 2) rfl))) rfl (by rw [hml]; exact hl.1) rfl dX3_init_1 (Nat.le_of_ble_eq_true rfl) (Nat.le_of_ble_eq_true rfl) ?_
  refine W.eq (g2 := F0 m 4 ls []) rfl ?_
  refine lv_aload_n hx hb dX3_init_4 rfl (lv_at hl 0 rfl) ?_
  refine lv_iconst (v := Int32.ofInt 0) hx hb dX3_init_5 rfl ?_
  refine va_put (D := D) (ci := 3) (v := .int (Int32.ofInt 0)) (ty := .int) (C := RX3) (T := TX3) (N := 2) hx hb hbig am_lay_in_3 tyX3 tyX3_ok nmX3 hown hK hP hD hS 0 rfl rfl 1 (by decide) (hbig _ (nw_in0 _ (List.mem_of_getElem? (i := 23) rfl))) (fun _ h9 => h9) rfl (by decide +kernel) rfl rfl (Nat.le_of_ble_eq_true rfl) dX3_init_6 (fun H locs hP hD hS => ?_)
  have hP : va_P D vwCl [(h0, .inr (3, [.null, .int (Int32.ofInt 0)]))] H := hP
  have hD : va_D A [(h0, .inr (3, [.null, .int (Int32.ofInt 0)]))] := hD
  refine lv_aload_n hx hb dX3_init_9 rfl (lv_at hl 0 rfl) ?_
  refine lv_iconst (v := Int32.ofInt 0) hx hb dX3_init_10 rfl ?_
  refine lv_iload_n hx hb dX3_init_11 rfl (lv_at hl 1 rfl) ?_
  refine va_mmax hx hb (by rw [hml]; exact hl.1.symm) hown (hbig _ (nw_in0 _ (List.mem_of_getElem? (i := 24) rfl))) (hbig _ (nw_in0 _ (List.mem_of_getElem? (i := 25) rfl))) (hbig _ (nw_in0 _ (List.mem_of_getElem? (i := 26) rfl))) (hbig _ (nw_in0 _ (List.mem_of_getElem? (i := 27) rfl))) (Nat.le_of_ble_eq_true rfl) (Nat.le_of_ble_eq_true rfl) (Nat.le_of_ble_eq_true rfl) (Nat.zero_le _) dX3_init_12 ?_
  rw [e1]
  refine va_newa (atype := .int) (ty := .int) (N' := N) (a0 := (N, .inl (fun _ => Int32.ofInt 0))) hx hb (hbig _ (nw_in0 _ (List.mem_of_getElem? (i := 8) rfl))) rfl hK hP hD hS hA (fun cA => nw_ha cA N) e3 e2 e4 (Nat.le_of_ble_eq_true rfl) (by show 0 + N ≤ N; omega) dX3_init_15 (fun q1 c1 H hK hP hD hS => ?_)
  have hP : va_P D vwCl [(h0, .inr (3, [.null, .int (Int32.ofInt 0)])), (q1, .inl (c1, N, .inl (fun _ => Int32.ofInt 0)))] H := hP
  have hD : va_D A [(h0, .inr (3, [.null, .int (Int32.ofInt 0)])), (q1, .inl (c1, N, .inl (fun _ => Int32.ofInt 0)))] := hD
  have hK : va_K D vwCl [(c1, .int)] s := hK
  refine va_putF (D := D) (ci := 3) (v := .ref q1) (ty := .array .int) (C := RX3) (T := TX3) (N := 2) hx hb hbig am_lay_in_3 tyX3 tyX3_ok nmX3 hown hK hP hD hS 0 rfl rfl 0 (by decide) (hbig _ (nw_in0 _ (List.mem_of_getElem? (i := 28) rfl))) (fun _ h9 => h9) rfl hin rfl (by decide +kernel) rfl rfl (Nat.le_of_ble_eq_true rfl) dX3_init_17 (fun H locs hP hD hS => ?_)
  have hP : va_P D vwCl [(h0, .inr (3, [.ref q1, .int (Int32.ofInt 0)])), (q1, .inl (c1, N, .inl (fun _ => Int32.ofInt 0)))] H := hP
  have hD : va_D A [(h0, .inr (3, [.ref q1, .int (Int32.ofInt 0)])), (q1, .inl (c1, N, .inl (fun _ => Int32.ofInt 0)))] := hD
  refine W.widen (k := 1) (n := N) (Nat.le_of_ble_eq_true rfl) (by show 0 + N ≤ N; omega) ?_
  exact W.vret hx hb hr (fun t ht hW => ⟨⟨(nw_l [q1], nw_l [c1]), rfl, trivial, by rw [ht]; exact hP, va_K.moved hW.alike hK, hD⟩, hS.F ht⟩) hS.2.2 dX3_init_20
