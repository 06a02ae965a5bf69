set_option maxRecDepth 100000 in
set_option maxHeartbeats 4000000 in
theorem nw_c6_25 (l : Launch) (D : va_G) (h0 sz : Nat) : Met l yX6_init (Cond.code yX6_init cX6_init 1 none :: am_big) ({ frames := 3, cells := 82, slots := 498, locals := 62 }) (va_Pc [.ref h0] (fun U => U.heap.size = sz ∧ va_P D vwCl [(h0, .inr (6, [.null, .null, .null, .null, .null, .null, .null, .null, .null, .null, .null, .null, .null, .null, .null, .int (Int32.ofInt 0)]))] U.heap ∧ va_K D vwCl [] U ∧ va_D (fun _ => True) [(h0, .inr (6, [.null, .null, .null, .null, .null, .null, .null, .null, .null, .null, .null, .null, .null, .null, .null, .int (Int32.ofInt 0)]))] ∧ nm_AO U)) (va_Qv (fun u : (Nat → Nat) × (Nat → ClassId) => u.1 0 = h0) (fun u t => va_P D vwCl (nwX6 u.1 u.2) t.heap ∧ va_K D vwCl (nkX6 u.2) t ∧ va_D (va_A [(h0, .inr (6, [.null, .null, .null, .null, .null, .null, .null, .null, .null, .null, .null, .null, .null, .null, .null, .int (Int32.ofInt 0)]))] sz) (nwX6 u.1 u.2)) (va_A [(h0, .inr (6, [.null, .null, .null, .null, .null, .null, .null, .null, .null, .null, .null, .null, .null, .null, .null, .int (Int32.ofInt 0)]))] sz)) 82 498 (va_A [(h0, .inr (6, [.null, .null, .null, .null, .null, .null, .null, .null, .null, .null, .null, .null, .null, .null, .null, .int (Int32.ofInt 0)]))] sz) := by
  refine Met.ofW (cc := cX6_init) (maxL := 1) (ret := none) (by decide) rfl ?_
  intro p e s m args below meth c s₁ B hml hv
  obtain ⟨rfl, hsz, hP, hK, hD0, hAO⟩ := hv
  have hx := B.exec
  have hb := B.bytes
  have hr := B.returns
  have hts := atoms_spec (ws := Cond.code yX6_init cX6_init 1 none :: am_big) B.pre
  have hbig : ∀ w ∈ am_big, w.before _ s = true := fun w h => hts w (List.mem_cons_of_mem _ h)
  have hown : s.vm.findClass RX6 = some m.cls := findClass_of_methodNamed B.named
  have hlocks := B.notSynchronized
  have hin : meth.name = "<init>" := (name_of_methodNamed B.named B.method).1
  subst hsz
  have hD := hD0.self (sz := s.heap.size)
  generalize hAe : va_A [(h0, .inr (6, [.null, .null, .null, .null, .null, .null, .null, .null, .null, .null, .null, .null, .null, .null, .null, .int (Int32.ofInt 0)]))] s.heap.size = A at hD ⊢
  have hA : ∀ q : Nat, s.heap.size ≤ q → A q := fun q h => by rw [← hAe]; exact Or.inr h
  have hS : va_S A s.heap s.heap [] := va_S.rf
  have hP : va_P D vwCl [(h0, .inr (6, [.null, .null, .null, .null, .null, .null, .null, .null, .null, .null, .null, .null, .null, .null, .null, .int (Int32.ofInt 0)]))] s.heap := hP
  have hl := lv_entry ([.ref h0]) (n := 1) (Nat.le_of_ble_eq_true rfl)
  rw [lg_entry_eq]
  generalize (lg_sl ([.ref h0]) ++ List.replicate (1 - (lg_sl ([.ref h0])).length) Slot.unset).toArray = ls at hl ⊢
  have hl : lv_has ls 1 [(0, .ref h0)] := hl
  refine lv_aload_n hx hb dX6_init_0 rfl (lv_at hl 0 rfl) ?_
  refine W.objInit hx hb hown (hbig _ (nw_in2 _ (List.mem_of_getElem? (i := 21) rfl))) (hbig _ (nw_in0 _ (List.mem_of_getElem? (i := 1) rfl))) (hbig _ (nw_in0 _ (List.mem_of_getElem? (i := 2) rfl))) rfl (by rw [hml]; exact hl.1) rfl dX6_init_1 (Nat.le_of_ble_eq_true rfl) (Nat.le_of_ble_eq_true rfl) ?_
  refine W.eq (g2 := F0 m 4 ls []) rfl ?_
  have hP : va_P D vwCl (((h0, .inr (6, [.null, .null, .null, .null, .null, .null, .null, .null, .null, .null, .null, .null, .null, .null, .null, .int (Int32.ofInt 0)])) :: [])) s.heap := hP
  have hD : va_D A (((h0, .inr (6, [.null, .null, .null, .null, .null, .null, .null, .null, .null, .null, .null, .null, .null, .null, .null, .int (Int32.ofInt 0)])) :: [])) := hD
  refine lv_aload_n hx hb dX6_init_4 rfl (lv_at hl 0 rfl) ?_
  refine va_new (ci := 0) (fs := [.int (Int32.ofInt 0), .int (Int32.ofInt 0), .int (Int32.ofInt 0), .int (Int32.ofInt 0), .int (Int32.ofInt 0), .null, .null, .null, .null, .null, .null]) (C := RX0) (T := TX0) (N := 11) hx hb hbig am_lay_in_0 tyX0 tyX0_ok hown (hbig _ (nw_in2 _ (List.mem_of_getElem? (i := 22) rfl))) (hbig _ (nw_in2 _ (List.mem_of_getElem? (i := 23) rfl))) (hbig _ (nw_in2 _ (List.mem_of_getElem? (i := 24) rfl))) hK hP hD hS hA rfl nw_df0 (Nat.le_of_ble_eq_true rfl) (Nat.le_of_ble_eq_true rfl) dX6_init_5 (fun o1 H hP hD hS => ?_)
  have hP : va_P D vwCl (((h0, .inr (6, [.null, .null, .null, .null, .null, .null, .null, .null, .null, .null, .null, .null, .null, .null, .null, .int (Int32.ofInt 0)])) :: []) ++ [(o1, .inr (0, [.int (Int32.ofInt 0), .int (Int32.ofInt 0), .int (Int32.ofInt 0), .int (Int32.ofInt 0), .int (Int32.ofInt 0), .null, .null, .null, .null, .null, .null]))]) H := hP
  have hD : va_D A (((h0, .inr (6, [.null, .null, .null, .null, .null, .null, .null, .null, .null, .null, .null, .null, .null, .null, .null, .int (Int32.ofInt 0)])) :: []) ++ [(o1, .inr (0, [.int (Int32.ofInt 0), .int (Int32.ofInt 0), .int (Int32.ofInt 0), .int (Int32.ofInt 0), .int (Int32.ofInt 0), .null, .null, .null, .null, .null, .null]))]) := hD
  refine lv_dup hx hb dX6_init_8 rfl ?_
  have hPc := nw_right hP
  have hDc := nw_rightD hD
  have hFc := nw_free (wc := [(o1, .inr (0, [.int (Int32.ofInt 0), .int (Int32.ofInt 0), .int (Int32.ofInt 0), .int (Int32.ofInt 0), .int (Int32.ofInt 0), .null, .null, .null, .null, .null, .null]))]) hD hS hA
  have hKc := hK.sub (tys' := []) [] rfl
  refine va_callv (va_runI (As := []) (rest := [.ref o1, .ref h0]) ⟨hx, hb, hml, hown, hbig⟩ (nw_c0 l D o1 H.size) (cwI 0 hbig (nw_good (nw_in2 _ (List.mem_of_getElem? (i := 25) rfl))) rfl rfl rfl (hbig _ (nw_in2 _ (List.mem_of_getElem? (i := 24) rfl))) (hbig _ (nw_in2 _ (List.mem_of_getElem? (i := 26) rfl))) (hbig _ (nw_in2 _ (List.mem_of_getElem? (i := 27) rfl))) rfl (by decide +kernel) ⟨(Nat.le_of_ble_eq_true rfl), (Nat.le_of_ble_eq_true rfl)⟩) ⟨fun a U g mk z => by obtain ⟨q0, q1, qP, qK, qD⟩ := z; exact ⟨q0, q1, qP, va_K.moved (u := U) (U := U.calling g mk a) (Vm.Alike.refl U.vm) qK, qD⟩, fun U hU hW => ⟨rfl, by rw [hU], by rw [hU]; exact hPc, va_K.moved hW.alike hKc, hDc.weaken (fun _ _ _ _ => trivial)⟩⟩ rfl rfl hl.1 rfl (lv_room (Nat.le_of_ble_eq_true rfl)) dX6_init_9 ⟨(Nat.le_of_ble_eq_true rfl), (Nat.le_of_ble_eq_true rfl)⟩) hS (fun q _ h => hFc q h) hFc (fun u1 t H1 locs ht hvm hw hB hz1 hk1 hS => ?_)
  obtain ⟨hP1, hK1, hD1⟩ := hB
  rw [ht] at hP1
  have hK1 := va_K.moved hvm.symm hK1
  obtain ⟨hP, hD⟩ := nw_join hP hD hk1 hFc hP1 hD1
  have hK := hK.app hK1
  generalize H1 = H at hP hS ⊢
  have hP : va_P D vwCl (((h0, .inr (6, [.null, .null, .null, .null, .null, .null, .null, .null, .null, .null, .null, .null, .null, .null, .null, .int (Int32.ofInt 0)])) :: nwX0 o1 u1.1 u1.2)) H := hP
  have hD : va_D A (((h0, .inr (6, [.null, .null, .null, .null, .null, .null, .null, .null, .null, .null, .null, .null, .null, .null, .null, .int (Int32.ofInt 0)])) :: nwX0 o1 u1.1 u1.2)) := hD
  have hK : va_K D vwCl (nkX0 u1.2) s := hK
  refine va_putF (D := D) (ci := 6) (v := .ref o1) (ty := .object "HeadStart$Field") (C := RX6) (T := TX6) (N := 16) hx hb hbig am_lay_in_6 tyX6 tyX6_ok nmX6 hown hK hP hD hS 0 rfl rfl 0 (by decide) (hbig _ (nw_in2 _ (List.mem_of_getElem? (i := 28) rfl))) (fun _ h9 => h9) rfl hin rfl (by decide +kernel) rfl rfl (Nat.le_of_ble_eq_true rfl) dX6_init_12 (fun H locs hP hD hS => ?_)
  have hP : va_P D vwCl (((h0, .inr (6, [.ref o1, .null, .null, .null, .null, .null, .null, .null, .null, .null, .null, .null, .null, .null, .null, .int (Int32.ofInt 0)])) :: nwX0 o1 u1.1 u1.2)) H := hP
  have hD : va_D A (((h0, .inr (6, [.ref o1, .null, .null, .null, .null, .null, .null, .null, .null, .null, .null, .null, .null, .null, .null, .int (Int32.ofInt 0)])) :: nwX0 o1 u1.1 u1.2)) := hD
  refine lv_aload_n hx hb dX6_init_15 rfl (lv_at hl 0 rfl) ?_
  refine va_new (ci := 0) (fs := [.int (Int32.ofInt 0), .int (Int32.ofInt 0), .int (Int32.ofInt 0), .int (Int32.ofInt 0), .int (Int32.ofInt 0), .null, .null, .null, .null, .null, .null]) (C := RX0) (T := TX0) (N := 11) hx hb hbig am_lay_in_0 tyX0 tyX0_ok hown (hbig _ (nw_in2 _ (List.mem_of_getElem? (i := 22) rfl))) (hbig _ (nw_in2 _ (List.mem_of_getElem? (i := 23) rfl))) (hbig _ (nw_in2 _ (List.mem_of_getElem? (i := 24) rfl))) hK hP hD hS hA rfl nw_df0 (Nat.le_of_ble_eq_true rfl) (Nat.le_of_ble_eq_true rfl) dX6_init_16 (fun o2 H hP hD hS => ?_)
  have hP : va_P D vwCl (((h0, .inr (6, [.ref o1, .null, .null, .null, .null, .null, .null, .null, .null, .null, .null, .null, .null, .null, .null, .int (Int32.ofInt 0)])) :: nwX0 o1 u1.1 u1.2) ++ [(o2, .inr (0, [.int (Int32.ofInt 0), .int (Int32.ofInt 0), .int (Int32.ofInt 0), .int (Int32.ofInt 0), .int (Int32.ofInt 0), .null, .null, .null, .null, .null, .null]))]) H := hP
  have hD : va_D A (((h0, .inr (6, [.ref o1, .null, .null, .null, .null, .null, .null, .null, .null, .null, .null, .null, .null, .null, .null, .int (Int32.ofInt 0)])) :: nwX0 o1 u1.1 u1.2) ++ [(o2, .inr (0, [.int (Int32.ofInt 0), .int (Int32.ofInt 0), .int (Int32.ofInt 0), .int (Int32.ofInt 0), .int (Int32.ofInt 0), .null, .null, .null, .null, .null, .null]))]) := hD
  refine lv_dup hx hb dX6_init_19 rfl ?_
  have hPc := nw_right hP
  have hDc := nw_rightD hD
  have hFc := nw_free (wc := [(o2, .inr (0, [.int (Int32.ofInt 0), .int (Int32.ofInt 0), .int (Int32.ofInt 0), .int (Int32.ofInt 0), .int (Int32.ofInt 0), .null, .null, .null, .null, .null, .null]))]) hD hS hA
  have hKc := hK.sub (tys' := []) [] rfl
  refine va_callv (va_runI (As := []) (rest := [.ref o2, .ref h0]) ⟨hx, hb, hml, hown, hbig⟩ (nw_c0 l D o2 H.size) (cwI 0 hbig (nw_good (nw_in2 _ (List.mem_of_getElem? (i := 25) rfl))) rfl rfl rfl (hbig _ (nw_in2 _ (List.mem_of_getElem? (i := 24) rfl))) (hbig _ (nw_in2 _ (List.mem_of_getElem? (i := 26) rfl))) (hbig _ (nw_in2 _ (List.mem_of_getElem? (i := 27) rfl))) rfl (by decide +kernel) ⟨(Nat.le_of_ble_eq_true rfl), (Nat.le_of_ble_eq_true rfl)⟩) ⟨fun a U g mk z => by obtain ⟨q0, q1, qP, qK, qD⟩ := z; exact ⟨q0, q1, qP, va_K.moved (u := U) (U := U.calling g mk a) (Vm.Alike.refl U.vm) qK, qD⟩, fun U hU hW => ⟨rfl, by rw [hU], by rw [hU]; exact hPc, va_K.moved hW.alike hKc, hDc.weaken (fun _ _ _ _ => trivial)⟩⟩ rfl rfl hl.1 rfl (lv_room (Nat.le_of_ble_eq_true rfl)) dX6_init_20 ⟨(Nat.le_of_ble_eq_true rfl), (Nat.le_of_ble_eq_true rfl)⟩) hS (fun q _ h => hFc q h) hFc (fun u2 t H1 locs ht hvm hw hB hz1 hk1 hS => ?_)
  obtain ⟨hP1, hK1, hD1⟩ := hB
  rw [ht] at hP1
  have hK1 := va_K.moved hvm.symm hK1
  obtain ⟨hP, hD⟩ := nw_join hP hD hk1 hFc hP1 hD1
  have hK := hK.app hK1
  generalize H1 = H at hP hS ⊢
  have hP : va_P D vwCl (((h0, .inr (6, [.ref o1, .null, .null, .null, .null, .null, .null, .null, .null, .null, .null, .null, .null, .null, .null, .int (Int32.ofInt 0)])) :: (nwX0 o1 u1.1 u1.2 ++ nwX0 o2 u2.1 u2.2))) H := hP
  have hD : va_D A (((h0, .inr (6, [.ref o1, .null, .null, .null, .null, .null, .null, .null, .null, .null, .null, .null, .null, .null, .null, .int (Int32.ofInt 0)])) :: (nwX0 o1 u1.1 u1.2 ++ nwX0 o2 u2.1 u2.2))) := hD
  have hK : va_K D vwCl ((nkX0 u1.2 ++ nkX0 u2.2)) s := hK
  refine va_putF (D := D) (ci := 6) (v := .ref o2) (ty := .object "HeadStart$Field") (C := RX6) (T := TX6) (N := 16) hx hb hbig am_lay_in_6 tyX6 tyX6_ok nmX6 hown hK hP hD hS 0 rfl rfl 1 (by decide) (hbig _ (nw_in2 _ (List.mem_of_getElem? (i := 29) rfl))) (fun _ h9 => h9) rfl hin rfl (by decide +kernel) rfl rfl (Nat.le_of_ble_eq_true rfl) dX6_init_23 (fun H locs hP hD hS => ?_)
  have hP : va_P D vwCl (((h0, .inr (6, [.ref o1, .ref o2, .null, .null, .null, .null, .null, .null, .null, .null, .null, .null, .null, .null, .null, .int (Int32.ofInt 0)])) :: (nwX0 o1 u1.1 u1.2 ++ nwX0 o2 u2.1 u2.2))) H := hP
  have hD : va_D A (((h0, .inr (6, [.ref o1, .ref o2, .null, .null, .null, .null, .null, .null, .null, .null, .null, .null, .null, .null, .null, .int (Int32.ofInt 0)])) :: (nwX0 o1 u1.1 u1.2 ++ nwX0 o2 u2.1 u2.2))) := hD
  refine lv_aload_n hx hb dX6_init_26 rfl (lv_at hl 0 rfl) ?_
  refine va_new (ci := 0) (fs := [.int (Int32.ofInt 0), .int (Int32.ofInt 0), .int (Int32.ofInt 0), .int (Int32.ofInt 0), .int (Int32.ofInt 0), .null, .null, .null, .null, .null, .null]) (C := RX0) (T := TX0) (N := 11) hx hb hbig am_lay_in_0 tyX0 tyX0_ok hown (hbig _ (nw_in2 _ (List.mem_of_getElem? (i := 22) rfl))) (hbig _ (nw_in2 _ (List.mem_of_getElem? (i := 23) rfl))) (hbig _ (nw_in2 _ (List.mem_of_getElem? (i := 24) rfl))) hK hP hD hS hA rfl nw_df0 (Nat.le_of_ble_eq_true rfl) (Nat.le_of_ble_eq_true rfl) dX6_init_27 (fun o3 H hP hD hS => ?_)
  have hP : va_P D vwCl (((h0, .inr (6, [.ref o1, .ref o2, .null, .null, .null, .null, .null, .null, .null, .null, .null, .null, .null, .null, .null, .int (Int32.ofInt 0)])) :: (nwX0 o1 u1.1 u1.2 ++ nwX0 o2 u2.1 u2.2)) ++ [(o3, .inr (0, [.int (Int32.ofInt 0), .int (Int32.ofInt 0), .int (Int32.ofInt 0), .int (Int32.ofInt 0), .int (Int32.ofInt 0), .null, .null, .null, .null, .null, .null]))]) H := hP
  have hD : va_D A (((h0, .inr (6, [.ref o1, .ref o2, .null, .null, .null, .null, .null, .null, .null, .null, .null, .null, .null, .null, .null, .int (Int32.ofInt 0)])) :: (nwX0 o1 u1.1 u1.2 ++ nwX0 o2 u2.1 u2.2)) ++ [(o3, .inr (0, [.int (Int32.ofInt 0), .int (Int32.ofInt 0), .int (Int32.ofInt 0), .int (Int32.ofInt 0), .int (Int32.ofInt 0), .null, .null, .null, .null, .null, .null]))]) := hD
  refine lv_dup hx hb dX6_init_30 rfl ?_
  have hPc := nw_right hP
  have hDc := nw_rightD hD
  have hFc := nw_free (wc := [(o3, .inr (0, [.int (Int32.ofInt 0), .int (Int32.ofInt 0), .int (Int32.ofInt 0), .int (Int32.ofInt 0), .int (Int32.ofInt 0), .null, .null, .null, .null, .null, .null]))]) hD hS hA
  have hKc := hK.sub (tys' := []) [] rfl
  refine va_callv (va_runI (As := []) (rest := [.ref o3, .ref h0]) ⟨hx, hb, hml, hown, hbig⟩ (nw_c0 l D o3 H.size) (cwI 0 hbig (nw_good (nw_in2 _ (List.mem_of_getElem? (i := 25) rfl))) rfl rfl rfl (hbig _ (nw_in2 _ (List.mem_of_getElem? (i := 24) rfl))) (hbig _ (nw_in2 _ (List.mem_of_getElem? (i := 26) rfl))) (hbig _ (nw_in2 _ (List.mem_of_getElem? (i := 27) rfl))) rfl (by decide +kernel) ⟨(Nat.le_of_ble_eq_true rfl), (Nat.le_of_ble_eq_true rfl)⟩) ⟨fun a U g mk z => by obtain ⟨q0, q1, qP, qK, qD⟩ := z; exact ⟨q0, q1, qP, va_K.moved (u := U) (U := U.calling g mk a) (Vm.Alike.refl U.vm) qK, qD⟩, fun U hU hW => ⟨rfl, by rw [hU], by rw [hU]; exact hPc, va_K.moved hW.alike hKc, hDc.weaken (fun _ _ _ _ => trivial)⟩⟩ rfl rfl hl.1 rfl (lv_room (Nat.le_of_ble_eq_true rfl)) dX6_init_31 ⟨(Nat.le_of_ble_eq_true rfl), (Nat.le_of_ble_eq_true rfl)⟩) hS (fun q _ h => hFc q h) hFc (fun u3 t H1 locs ht hvm hw hB hz1 hk1 hS => ?_)
  obtain ⟨hP1, hK1, hD1⟩ := hB
  rw [ht] at hP1
  have hK1 := va_K.moved hvm.symm hK1
  obtain ⟨hP, hD⟩ := nw_join hP hD hk1 hFc hP1 hD1
  have hK := hK.app hK1
  generalize H1 = H at hP hS ⊢
  have hP : va_P D vwCl (((h0, .inr (6, [.ref o1, .ref o2, .null, .null, .null, .null, .null, .null, .null, .null, .null, .null, .null, .null, .null, .int (Int32.ofInt 0)])) :: ((nwX0 o1 u1.1 u1.2 ++ nwX0 o2 u2.1 u2.2) ++ nwX0 o3 u3.1 u3.2))) H := hP
  have hD : va_D A (((h0, .inr (6, [.ref o1, .ref o2, .null, .null, .null, .null, .null, .null, .null, .null, .null, .null, .null, .null, .null, .int (Int32.ofInt 0)])) :: ((nwX0 o1 u1.1 u1.2 ++ nwX0 o2 u2.1 u2.2) ++ nwX0 o3 u3.1 u3.2))) := hD
  have hK : va_K D vwCl (((nkX0 u1.2 ++ nkX0 u2.2) ++ nkX0 u3.2)) s := hK
  refine va_putF (D := D) (ci := 6) (v := .ref o3) (ty := .object "HeadStart$Field") (C := RX6) (T := TX6) (N := 16) hx hb hbig am_lay_in_6 tyX6 tyX6_ok nmX6 hown hK hP hD hS 0 rfl rfl 2 (by decide) (hbig _ (nw_in3 _ (List.mem_of_getElem? (i := 0) rfl))) (fun _ h9 => h9) rfl hin rfl (by decide +kernel) rfl rfl (Nat.le_of_ble_eq_true rfl) dX6_init_34 (fun H locs hP hD hS => ?_)
  have hP : va_P D vwCl (((h0, .inr (6, [.ref o1, .ref o2, .ref o3, .null, .null, .null, .null, .null, .null, .null, .null, .null, .null, .null, .null, .int (Int32.ofInt 0)])) :: ((nwX0 o1 u1.1 u1.2 ++ nwX0 o2 u2.1 u2.2) ++ nwX0 o3 u3.1 u3.2))) H := hP
  have hD : va_D A (((h0, .inr (6, [.ref o1, .ref o2, .ref o3, .null, .null, .null, .null, .null, .null, .null, .null, .null, .null, .null, .null, .int (Int32.ofInt 0)])) :: ((nwX0 o1 u1.1 u1.2 ++ nwX0 o2 u2.1 u2.2) ++ nwX0 o3 u3.1 u3.2))) := hD
  refine lv_aload_n hx hb dX6_init_37 rfl (lv_at hl 0 rfl) ?_
  refine va_new (ci := 0) (fs := [.int (Int32.ofInt 0), .int (Int32.ofInt 0), .int (Int32.ofInt 0), .int (Int32.ofInt 0), .int (Int32.ofInt 0), .null, .null, .null, .null, .null, .null]) (C := RX0) (T := TX0) (N := 11) hx hb hbig am_lay_in_0 tyX0 tyX0_ok hown (hbig _ (nw_in2 _ (List.mem_of_getElem? (i := 22) rfl))) (hbig _ (nw_in2 _ (List.mem_of_getElem? (i := 23) rfl))) (hbig _ (nw_in2 _ (List.mem_of_getElem? (i := 24) rfl))) hK hP hD hS hA rfl nw_df0 (Nat.le_of_ble_eq_true rfl) (Nat.le_of_ble_eq_true rfl) dX6_init_38 (fun o4 H hP hD hS => ?_)
  have hP : va_P D vwCl (((h0, .inr (6, [.ref o1, .ref o2, .ref o3, .null, .null, .null, .null, .null, .null, .null, .null, .null, .null, .null, .null, .int (Int32.ofInt 0)])) :: ((nwX0 o1 u1.1 u1.2 ++ nwX0 o2 u2.1 u2.2) ++ nwX0 o3 u3.1 u3.2)) ++ [(o4, .inr (0, [.int (Int32.ofInt 0), .int (Int32.ofInt 0), .int (Int32.ofInt 0), .int (Int32.ofInt 0), .int (Int32.ofInt 0), .null, .null, .null, .null, .null, .null]))]) H := hP
  have hD : va_D A (((h0, .inr (6, [.ref o1, .ref o2, .ref o3, .null, .null, .null, .null, .null, .null, .null, .null, .null, .null, .null, .null, .int (Int32.ofInt 0)])) :: ((nwX0 o1 u1.1 u1.2 ++ nwX0 o2 u2.1 u2.2) ++ nwX0 o3 u3.1 u3.2)) ++ [(o4, .inr (0, [.int (Int32.ofInt 0), .int (Int32.ofInt 0), .int (Int32.ofInt 0), .int (Int32.ofInt 0), .int (Int32.ofInt 0), .null, .null, .null, .null, .null, .null]))]) := hD
  refine lv_dup hx hb dX6_init_41 rfl ?_
  have hPc := nw_right hP
  have hDc := nw_rightD hD
  have hFc := nw_free (wc := [(o4, .inr (0, [.int (Int32.ofInt 0), .int (Int32.ofInt 0), .int (Int32.ofInt 0), .int (Int32.ofInt 0), .int (Int32.ofInt 0), .null, .null, .null, .null, .null, .null]))]) hD hS hA
  have hKc := hK.sub (tys' := []) [] rfl
  refine va_callv (va_runI (As := []) (rest := [.ref o4, .ref h0]) ⟨hx, hb, hml, hown, hbig⟩ (nw_c0 l D o4 H.size) (cwI 0 hbig (nw_good (nw_in2 _ (List.mem_of_getElem? (i := 25) rfl))) rfl rfl rfl (hbig _ (nw_in2 _ (List.mem_of_getElem? (i := 24) rfl))) (hbig _ (nw_in2 _ (List.mem_of_getElem? (i := 26) rfl))) (hbig _ (nw_in2 _ (List.mem_of_getElem? (i := 27) rfl))) rfl (by decide +kernel) ⟨(Nat.le_of_ble_eq_true rfl), (Nat.le_of_ble_eq_true rfl)⟩) ⟨fun a U g mk z => by obtain ⟨q0, q1, qP, qK, qD⟩ := z; exact ⟨q0, q1, qP, va_K.moved (u := U) (U := U.calling g mk a) (Vm.Alike.refl U.vm) qK, qD⟩, fun U hU hW => ⟨rfl, by rw [hU], by rw [hU]; exact hPc, va_K.moved hW.alike hKc, hDc.weaken (fun _ _ _ _ => trivial)⟩⟩ rfl rfl hl.1 rfl (lv_room (Nat.le_of_ble_eq_true rfl)) dX6_init_42 ⟨(Nat.le_of_ble_eq_true rfl), (Nat.le_of_ble_eq_true rfl)⟩) hS (fun q _ h => hFc q h) hFc (fun u4 t H1 locs ht hvm hw hB hz1 hk1 hS => ?_)
  obtain ⟨hP1, hK1, hD1⟩ := hB
  rw [ht] at hP1
  have hK1 := va_K.moved hvm.symm hK1
  obtain ⟨hP, hD⟩ := nw_join hP hD hk1 hFc hP1 hD1
  have hK := hK.app hK1
  generalize H1 = H at hP hS ⊢
  have hP : va_P D vwCl (((h0, .inr (6, [.ref o1, .ref o2, .ref o3, .null, .null, .null, .null, .null, .null, .null, .null, .null, .null, .null, .null, .int (Int32.ofInt 0)])) :: (((nwX0 o1 u1.1 u1.2 ++ nwX0 o2 u2.1 u2.2) ++ nwX0 o3 u3.1 u3.2) ++ nwX0 o4 u4.1 u4.2))) H := hP
  have hD : va_D A (((h0, .inr (6, [.ref o1, .ref o2, .ref o3, .null, .null, .null, .null, .null, .null, .null, .null, .null, .null, .null, .null, .int (Int32.ofInt 0)])) :: (((nwX0 o1 u1.1 u1.2 ++ nwX0 o2 u2.1 u2.2) ++ nwX0 o3 u3.1 u3.2) ++ nwX0 o4 u4.1 u4.2))) := hD
  have hK : va_K D vwCl ((((nkX0 u1.2 ++ nkX0 u2.2) ++ nkX0 u3.2) ++ nkX0 u4.2)) s := hK
  sorry
