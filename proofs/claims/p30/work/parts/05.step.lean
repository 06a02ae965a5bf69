/-! rows of the abstract machine, one a kind of instruction -/

theorem am_ifb {b : Bool} {P : Prop} (h : am_if b P) : b = true ∧ P := by
  cases b with
  | true => exact ⟨rfl, h⟩
  | false => exact h.elim
theorem am_bb {a b : Bool} (h : (a && b) = true) : a = true ∧ b = true := Bool.and_eq_true_iff.mp h
theorem am_br2_iff {b : Nat} {x y : Int} {A B : Prop} : am_br2 b x y A B ↔ (am_co2 b x y → A) ∧ (¬ am_co2 b x y → B) := by
  unfold am_br2 am_co2
  split <;> simp only [Classical.not_not]
theorem am_ne0 {v : Int} (h : am_c v ≠ 0) : ¬ Int32.ofInt v = 0 := fun q => h (by rw [← am_0] at q; rw [(am_eq _ _).mp q, am_c0])
theorem am_ne064 {v : Int} (h : am_d v ≠ 0) : ¬ Int64.ofInt v = 0 := fun q => h (by rw [← am_toInt64, q]; rfl)
theorem am_nz {v : Int} (h : v = 0 ∨ v = 1) : narrow .boolean (.int (Int32.ofInt v)) = .int (Int32.ofInt v) := by
  rcases h with rfl | rfl <;> decide +kernel
theorem am_fz {v : Int} (h : v = 0 ∨ v = 1) : fits .boolean (.int (Int32.ofInt v)) = true := by
  rcases h with rfl | rfl <;> decide +kernel
theorem am_c_eq {x : Int} : (Int32.ofInt x = 0) ↔ am_co2 0 (am_c x) 0 := by
  rw [← am_0]; simp only [am_eq, am_lt, am_le, am_c0, am_co2]
theorem am_n_eq {x : Int} : (¬ Int32.ofInt x = 0) ↔ ¬ am_co2 0 (am_c x) 0 := by
  rw [← am_0]; simp only [am_eq, am_lt, am_le, am_c0, am_co2, Classical.not_not]
theorem am_c2_eq {x y : Int} : (Int32.ofInt x = Int32.ofInt y) ↔ am_co2 0 (am_c x) (am_c y) := by
  simp only [am_eq, am_lt, am_le, am_co2]
theorem am_n2_eq {x y : Int} : (¬ Int32.ofInt x = Int32.ofInt y) ↔ ¬ am_co2 0 (am_c x) (am_c y) := by
  simp only [am_eq, am_lt, am_le, am_co2, Classical.not_not]
theorem am_c_ne {x : Int} : (¬ Int32.ofInt x = 0) ↔ am_co2 1 (am_c x) 0 := by
  rw [← am_0]; simp only [am_eq, am_lt, am_le, am_c0, am_co2]
theorem am_n_ne {x : Int} : (Int32.ofInt x = 0) ↔ ¬ am_co2 1 (am_c x) 0 := by
  rw [← am_0]; simp only [am_eq, am_lt, am_le, am_c0, am_co2, Classical.not_not]
theorem am_c2_ne {x y : Int} : (¬ Int32.ofInt x = Int32.ofInt y) ↔ am_co2 1 (am_c x) (am_c y) := by
  simp only [am_eq, am_lt, am_le, am_co2]
theorem am_n2_ne {x y : Int} : (Int32.ofInt x = Int32.ofInt y) ↔ ¬ am_co2 1 (am_c x) (am_c y) := by
  simp only [am_eq, am_lt, am_le, am_co2, Classical.not_not]
theorem am_c_lt {x : Int} : (Int32.ofInt x < 0) ↔ am_co2 2 (am_c x) 0 := by
  rw [← am_0]; simp only [am_eq, am_lt, am_le, am_c0, am_co2]
theorem am_n_lt {x : Int} : (¬ Int32.ofInt x < 0) ↔ ¬ am_co2 2 (am_c x) 0 := by
  rw [← am_0]; simp only [am_eq, am_lt, am_le, am_c0, am_co2, Classical.not_not]
theorem am_c2_lt {x y : Int} : (Int32.ofInt x < Int32.ofInt y) ↔ am_co2 2 (am_c x) (am_c y) := by
  simp only [am_eq, am_lt, am_le, am_co2]
theorem am_n2_lt {x y : Int} : (¬ Int32.ofInt x < Int32.ofInt y) ↔ ¬ am_co2 2 (am_c x) (am_c y) := by
  simp only [am_eq, am_lt, am_le, am_co2, Classical.not_not]
theorem am_c_ge {x : Int} : (0 ≤ Int32.ofInt x) ↔ am_co2 3 (am_c x) 0 := by
  rw [← am_0]; simp only [am_eq, am_lt, am_le, am_c0, am_co2]
theorem am_n_ge {x : Int} : (¬ 0 ≤ Int32.ofInt x) ↔ ¬ am_co2 3 (am_c x) 0 := by
  rw [← am_0]; simp only [am_eq, am_lt, am_le, am_c0, am_co2, Classical.not_not]
theorem am_c2_ge {x y : Int} : (Int32.ofInt y ≤ Int32.ofInt x) ↔ am_co2 3 (am_c x) (am_c y) := by
  simp only [am_eq, am_lt, am_le, am_co2]
theorem am_n2_ge {x y : Int} : (¬ Int32.ofInt y ≤ Int32.ofInt x) ↔ ¬ am_co2 3 (am_c x) (am_c y) := by
  simp only [am_eq, am_lt, am_le, am_co2, Classical.not_not]
theorem am_c_gt {x : Int} : (0 < Int32.ofInt x) ↔ am_co2 4 (am_c x) 0 := by
  rw [← am_0]; simp only [am_eq, am_lt, am_le, am_c0, am_co2]
theorem am_n_gt {x : Int} : (¬ 0 < Int32.ofInt x) ↔ ¬ am_co2 4 (am_c x) 0 := by
  rw [← am_0]; simp only [am_eq, am_lt, am_le, am_c0, am_co2, Classical.not_not]
theorem am_c2_gt {x y : Int} : (Int32.ofInt y < Int32.ofInt x) ↔ am_co2 4 (am_c x) (am_c y) := by
  simp only [am_eq, am_lt, am_le, am_co2]
theorem am_n2_gt {x y : Int} : (¬ Int32.ofInt y < Int32.ofInt x) ↔ ¬ am_co2 4 (am_c x) (am_c y) := by
  simp only [am_eq, am_lt, am_le, am_co2, Classical.not_not]
theorem am_c_le {x : Int} : (Int32.ofInt x ≤ 0) ↔ am_co2 5 (am_c x) 0 := by
  rw [← am_0]; simp only [am_eq, am_lt, am_le, am_c0, am_co2]
theorem am_n_le {x : Int} : (¬ Int32.ofInt x ≤ 0) ↔ ¬ am_co2 5 (am_c x) 0 := by
  rw [← am_0]; simp only [am_eq, am_lt, am_le, am_c0, am_co2, Classical.not_not]
theorem am_c2_le {x y : Int} : (Int32.ofInt x ≤ Int32.ofInt y) ↔ am_co2 5 (am_c x) (am_c y) := by
  simp only [am_eq, am_lt, am_le, am_co2]
theorem am_n2_le {x y : Int} : (¬ Int32.ofInt x ≤ Int32.ofInt y) ↔ ¬ am_co2 5 (am_c x) (am_c y) := by
  simp only [am_eq, am_lt, am_le, am_co2, Classical.not_not]

theorem am_sw_tb {K : Nat → Prop} {pc d : Nat} {v : Int} : ∀ {lo : Int} {os : List Int}, am_sw (am_tb pc lo os) v d K → (∃ o, (¬ v < lo ∧ os[(v - lo).toNat]? = some o) ∧ K ((pc : Int) + o).toNat) ∨ ((v < lo ∨ lo + (os.length : Int) ≤ v) ∧ K d)
  | lo, [], h => Or.inr ⟨by simp only [List.length_nil]; omega, h⟩
  | lo, o :: r, h => by
    obtain ⟨h1, h2⟩ := h
    by_cases e : v = lo
    · exact Or.inl ⟨o, ⟨by omega, by rw [e]; simp⟩, h1 e⟩
    · rcases am_sw_tb (h2 e) with ⟨o', ⟨q1, q2⟩, q3⟩ | ⟨q1, q2⟩
      · refine Or.inl ⟨o', ⟨by omega, ?_⟩, q3⟩
        have e2 : (v - lo).toNat = (v - (lo + 1)).toNat + 1 := by omega
        rw [e2, List.getElem?_cons_succ]
        exact q2
      · refine Or.inr ⟨?_, q2⟩
        simp only [List.length_cons]
        omega
theorem am_sw_lk {K : Nat → Prop} {pc : Nat} {d v : Int} (h0 : 0 ≤ (pc : Int) + d) : ∀ {ps : List (Int × Int)}, (∀ o ∈ ps, 0 ≤ (pc : Int) + o.2) → am_sw (ps.map (fun o => (o.1, ((pc : Int) + o.2).toNat))) v ((pc : Int) + d).toNat K → K ((pc : Int) + Op.lookupswitch.offset ps d v).toNat ∧ 0 ≤ (pc : Int) + Op.lookupswitch.offset ps d v
  | [], _, h => ⟨h, h0⟩
  | (a, o) :: r, h1, h => by
    obtain ⟨q1, q2⟩ := h
    rw [Op.lookupswitch.offset_cons]
    by_cases e : a = v
    · rw [if_pos e]
      exact ⟨q1 e.symm, h1 (a, o) List.mem_cons_self⟩
    · rw [if_neg e]
      exact am_sw_lk h0 (fun o' ho' => h1 o' (List.mem_cons_of_mem _ ho')) (q2 (fun z => e z.symm))
theorem am_fl_all : am_fl.all (fun f => decide (f.2.2.1 < 8) && decide (f.2.2.2 < am_nf f.2.2.1)) = true := by decide +kernel
theorem am_lay_in : ∀ c, c < 8 → ∀ w ∈ u_ws (am_cn c) (am_cT c) (am_nf c), w ∈ am_big := by
  intro c hc
  match c, hc with
  | 0, _ => exact am_lay_in_0
  | 1, _ => exact am_lay_in_1
  | 2, _ => exact am_lay_in_2
  | 3, _ => exact am_lay_in_3
  | 4, _ => exact am_lay_in_4
  | 5, _ => exact am_lay_in_5
  | 6, _ => exact am_lay_in_6
  | 7, _ => exact am_lay_in_7
theorem am_vw : ∀ c, c < 8 → vwCl[c]? = some (am_cn c, am_cT c, am_nf c) := by
  intro c hc
  match c, hc with
  | 0, _ => rfl
  | 1, _ => rfl
  | 2, _ => rfl
  | 3, _ => rfl
  | 4, _ => rfl
  | 5, _ => rfl
  | 6, _ => rfl
  | 7, _ => rfl
theorem am_fl_ok {o k ci b : Nat} (h : (o, k, ci, b) ∈ am_fl) : vwCl[ci]? = some (am_cn ci, am_cT ci, am_nf ci) ∧ b < am_nf ci ∧ ∀ w ∈ u_ws (am_cn ci) (am_cT ci) (am_nf ci), w ∈ am_big := by
  have q := List.all_eq_true.mp am_fl_all _ h
  simp only [Bool.and_eq_true, decide_eq_true_eq] at q
  exact ⟨am_vw ci q.1, q.2, am_lay_in ci q.1⟩
theorem am_ty_ok {o k ci b : Nat} (h : (o, k, ci, b) ∈ am_fl) : (∀ j, j < am_nf ci → parseFieldDescriptor (am_cT ci j).2.2.1 = some (am_ty ci j)) ∧ ∀ a, a < am_nf ci → ∀ b, b < am_nf ci → a ≠ b → (am_cT ci a).2.1 ≠ (am_cT ci b).2.1 := by
  have q := List.all_eq_true.mp am_fl_all _ h
  simp only [Bool.and_eq_true, decide_eq_true_eq] at q
  match ci, q.1 with
  | 0, _ => exact ⟨tyX0_ok, nmX0⟩
  | 1, _ => exact ⟨tyX1_ok, nmX1⟩
  | 2, _ => exact ⟨tyX2_ok, nmX2⟩
  | 3, _ => exact ⟨tyX3_ok, nmX3⟩
  | 4, _ => exact ⟨tyX4_ok, nmX4⟩
  | 5, _ => exact ⟨tyX5_ok, nmX5⟩
  | 6, _ => exact ⟨tyX6_ok, nmX6⟩
  | 7, _ => exact ⟨tyX7_ok, nmX7⟩
theorem am_md_ok {z : Nat} (h0 : 0 < z) (h1 : z < am_ny) : (am_md z).1.cls = am_cn (am_ow z) ∧ ((am_md z).1.cls ≠ "java/lang/invoke/MethodHandle" ∧ (am_md z).1.cls ≠ "java/lang/invoke/VarHandle") ∧ (parseMethodDescriptor (am_md z).1.desc).map (fun d => d.parameters.length) = some (if am_st z = true then am_na z else am_na z - 1) ∧
    ((am_st z = false → Cond.instanceMethod (am_md z).1 ∈ am_big) ∧ (am_st z = false → Cond.selects (am_md z).1.cls (am_md z).1 (am_md z).1 ∈ am_big)) ∧ Cond.initialized (am_md z).1.cls ∈ am_big ∧ am_ow z < 8 := by
  have hin := am_md_in h0 h1
  have q := List.all_eq_true.mp am_okm_all _ hin
  unfold am_okm at q
  simp only [Bool.and_eq_true, decide_eq_true_eq, beq_iff_eq] at q
  obtain ⟨⟨⟨⟨⟨⟨q1, q2⟩, q3⟩, q4⟩, q5⟩, q6⟩, q7⟩ := q
  refine ⟨q1, ⟨q2, q3⟩, q6, ⟨fun h => ?_, fun h => ?_⟩, ?_, q5⟩
  · have w := am_inm_in _ hin
    unfold am_inw at w
    rwa [if_neg (by show ¬ am_st z = true; rw [h]; decide)] at w
  · exact am_se_in _ hin (by show (!am_st z) = true; rw [h]; rfl)
  · rw [q1]; exact am_ini_in q5
theorem am_md_st {z : Nat} (h0 : 0 < z) (h1 : z < am_ny) (h : am_st z = true) : Cond.static (am_md z).1 ∈ am_big := by
  have w := am_inm_in _ (am_md_in h0 h1)
  unfold am_inw at w
  rwa [if_pos (by show am_st z = true; exact h)] at w
theorem am_md_cd {z : Nat} (h0 : 0 < z) (h1 : z < am_ny) : Cond.code (am_md z).1 (am_bt z) (am_ml z) (am_re z) ∈ am_big := am_cd_in _ (am_md_in h0 h1)
theorem am_md_pl {z : Nat} (h0 : 0 < z) (h1 : z < am_ny) : plainName (am_md z).1.cls = true := by
  have q := List.all_eq_true.mp am_okm_all _ (am_md_in h0 h1)
  unfold am_okm at q
  simp only [Bool.and_eq_true, decide_eq_true_eq, beq_iff_eq] at q
  exact q.1.1.1.2
theorem am_goodw {z : Nat} (h0 : 0 < z) (h1 : z < am_ny) : GoodIn am_big (am_w z) := by
  intro w hw
  have hm : w ∈ am_big := by
    rcases List.mem_cons.mp hw with rfl | hw
    · exact am_md_cd h0 h1
    · exact hw
  exact ⟨hm, good_of_word (List.all_eq_true.mp am_big_good _ hm)⟩
theorem am_blind {D : va_G} {ad : Nat → Nat} {ca : Nat → ClassId} {tys : List (ClassId × FieldType)} {B0 : Nat} {args : List am_V} {μ : am_N} : FrameBlind (am_Pc D ad ca tys B0 args μ) := by
  intro a U g mk q
  obtain ⟨q0, q1, qP, qK, qD⟩ := q
  exact ⟨q0, q1, qP, va_K.moved (u := U) (U := U.calling g mk a) (Vm.Alike.refl U.vm) qK, qD⟩
theorem am_recv {s : State} {H : Heap} {D : va_G} {ad : Nat → Nat} {ca : Nat → ClassId} {μ : am_N} {k c : Nat} {fs : List Nat} {tys : List (ClassId × FieldType)} (hc : c < 8) (hK : va_K D vwCl tys s) (hP : va_P D vwCl (am_ws ad ca μ) H) (h : am_sh[k]? = some (c + 2, fs)) : ∃ cell : Cell, H[ad k]? = some cell ∧ cell.vm.isStatics = false ∧ s.vm.findClass (am_cn c) = some cell.cls :=
  va_recv hK hP (am_vw c hc) (am_ob h rfl)
theorem am_callW {p : Program} {l : Launch} {e : Env} {R : Room} {s : State} {m : MethodId} {args : Array Value} {below : List Frame} {meth : Method} {c : Code} {H : Heap} {locs : List Loc} {cells slots : Nat} {Qf : State → Prop} {pc : Nat} {ls : Array Slot} {rest st0 : List Value} {a : Array Value} {B0 : Nat} {Q : Option am_V → am_N → Prop} {D : va_G} {ad : Nat → Nat} {ca : Nat → ClassId}
    (hr : va_Run p l e R s m args below meth c H locs cells slots 0 0 (F0 m pc ls st0) rest (am_Q Q D ad ca B0 a) (am_A B0)) (hS : va_S (am_A B0) s.heap H locs)
    (kk : ∀ (r : Option am_V) (μ' : am_N) (H1 : Heap) (locs1 : List Loc), Q r μ' → va_P D vwCl (am_ws ad ca μ') H1 → va_D (am_A B0) (am_ws ad ca μ') → va_S (am_A B0) s.heap H1 locs1 → W p l e R s m args below meth c H1 locs1 cells slots Qf (F0 m (pc + 3) ls ((r.map (am_rv ad)).toList ++ rest))) : W p l e R s m args below meth c H locs cells slots Qf (F0 m pc ls st0) := by
  intro T hT X
  obtain ⟨v, st₀, t, T', L, h0, X', hL, e1, e2, ⟨⟨r, μ', hv, hq, hP', hD'⟩, hz, hk⟩, st⟩ := hr T hT X
  have hv := Outcome.returned.inj hv
  subst hv
  rw [h0] at hz hk
  obtain ⟨t2, a1, b1⟩ := kk r μ' T'.heap (locs ++ L) hq (by rw [e1]; exact hP') hD'
    ⟨Nat.le_trans hS.1 (by rw [e1]; exact hz), fun q h1 h2 => by rw [e1, hk q (Nat.lt_of_lt_of_le h1 hS.1) h2]; exact hS.2.1 q h1 h2, fun q hq => by
      rcases List.mem_append.mp hq with h | h
      · exact hS.2.2 q h
      · exact hL q h⟩ T' rfl X'
  exact ⟨t2, st t2 a1, b1⟩
theorem am_s_iconst {l : Launch} {L : Nat} {xs : Nat → Int} {y : Nat} {Q : Option am_V → am_N → Prop} {K : Nat → List (Option am_V) → List am_V → am_N → Prop} {pc : Nat} {lv : List (Option am_V)} {st : List am_V} {μ : am_N} {n : Int} (hk : ∀ pc lv st μ, K pc lv st μ → am_AW l L xs y Q pc lv st μ) (hd : decode (am_bt y) pc = .ok (.iconst n, 1)) (h : K (pc + 1) lv (.inl n :: st) μ) : am_AW l L xs y Q pc lv st μ := by
  intro p e R s m args below meth c D ad ca tys B0 cells slots Qf E hret H locs ls hL hP hD hS
  exact lv_iconst E.1 E.2.1 hd rfl (hk _ _ _ _ h p e R s m args below meth c D ad ca tys B0 cells slots Qf E hret H locs ls hL hP hD hS)
theorem am_s_bipush {l : Launch} {L : Nat} {xs : Nat → Int} {y : Nat} {Q : Option am_V → am_N → Prop} {K : Nat → List (Option am_V) → List am_V → am_N → Prop} {pc : Nat} {lv : List (Option am_V)} {st : List am_V} {μ : am_N} {n : Int} (hk : ∀ pc lv st μ, K pc lv st μ → am_AW l L xs y Q pc lv st μ) (hd : decode (am_bt y) pc = .ok (.bipush n, 2)) (h : K (pc + 2) lv (.inl (Int8.ofInt n).toInt32.toInt :: st) μ) : am_AW l L xs y Q pc lv st μ := by
  intro p e R s m args below meth c D ad ca tys B0 cells slots Qf E hret H locs ls hL hP hD hS
  exact lv_bipush E.1 E.2.1 hd (am_back _).symm (hk _ _ _ _ h p e R s m args below meth c D ad ca tys B0 cells slots Qf E hret H locs ls hL hP hD hS)
theorem am_s_sipush {l : Launch} {L : Nat} {xs : Nat → Int} {y : Nat} {Q : Option am_V → am_N → Prop} {K : Nat → List (Option am_V) → List am_V → am_N → Prop} {pc : Nat} {lv : List (Option am_V)} {st : List am_V} {μ : am_N} {n : Int} (hk : ∀ pc lv st μ, K pc lv st μ → am_AW l L xs y Q pc lv st μ) (hd : decode (am_bt y) pc = .ok (.sipush n, 3)) (h : K (pc + 3) lv (.inl (Int16.ofInt n).toInt32.toInt :: st) μ) : am_AW l L xs y Q pc lv st μ := by
  intro p e R s m args below meth c D ad ca tys B0 cells slots Qf E hret H locs ls hL hP hD hS
  exact lv_sipush E.1 E.2.1 hd (am_back _).symm (hk _ _ _ _ h p e R s m args below meth c D ad ca tys B0 cells slots Qf E hret H locs ls hL hP hD hS)
theorem am_s_lconst {l : Launch} {L : Nat} {xs : Nat → Int} {y : Nat} {Q : Option am_V → am_N → Prop} {K : Nat → List (Option am_V) → List am_V → am_N → Prop} {pc : Nat} {lv : List (Option am_V)} {st : List am_V} {μ : am_N} {n : Fin 2} (hk : ∀ pc lv st μ, K pc lv st μ → am_AW l L xs y Q pc lv st μ) (hd : decode (am_bt y) pc = .ok (.lconst n, 1)) (h : K (pc + 1) lv (.inr (.inl ((n : Nat) : Int)) :: st) μ) : am_AW l L xs y Q pc lv st μ := by
  intro p e R s m args below meth c D ad ca tys B0 cells slots Qf E hret H locs ls hL hP hD hS
  exact lv_lconst E.1 E.2.1 hd Int64.ofInt_eq_ofNat.symm (hk _ _ _ _ h p e R s m args below meth c D ad ca tys B0 cells slots Qf E hret H locs ls hL hP hD hS)
theorem am_s_ldc {l : Launch} {L : Nat} {xs : Nat → Int} {y : Nat} {Q : Option am_V → am_N → Prop} {K : Nat → List (Option am_V) → List am_V → am_N → Prop} {pc : Nat} {lv : List (Option am_V)} {st : List am_V} {μ : am_N} {k : Nat} {v : Int} (hk : ∀ pc lv st μ, K pc lv st μ → am_AW l L xs y Q pc lv st μ) (hd : decode (am_bt y) pc = .ok (.ldc k, 2)) (hf : (am_ow y, k, v) ∈ am_co) (h : K (pc + 2) lv (.inl v :: st) μ) : am_AW l L xs y Q pc lv st μ := by
  intro p e R s m args below meth c D ad ca tys B0 cells slots Qf E hret H locs ls hL hP hD hS
  exact lv_ldc E.1 E.2.1 E.2.2.2.1 (E.2.2.2.2.1 _ (am_co_in _ hf)) hd (hk _ _ _ _ h p e R s m args below meth c D ad ca tys B0 cells slots Qf E hret H locs ls hL hP hD hS)
theorem am_s_ldc_w {l : Launch} {L : Nat} {xs : Nat → Int} {y : Nat} {Q : Option am_V → am_N → Prop} {K : Nat → List (Option am_V) → List am_V → am_N → Prop} {pc : Nat} {lv : List (Option am_V)} {st : List am_V} {μ : am_N} {k : Nat} {v : Int} (hk : ∀ pc lv st μ, K pc lv st μ → am_AW l L xs y Q pc lv st μ) (hd : decode (am_bt y) pc = .ok (.ldc_w k, 3)) (hf : (am_ow y, k, v) ∈ am_co) (h : K (pc + 3) lv (.inl v :: st) μ) : am_AW l L xs y Q pc lv st μ := by
  intro p e R s m args below meth c D ad ca tys B0 cells slots Qf E hret H locs ls hL hP hD hS
  exact lv_ldcw E.1 E.2.1 E.2.2.2.1 (E.2.2.2.2.1 _ (am_co_in _ hf)) hd (hk _ _ _ _ h p e R s m args below meth c D ad ca tys B0 cells slots Qf E hret H locs ls hL hP hD hS)
theorem am_s_ldc2 {l : Launch} {L : Nat} {xs : Nat → Int} {y : Nat} {Q : Option am_V → am_N → Prop} {K : Nat → List (Option am_V) → List am_V → am_N → Prop} {pc : Nat} {lv : List (Option am_V)} {st : List am_V} {μ : am_N} {k : Nat} {v : Int} (hk : ∀ pc lv st μ, K pc lv st μ → am_AW l L xs y Q pc lv st μ) (hd : decode (am_bt y) pc = .ok (.ldc2_w k, 3)) (hf : (am_ow y, k, v) ∈ am_cl) (h : K (pc + 3) lv (.inr (.inl v) :: st) μ) : am_AW l L xs y Q pc lv st μ := by
  intro p e R s m args below meth c D ad ca tys B0 cells slots Qf E hret H locs ls hL hP hD hS
  exact lv_ldc2 E.1 E.2.1 E.2.2.2.1 (E.2.2.2.2.1 _ (am_cl_in _ hf)) hd (hk _ _ _ _ h p e R s m args below meth c D ad ca tys B0 cells slots Qf E hret H locs ls hL hP hD hS)
theorem am_s_iload {l : Launch} {L : Nat} {xs : Nat → Int} {y : Nat} {Q : Option am_V → am_N → Prop} {K : Nat → List (Option am_V) → List am_V → am_N → Prop} {pc : Nat} {lv : List (Option am_V)} {st : List am_V} {μ : am_N} {k : Nat} (hk : ∀ pc lv st μ, K pc lv st μ → am_AW l L xs y Q pc lv st μ) (hd : decode (am_bt y) pc = .ok (.iload k, 2)) (h : am_stp l L xs y Q K (pc + 2, 2, k, 0, 0, 0, []) lv st μ) : am_AW l L xs y Q pc lv st μ := by
  simp only [am_stp] at h
  split at h
  · rename_i v hv
    intro p e R s m args below meth c D ad ca tys B0 cells slots Qf E hret H locs ls hL hP hD hS
    exact lv_iload E.1 E.2.1 hd (hL.2.2.1 _ _ hv) (hk _ _ _ _ h p e R s m args below meth c D ad ca tys B0 cells slots Qf E hret H locs ls hL hP hD hS)
  · exact h.elim
theorem am_s_iload_n {l : Launch} {L : Nat} {xs : Nat → Int} {y : Nat} {Q : Option am_V → am_N → Prop} {K : Nat → List (Option am_V) → List am_V → am_N → Prop} {pc : Nat} {lv : List (Option am_V)} {st : List am_V} {μ : am_N} {k : Fin 4} (hk : ∀ pc lv st μ, K pc lv st μ → am_AW l L xs y Q pc lv st μ) (hd : decode (am_bt y) pc = .ok (.iload_n k, 1)) (h : am_stp l L xs y Q K (pc + 1, 2, (k : Nat), 0, 0, 0, []) lv st μ) : am_AW l L xs y Q pc lv st μ := by
  simp only [am_stp] at h
  split at h
  · rename_i v hv
    intro p e R s m args below meth c D ad ca tys B0 cells slots Qf E hret H locs ls hL hP hD hS
    exact lv_iload_n E.1 E.2.1 hd rfl (hL.2.2.1 _ _ hv) (hk _ _ _ _ h p e R s m args below meth c D ad ca tys B0 cells slots Qf E hret H locs ls hL hP hD hS)
  · exact h.elim
theorem am_s_lload {l : Launch} {L : Nat} {xs : Nat → Int} {y : Nat} {Q : Option am_V → am_N → Prop} {K : Nat → List (Option am_V) → List am_V → am_N → Prop} {pc : Nat} {lv : List (Option am_V)} {st : List am_V} {μ : am_N} {k : Nat} (hk : ∀ pc lv st μ, K pc lv st μ → am_AW l L xs y Q pc lv st μ) (hd : decode (am_bt y) pc = .ok (.lload k, 2)) (h : am_stp l L xs y Q K (pc + 2, 4, k, 0, 0, 0, []) lv st μ) : am_AW l L xs y Q pc lv st μ := by
  simp only [am_stp] at h
  split at h
  · rename_i v hv
    intro p e R s m args below meth c D ad ca tys B0 cells slots Qf E hret H locs ls hL hP hD hS
    exact lv_lload E.1 E.2.1 hd (hL.2.2.1 _ _ hv) (hk _ _ _ _ h p e R s m args below meth c D ad ca tys B0 cells slots Qf E hret H locs ls hL hP hD hS)
  · exact h.elim
theorem am_s_lload_n {l : Launch} {L : Nat} {xs : Nat → Int} {y : Nat} {Q : Option am_V → am_N → Prop} {K : Nat → List (Option am_V) → List am_V → am_N → Prop} {pc : Nat} {lv : List (Option am_V)} {st : List am_V} {μ : am_N} {k : Fin 4} (hk : ∀ pc lv st μ, K pc lv st μ → am_AW l L xs y Q pc lv st μ) (hd : decode (am_bt y) pc = .ok (.lload_n k, 1)) (h : am_stp l L xs y Q K (pc + 1, 4, (k : Nat), 0, 0, 0, []) lv st μ) : am_AW l L xs y Q pc lv st μ := by
  simp only [am_stp] at h
  split at h
  · rename_i v hv
    intro p e R s m args below meth c D ad ca tys B0 cells slots Qf E hret H locs ls hL hP hD hS
    exact lv_lload_n E.1 E.2.1 hd rfl (hL.2.2.1 _ _ hv) (hk _ _ _ _ h p e R s m args below meth c D ad ca tys B0 cells slots Qf E hret H locs ls hL hP hD hS)
  · exact h.elim
theorem am_s_aload {l : Launch} {L : Nat} {xs : Nat → Int} {y : Nat} {Q : Option am_V → am_N → Prop} {K : Nat → List (Option am_V) → List am_V → am_N → Prop} {pc : Nat} {lv : List (Option am_V)} {st : List am_V} {μ : am_N} {k : Nat} (hk : ∀ pc lv st μ, K pc lv st μ → am_AW l L xs y Q pc lv st μ) (hd : decode (am_bt y) pc = .ok (.aload k, 2)) (h : am_stp l L xs y Q K (pc + 2, 6, k, 0, 0, 0, []) lv st μ) : am_AW l L xs y Q pc lv st μ := by
  simp only [am_stp] at h
  split at h
  · rename_i v hv
    intro p e R s m args below meth c D ad ca tys B0 cells slots Qf E hret H locs ls hL hP hD hS
    exact lv_aload E.1 E.2.1 hd (hL.2.2.1 _ _ hv) (hk _ _ _ _ h p e R s m args below meth c D ad ca tys B0 cells slots Qf E hret H locs ls hL hP hD hS)
  · exact h.elim
theorem am_s_aload_n {l : Launch} {L : Nat} {xs : Nat → Int} {y : Nat} {Q : Option am_V → am_N → Prop} {K : Nat → List (Option am_V) → List am_V → am_N → Prop} {pc : Nat} {lv : List (Option am_V)} {st : List am_V} {μ : am_N} {k : Fin 4} (hk : ∀ pc lv st μ, K pc lv st μ → am_AW l L xs y Q pc lv st μ) (hd : decode (am_bt y) pc = .ok (.aload_n k, 1)) (h : am_stp l L xs y Q K (pc + 1, 6, (k : Nat), 0, 0, 0, []) lv st μ) : am_AW l L xs y Q pc lv st μ := by
  simp only [am_stp] at h
  split at h
  · rename_i v hv
    intro p e R s m args below meth c D ad ca tys B0 cells slots Qf E hret H locs ls hL hP hD hS
    exact lv_aload_n E.1 E.2.1 hd rfl (hL.2.2.1 _ _ hv) (hk _ _ _ _ h p e R s m args below meth c D ad ca tys B0 cells slots Qf E hret H locs ls hL hP hD hS)
  · exact h.elim
theorem am_s_istore {l : Launch} {L : Nat} {xs : Nat → Int} {y : Nat} {Q : Option am_V → am_N → Prop} {K : Nat → List (Option am_V) → List am_V → am_N → Prop} {pc : Nat} {lv : List (Option am_V)} {st : List am_V} {μ : am_N} {k : Nat} (hk : ∀ pc lv st μ, K pc lv st μ → am_AW l L xs y Q pc lv st μ) (hd : decode (am_bt y) pc = .ok (.istore k, 2)) (h : am_stp l L xs y Q K (pc + 2, 3, k, 0, 0, 0, []) lv st μ) : am_AW l L xs y Q pc lv st μ := by
  simp only [am_stp] at h
  split at h
  · rename_i v r
    obtain ⟨h0, h⟩ := am_ifb h
    obtain ⟨h1, h2⟩ := am_bb h0
    have h1 := Nat.le_of_ble_eq_true h1
    intro p e R s m args below meth c D ad ca tys B0 cells slots Qf E hret H locs ls hL hP hD hS
    exact lv_istore E.1 E.2.1 hd hL.has (by rw [← hL.2.2.2]; exact h1) rfl (fun ls' hl' => hk _ _ _ _ h p e R s m args below meth c D ad ca tys B0 cells slots Qf E hret H locs ls' (am_L1 (v := Sum.inl v) hL.2.2.2 h2 hl') hP hD hS)
  · exact h.elim
theorem am_s_istore_n {l : Launch} {L : Nat} {xs : Nat → Int} {y : Nat} {Q : Option am_V → am_N → Prop} {K : Nat → List (Option am_V) → List am_V → am_N → Prop} {pc : Nat} {lv : List (Option am_V)} {st : List am_V} {μ : am_N} {k : Fin 4} (hk : ∀ pc lv st μ, K pc lv st μ → am_AW l L xs y Q pc lv st μ) (hd : decode (am_bt y) pc = .ok (.istore_n k, 1)) (h : am_stp l L xs y Q K (pc + 1, 3, (k : Nat), 0, 0, 0, []) lv st μ) : am_AW l L xs y Q pc lv st μ := by
  simp only [am_stp] at h
  split at h
  · rename_i v r
    obtain ⟨h0, h⟩ := am_ifb h
    obtain ⟨h1, h2⟩ := am_bb h0
    have h1 := Nat.le_of_ble_eq_true h1
    intro p e R s m args below meth c D ad ca tys B0 cells slots Qf E hret H locs ls hL hP hD hS
    exact lv_istore_n E.1 E.2.1 hd rfl hL.has (by rw [← hL.2.2.2]; exact h1) rfl (fun ls' hl' => hk _ _ _ _ h p e R s m args below meth c D ad ca tys B0 cells slots Qf E hret H locs ls' (am_L1 (v := Sum.inl v) hL.2.2.2 h2 hl') hP hD hS)
  · exact h.elim
theorem am_s_lstore {l : Launch} {L : Nat} {xs : Nat → Int} {y : Nat} {Q : Option am_V → am_N → Prop} {K : Nat → List (Option am_V) → List am_V → am_N → Prop} {pc : Nat} {lv : List (Option am_V)} {st : List am_V} {μ : am_N} {k : Nat} (hk : ∀ pc lv st μ, K pc lv st μ → am_AW l L xs y Q pc lv st μ) (hd : decode (am_bt y) pc = .ok (.lstore k, 2)) (h : am_stp l L xs y Q K (pc + 2, 5, k, 0, 0, 0, []) lv st μ) : am_AW l L xs y Q pc lv st μ := by
  simp only [am_stp] at h
  split at h
  · rename_i v r
    obtain ⟨h0, h⟩ := am_ifb h
    obtain ⟨h1, h2⟩ := am_bb h0
    have h1 := Nat.le_of_ble_eq_true h1
    intro p e R s m args below meth c D ad ca tys B0 cells slots Qf E hret H locs ls hL hP hD hS
    exact lv_lstore E.1 E.2.1 hd hL.has (by rw [← hL.2.2.2]; exact h1) rfl (fun ls' hl' => hk _ _ _ _ h p e R s m args below meth c D ad ca tys B0 cells slots Qf E hret H locs ls' (am_L2 (v := Sum.inr (Sum.inl v)) hL.2.2.2 h2 hl') hP hD hS)
  · exact h.elim
theorem am_s_lstore_n {l : Launch} {L : Nat} {xs : Nat → Int} {y : Nat} {Q : Option am_V → am_N → Prop} {K : Nat → List (Option am_V) → List am_V → am_N → Prop} {pc : Nat} {lv : List (Option am_V)} {st : List am_V} {μ : am_N} {k : Fin 4} (hk : ∀ pc lv st μ, K pc lv st μ → am_AW l L xs y Q pc lv st μ) (hd : decode (am_bt y) pc = .ok (.lstore_n k, 1)) (h : am_stp l L xs y Q K (pc + 1, 5, (k : Nat), 0, 0, 0, []) lv st μ) : am_AW l L xs y Q pc lv st μ := by
  simp only [am_stp] at h
  split at h
  · rename_i v r
    obtain ⟨h0, h⟩ := am_ifb h
    obtain ⟨h1, h2⟩ := am_bb h0
    have h1 := Nat.le_of_ble_eq_true h1
    intro p e R s m args below meth c D ad ca tys B0 cells slots Qf E hret H locs ls hL hP hD hS
    exact lv_lstore_n E.1 E.2.1 hd rfl hL.has (by rw [← hL.2.2.2]; exact h1) rfl (fun ls' hl' => hk _ _ _ _ h p e R s m args below meth c D ad ca tys B0 cells slots Qf E hret H locs ls' (am_L2 (v := Sum.inr (Sum.inl v)) hL.2.2.2 h2 hl') hP hD hS)
  · exact h.elim
theorem am_s_iinc {l : Launch} {L : Nat} {xs : Nat → Int} {y : Nat} {Q : Option am_V → am_N → Prop} {K : Nat → List (Option am_V) → List am_V → am_N → Prop} {pc : Nat} {lv : List (Option am_V)} {st : List am_V} {μ : am_N} {k : Nat} {n : Int} (hk : ∀ pc lv st μ, K pc lv st μ → am_AW l L xs y Q pc lv st μ) (hd : decode (am_bt y) pc = .ok (.iinc k n, 3)) (h : am_stp l L xs y Q K (pc + 3, 24, k, 0, 0, n, []) lv st μ) : am_AW l L xs y Q pc lv st μ := by
  simp only [am_stp] at h
  split at h
  · rename_i v hv
    obtain ⟨h2, h⟩ := am_ifb h
    intro p e R s m args below meth c D ad ca tys B0 cells slots Qf E hret H locs ls hL hP hD hS
    obtain ⟨j, hj⟩ := List.getElem?_of_mem (am_prs_in (ad := ad) (q := (k, .int (Int32.ofInt v))) |>.mpr ⟨.inl v, hv, rfl⟩)
    exact lv_iinc (v := Int32.ofInt (v + n)) E.1 E.2.1 hd hL.has hj (by rw [Int32.ofInt_add]) (by rw [← hL.2.2.2]; exact (List.getElem?_eq_some_iff.mp hv).1) rfl (fun ls' hl' => hk _ _ _ _ h p e R s m args below meth c D ad ca tys B0 cells slots Qf E hret H locs ls' (am_L1 (v := Sum.inl (v + n)) hL.2.2.2 h2 hl') hP hD hS)
  · exact h.elim
theorem am_s_getfield {l : Launch} {L : Nat} {xs : Nat → Int} {y : Nat} {Q : Option am_V → am_N → Prop} {K : Nat → List (Option am_V) → List am_V → am_N → Prop} {pc : Nat} {lv : List (Option am_V)} {st : List am_V} {μ : am_N} {k ci b : Nat} (hk : ∀ pc lv st μ, K pc lv st μ → am_AW l L xs y Q pc lv st μ) (hd : decode (am_bt y) pc = .ok (.getfield k, 3)) (hf : (am_ow y, k, ci, b) ∈ am_fl) (h : am_stp l L xs y Q K (pc + 3, 7, ci, b, 0, 0, []) lv st μ) : am_AW l L xs y Q pc lv st μ := by
  simp only [am_stp] at h
  split at h
  · rename_i a r
    split at h
    · rename_i t fs hsh
      obtain ⟨ht, h⟩ := am_ifb h
      have ht := Nat.eq_of_beq_eq_true ht
      split at h
      · rename_i hb
        intro p e R s m args below meth c D ad ca tys B0 cells slots Qf E hret H locs ls hL hP hD hS
        obtain ⟨hc, hk1, hk2⟩ := am_fl_ok hf
        exact va_get (D := D) (v := .int (Int32.ofInt (μ a b))) E.1 E.2.1 E.2.2.2.2.1 hk2 E.2.2.2.1 E.2.2.2.2.2.1 hP a (am_ob hsh ht) hc b hk1 (E.2.2.2.2.1 _ (am_fl_in _ hf)) (fun _ h9 => h9) (am_ob_at hb) hd (hk _ _ _ _ h p e R s m args below meth c D ad ca tys B0 cells slots Qf E hret H locs ls hL hP hD hS)
      · rename_i j hb
        intro p e R s m args below meth c D ad ca tys B0 cells slots Qf E hret H locs ls hL hP hD hS
        obtain ⟨hc, hk1, hk2⟩ := am_fl_ok hf
        exact va_get (D := D) (v := .ref (ad j)) E.1 E.2.1 E.2.2.2.2.1 hk2 E.2.2.2.1 E.2.2.2.2.2.1 hP a (am_ob hsh ht) hc b hk1 (E.2.2.2.2.1 _ (am_fl_in _ hf)) (fun _ h9 => h9) (am_ob_at hb) hd (hk _ _ _ _ h p e R s m args below meth c D ad ca tys B0 cells slots Qf E hret H locs ls hL hP hD hS)
      · exact h.elim
    · exact h.elim
  · exact h.elim
theorem am_s_putfield {l : Launch} {L : Nat} {xs : Nat → Int} {y : Nat} {Q : Option am_V → am_N → Prop} {K : Nat → List (Option am_V) → List am_V → am_N → Prop} {pc : Nat} {lv : List (Option am_V)} {st : List am_V} {μ : am_N} {k ci b : Nat} (hk : ∀ pc lv st μ, K pc lv st μ → am_AW l L xs y Q pc lv st μ) (hd : decode (am_bt y) pc = .ok (.putfield k, 3)) (hf : (am_ow y, k, ci, b) ∈ am_fl) (hfin : (am_cT ci b).2.2.2 = false) (hty : am_ty ci b = .int) (h : am_stp l L xs y Q K (pc + 3, 8, ci, b, 0, 0, []) lv st μ) : am_AW l L xs y Q pc lv st μ := by
  simp only [am_stp] at h
  split at h
  · rename_i v a r
    split at h
    · rename_i t fs hsh
      obtain ⟨ht, h⟩ := am_ifb h
      have ht := Nat.eq_of_beq_eq_true ht
      split at h
      · rename_i hb
        intro p e R s m args below meth c D ad ca tys B0 cells slots Qf E hret H locs ls hL hP hD hS
        obtain ⟨hc, hk1, hk2⟩ := am_fl_ok hf
        obtain ⟨q1, q2⟩ := am_ty_ok hf
        refine va_put (D := D) (ty := .int) (v := .int (Int32.ofInt v)) E.1 E.2.1 E.2.2.2.2.1 hk2 (am_ty ci) q1 q2 E.2.2.2.1 E.2.2.2.2.2.1 hP hD hS a (am_ob hsh ht) hc b hk1 (E.2.2.2.2.1 _ (am_fl_in _ hf)) (fun _ h9 => h9) hfin (by rw [q1 b hk1, hty]) rfl rfl (by rw [List.length_mapIdx]; exact (List.getElem?_eq_some_iff.mp hb).1) hd (fun H1 locs1 hP hD hS => ?_)
        rw [am_ob_set hsh ht hb] at hP hD
        exact hk _ _ _ _ h p e R s m args below meth c D ad ca tys B0 cells slots Qf E hret H1 locs1 ls hL hP hD hS
      · exact h.elim
    · exact h.elim
  · exact h.elim
theorem am_s_putfieldz {l : Launch} {L : Nat} {xs : Nat → Int} {y : Nat} {Q : Option am_V → am_N → Prop} {K : Nat → List (Option am_V) → List am_V → am_N → Prop} {pc : Nat} {lv : List (Option am_V)} {st : List am_V} {μ : am_N} {k ci b : Nat} (hk : ∀ pc lv st μ, K pc lv st μ → am_AW l L xs y Q pc lv st μ) (hd : decode (am_bt y) pc = .ok (.putfield k, 3)) (hf : (am_ow y, k, ci, b) ∈ am_fl) (hfin : (am_cT ci b).2.2.2 = false) (hty : am_ty ci b = .boolean) (h : am_stp l L xs y Q K (pc + 3, 8, ci, b, 1, 0, []) lv st μ) : am_AW l L xs y Q pc lv st μ := by
  simp only [am_stp] at h
  split at h
  · rename_i v a r
    split at h
    · rename_i t fs hsh
      obtain ⟨ht, h⟩ := am_ifb h
      have ht := Nat.eq_of_beq_eq_true ht
      split at h
      · rename_i hb
        obtain ⟨h3, h⟩ := h
        intro p e R s m args below meth c D ad ca tys B0 cells slots Qf E hret H locs ls hL hP hD hS
        obtain ⟨hc, hk1, hk2⟩ := am_fl_ok hf
        obtain ⟨q1, q2⟩ := am_ty_ok hf
        refine va_put (D := D) (ty := .boolean) (v := .int (Int32.ofInt v)) E.1 E.2.1 E.2.2.2.2.1 hk2 (am_ty ci) q1 q2 E.2.2.2.1 E.2.2.2.2.2.1 hP hD hS a (am_ob hsh ht) hc b hk1 (E.2.2.2.2.1 _ (am_fl_in _ hf)) (fun _ h9 => h9) hfin (by rw [q1 b hk1, hty]) (am_nz h3) (am_fz h3) (by rw [List.length_mapIdx]; exact (List.getElem?_eq_some_iff.mp hb).1) hd (fun H1 locs1 hP hD hS => ?_)
        rw [am_ob_set hsh ht hb] at hP hD
        exact hk _ _ _ _ h p e R s m args below meth c D ad ca tys B0 cells slots Qf E hret H1 locs1 ls hL hP hD hS
      · exact h.elim
    · exact h.elim
  · exact h.elim
theorem am_s_iaload {l : Launch} {L : Nat} {xs : Nat → Int} {y : Nat} {Q : Option am_V → am_N → Prop} {K : Nat → List (Option am_V) → List am_V → am_N → Prop} {pc : Nat} {lv : List (Option am_V)} {st : List am_V} {μ : am_N}  (hk : ∀ pc lv st μ, K pc lv st μ → am_AW l L xs y Q pc lv st μ) (hd : decode (am_bt y) pc = .ok (.iaload, 1)) (h : am_stp l L xs y Q K (pc + 1, 9, 0, 0, 0, 0, []) lv st μ) : am_AW l L xs y Q pc lv st μ := by
  simp only [am_stp] at h
  split at h
  · rename_i i k r
    split at h
    · rename_i n w hsh
      obtain ⟨h1, h⟩ := h
      intro p e R s m args below meth c D ad ca tys B0 cells slots Qf E hret H locs ls hL hP hD hS
      obtain ⟨t0, ht0⟩ := (E.2.2.2.2.2.2.1 k _ hsh).1 rfl
      have kk := hk _ _ _ _ h p e R s m args below meth c D ad ca tys B0 cells slots Qf E hret H locs ls hL hP hD hS
      refine va_iald E.1 E.2.1 E.2.2.2.2.2.1 hP k t0 (am_ar hsh) ht0 (am_in h1) hd ?_
      rw [am_cl_nat]
      exact kk
    · exact h.elim
    · rename_i hsh
      obtain ⟨⟨h0, rfl⟩, h1, h⟩ := h
      intro p e R s m args below meth c D ad ca tys B0 cells slots Qf E hret H locs ls hL hP hD hS
      obtain ⟨s1, s2, s3⟩ := E.2.2.2.2.2.2.2.2.2.2.2.2 h0
      have kk := hk _ _ _ _ h p e R s m args below meth c D ad ca tys B0 cells slots Qf E hret H locs ls hL hP hD hS
      refine va_sld E.1 E.2.1 s1 s2 (Nat.not_le.mpr s3) hS (am_in h1) hd ?_
      rw [am_cl_nat]
      exact kk
  · exact h.elim
theorem am_s_iastore {l : Launch} {L : Nat} {xs : Nat → Int} {y : Nat} {Q : Option am_V → am_N → Prop} {K : Nat → List (Option am_V) → List am_V → am_N → Prop} {pc : Nat} {lv : List (Option am_V)} {st : List am_V} {μ : am_N}  (hk : ∀ pc lv st μ, K pc lv st μ → am_AW l L xs y Q pc lv st μ) (hd : decode (am_bt y) pc = .ok (.iastore, 1)) (h : am_stp l L xs y Q K (pc + 1, 10, 0, 0, 0, 0, []) lv st μ) : am_AW l L xs y Q pc lv st μ := by
  simp only [am_stp] at h
  split at h
  · rename_i v i k r
    split at h
    · rename_i n w hsh
      obtain ⟨h1, h⟩ := h
      intro p e R s m args below meth c D ad ca tys B0 cells slots Qf E hret H locs ls hL hP hD hS
      obtain ⟨t0, ht0⟩ := (E.2.2.2.2.2.2.1 k _ hsh).1 rfl
      refine va_iast E.1 E.2.1 E.2.2.2.2.2.1 hP hD hS k t0 (am_ar hsh) ht0 (am_in h1) hd (fun H1 locs1 hP hD hS => ?_)
      rw [am_ar_set hsh, am_cl_nat] at hP hD
      exact hk _ _ _ _ h p e R s m args below meth c D ad ca tys B0 cells slots Qf E hret H1 locs1 ls hL hP hD hS
    · exact h.elim
  · exact h.elim
theorem am_s_aaload {l : Launch} {L : Nat} {xs : Nat → Int} {y : Nat} {Q : Option am_V → am_N → Prop} {K : Nat → List (Option am_V) → List am_V → am_N → Prop} {pc : Nat} {lv : List (Option am_V)} {st : List am_V} {μ : am_N}  (hk : ∀ pc lv st μ, K pc lv st μ → am_AW l L xs y Q pc lv st μ) (hd : decode (am_bt y) pc = .ok (.aaload, 1)) (h : am_stp l L xs y Q K (pc + 1, 11, 0, 0, 0, 0, []) lv st μ) : am_AW l L xs y Q pc lv st μ := by
  simp only [am_stp] at h
  split at h
  · rename_i i k r
    split at h
    · rename_i fs hsh
      obtain ⟨h1, h⟩ := h
      intro p e R s m args below meth c D ad ca tys B0 cells slots Qf E hret H locs ls hL hP hD hS
      obtain ⟨t0, ht0⟩ := (E.2.2.2.2.2.2.1 k _ hsh).2 rfl
      have hin := am_in (i := i) (n := fs.length) h1
      have hlt : (Int32.ofInt i).toNatClampNeg < fs.length := Nat.not_le.mp fun q => hin (Or.inr q)
      have hlt2 : (am_c i).toNat < fs.length := by rw [← am_cl_nat]; exact hlt
      have hj := List.getElem?_eq_getElem hlt2
      have kk := hk _ _ _ _ (h _ hj) p e R s m args below meth c D ad ca tys B0 cells slots Qf E hret H locs ls hL hP hD hS
      refine W.aald (v := va_rf ((fs[(Int32.ofInt i).toNatClampNeg]?).map ad)) (ty := .array .int) E.1 E.2.1 (hP k _ (am_arq hsh)) ((E.2.2.2.2.2.1.2 t0 _ ht0).1 fs.length (fun j => va_rf ((fs[j]?).map ad))) rfl (fun q => by cases q) (by show ¬ (_ < 0 ∨ (arrV _ _ _).slots.size ≤ _); rw [arrV_size]; exact hin) (by show (arrV _ _ _).slots[_]? = _; rw [arrV_read _ _ hlt]) rfl rfl hd ?_
      rw [am_cl_nat, hj]
      exact kk
    · exact h.elim
  · exact h.elim
theorem am_s_alen {l : Launch} {L : Nat} {xs : Nat → Int} {y : Nat} {Q : Option am_V → am_N → Prop} {K : Nat → List (Option am_V) → List am_V → am_N → Prop} {pc : Nat} {lv : List (Option am_V)} {st : List am_V} {μ : am_N}  (hk : ∀ pc lv st μ, K pc lv st μ → am_AW l L xs y Q pc lv st μ) (hd : decode (am_bt y) pc = .ok (.arraylength, 1)) (h : am_stp l L xs y Q K (pc + 1, 12, 0, 0, 0, 0, []) lv st μ) : am_AW l L xs y Q pc lv st μ := by
  simp only [am_stp] at h
  split at h
  · rename_i k r
    split at h
    · rename_i n w hsh
      intro p e R s m args below meth c D ad ca tys B0 cells slots Qf E hret H locs ls hL hP hD hS
      obtain ⟨t0, ht0⟩ := (E.2.2.2.2.2.2.1 k _ hsh).1 rfl
      exact va_alen (v := Int32.ofInt (n : Int)) E.1 E.2.1 E.2.2.2.2.2.1 hP k t0 (am_ar hsh) ht0 (am_ofNat n) hd (hk _ _ _ _ h p e R s m args below meth c D ad ca tys B0 cells slots Qf E hret H locs ls hL hP hD hS)
    · rename_i fs hsh
      intro p e R s m args below meth c D ad ca tys B0 cells slots Qf E hret H locs ls hL hP hD hS
      obtain ⟨t0, ht0⟩ := (E.2.2.2.2.2.2.1 k _ hsh).2 rfl
      exact va_alen (v := Int32.ofInt (fs.length : Int)) E.1 E.2.1 E.2.2.2.2.2.1 hP k t0 (am_arq hsh) ht0 (am_ofNat fs.length) hd (hk _ _ _ _ h p e R s m args below meth c D ad ca tys B0 cells slots Qf E hret H locs ls hL hP hD hS)
    · exact h.elim
    · rename_i hsh
      obtain ⟨⟨h0, rfl⟩, h⟩ := h
      intro p e R s m args below meth c D ad ca tys B0 cells slots Qf E hret H locs ls hL hP hD hS
      obtain ⟨s1, s2, s3⟩ := E.2.2.2.2.2.2.2.2.2.2.2.2 h0
      have kk := hk _ _ _ _ h p e R s m args below meth c D ad ca tys B0 cells slots Qf E hret H locs ls hL hP hD hS
      refine va_slen E.1 E.2.1 s1 s2 (Nat.not_le.mpr s3) hS hd ?_
      rw [am_ofNat L]
      exact kk
  · exact h.elim
theorem am_s_iadd {l : Launch} {L : Nat} {xs : Nat → Int} {y : Nat} {Q : Option am_V → am_N → Prop} {K : Nat → List (Option am_V) → List am_V → am_N → Prop} {pc : Nat} {lv : List (Option am_V)} {st : List am_V} {μ : am_N}  (hk : ∀ pc lv st μ, K pc lv st μ → am_AW l L xs y Q pc lv st μ) (hd : decode (am_bt y) pc = .ok (.iadd, 1)) (h : am_stp l L xs y Q K (pc + 1, 13, 0, 0, 0, 0, []) lv st μ) : am_AW l L xs y Q pc lv st μ := by
  simp only [am_stp] at h
  split at h
  · rename_i v u r
    intro p e R s m args below meth c D ad ca tys B0 cells slots Qf E hret H locs ls hL hP hD hS
    have kk : W p l e R s m args below meth c H locs cells slots Qf (F0 m (pc + 1) ls (.int (Int32.ofInt _) :: r.map (am_rv ad))) := hk _ _ _ _ h p e R s m args below meth c D ad ca tys B0 cells slots Qf E hret H locs ls hL hP hD hS
    rw [Int32.ofInt_add] at kk
    exact lv_iadd E.1 E.2.1 hd kk
  · exact h.elim
theorem am_s_isub {l : Launch} {L : Nat} {xs : Nat → Int} {y : Nat} {Q : Option am_V → am_N → Prop} {K : Nat → List (Option am_V) → List am_V → am_N → Prop} {pc : Nat} {lv : List (Option am_V)} {st : List am_V} {μ : am_N}  (hk : ∀ pc lv st μ, K pc lv st μ → am_AW l L xs y Q pc lv st μ) (hd : decode (am_bt y) pc = .ok (.isub, 1)) (h : am_stp l L xs y Q K (pc + 1, 14, 0, 0, 0, 0, []) lv st μ) : am_AW l L xs y Q pc lv st μ := by
  simp only [am_stp] at h
  split at h
  · rename_i v u r
    intro p e R s m args below meth c D ad ca tys B0 cells slots Qf E hret H locs ls hL hP hD hS
    have kk : W p l e R s m args below meth c H locs cells slots Qf (F0 m (pc + 1) ls (.int (Int32.ofInt _) :: r.map (am_rv ad))) := hk _ _ _ _ h p e R s m args below meth c D ad ca tys B0 cells slots Qf E hret H locs ls hL hP hD hS
    rw [Int32.ofInt_sub] at kk
    exact lv_isub E.1 E.2.1 hd kk
  · exact h.elim
theorem am_s_imul {l : Launch} {L : Nat} {xs : Nat → Int} {y : Nat} {Q : Option am_V → am_N → Prop} {K : Nat → List (Option am_V) → List am_V → am_N → Prop} {pc : Nat} {lv : List (Option am_V)} {st : List am_V} {μ : am_N}  (hk : ∀ pc lv st μ, K pc lv st μ → am_AW l L xs y Q pc lv st μ) (hd : decode (am_bt y) pc = .ok (.imul, 1)) (h : am_stp l L xs y Q K (pc + 1, 15, 0, 0, 0, 0, []) lv st μ) : am_AW l L xs y Q pc lv st μ := by
  simp only [am_stp] at h
  split at h
  · rename_i v u r
    intro p e R s m args below meth c D ad ca tys B0 cells slots Qf E hret H locs ls hL hP hD hS
    have kk : W p l e R s m args below meth c H locs cells slots Qf (F0 m (pc + 1) ls (.int (Int32.ofInt _) :: r.map (am_rv ad))) := hk _ _ _ _ h p e R s m args below meth c D ad ca tys B0 cells slots Qf E hret H locs ls hL hP hD hS
    rw [Int32.ofInt_mul] at kk
    exact lv_imul E.1 E.2.1 hd kk
  · exact h.elim
theorem am_s_idiv {l : Launch} {L : Nat} {xs : Nat → Int} {y : Nat} {Q : Option am_V → am_N → Prop} {K : Nat → List (Option am_V) → List am_V → am_N → Prop} {pc : Nat} {lv : List (Option am_V)} {st : List am_V} {μ : am_N}  (hk : ∀ pc lv st μ, K pc lv st μ → am_AW l L xs y Q pc lv st μ) (hd : decode (am_bt y) pc = .ok (.idiv, 1)) (h : am_stp l L xs y Q K (pc + 1, 16, 0, 0, 0, 0, []) lv st μ) : am_AW l L xs y Q pc lv st μ := by
  simp only [am_stp] at h
  split at h
  · rename_i v u r
    obtain ⟨h1, h⟩ := h
    intro p e R s m args below meth c D ad ca tys B0 cells slots Qf E hret H locs ls hL hP hD hS
    have kk : W p l e R s m args below meth c H locs cells slots Qf (F0 m (pc + 1) ls (.int (Int32.ofInt _) :: r.map (am_rv ad))) := hk _ _ _ _ h p e R s m args below meth c D ad ca tys B0 cells slots Qf E hret H locs ls hL hP hD hS
    rw [← am_div32] at kk
    exact lv_idiv E.1 E.2.1 hd (am_ne0 h1) kk
  · exact h.elim
theorem am_s_irem {l : Launch} {L : Nat} {xs : Nat → Int} {y : Nat} {Q : Option am_V → am_N → Prop} {K : Nat → List (Option am_V) → List am_V → am_N → Prop} {pc : Nat} {lv : List (Option am_V)} {st : List am_V} {μ : am_N}  (hk : ∀ pc lv st μ, K pc lv st μ → am_AW l L xs y Q pc lv st μ) (hd : decode (am_bt y) pc = .ok (.irem, 1)) (h : am_stp l L xs y Q K (pc + 1, 17, 0, 0, 0, 0, []) lv st μ) : am_AW l L xs y Q pc lv st μ := by
  simp only [am_stp] at h
  split at h
  · rename_i v u r
    obtain ⟨h1, h⟩ := h
    intro p e R s m args below meth c D ad ca tys B0 cells slots Qf E hret H locs ls hL hP hD hS
    have kk : W p l e R s m args below meth c H locs cells slots Qf (F0 m (pc + 1) ls (.int (Int32.ofInt _) :: r.map (am_rv ad))) := hk _ _ _ _ h p e R s m args below meth c D ad ca tys B0 cells slots Qf E hret H locs ls hL hP hD hS
    rw [← am_rem32] at kk
    exact lv_irem E.1 E.2.1 hd (am_ne0 h1) kk
  · exact h.elim
theorem am_s_iand {l : Launch} {L : Nat} {xs : Nat → Int} {y : Nat} {Q : Option am_V → am_N → Prop} {K : Nat → List (Option am_V) → List am_V → am_N → Prop} {pc : Nat} {lv : List (Option am_V)} {st : List am_V} {μ : am_N}  (hk : ∀ pc lv st μ, K pc lv st μ → am_AW l L xs y Q pc lv st μ) (hd : decode (am_bt y) pc = .ok (.iand, 1)) (h : am_stp l L xs y Q K (pc + 1, 18, 0, 0, 0, 0, []) lv st μ) : am_AW l L xs y Q pc lv st μ := by
  simp only [am_stp] at h
  split at h
  · rename_i v u r
    intro p e R s m args below meth c D ad ca tys B0 cells slots Qf E hret H locs ls hL hP hD hS
    have kk : W p l e R s m args below meth c H locs cells slots Qf (F0 m (pc + 1) ls (.int (Int32.ofInt _) :: r.map (am_rv ad))) := hk _ _ _ _ h p e R s m args below meth c D ad ca tys B0 cells slots Qf E hret H locs ls hL hP hD hS
    rw [am_and, am_back] at kk
    exact lv_iand E.1 E.2.1 hd kk
  · exact h.elim
theorem am_s_ior {l : Launch} {L : Nat} {xs : Nat → Int} {y : Nat} {Q : Option am_V → am_N → Prop} {K : Nat → List (Option am_V) → List am_V → am_N → Prop} {pc : Nat} {lv : List (Option am_V)} {st : List am_V} {μ : am_N}  (hk : ∀ pc lv st μ, K pc lv st μ → am_AW l L xs y Q pc lv st μ) (hd : decode (am_bt y) pc = .ok (.ior, 1)) (h : am_stp l L xs y Q K (pc + 1, 19, 0, 0, 0, 0, []) lv st μ) : am_AW l L xs y Q pc lv st μ := by
  simp only [am_stp] at h
  split at h
  · rename_i v u r
    intro p e R s m args below meth c D ad ca tys B0 cells slots Qf E hret H locs ls hL hP hD hS
    have kk : W p l e R s m args below meth c H locs cells slots Qf (F0 m (pc + 1) ls (.int (Int32.ofInt _) :: r.map (am_rv ad))) := hk _ _ _ _ h p e R s m args below meth c D ad ca tys B0 cells slots Qf E hret H locs ls hL hP hD hS
    rw [am_or, am_back] at kk
    exact lv_ior E.1 E.2.1 hd kk
  · exact h.elim
theorem am_s_ixor {l : Launch} {L : Nat} {xs : Nat → Int} {y : Nat} {Q : Option am_V → am_N → Prop} {K : Nat → List (Option am_V) → List am_V → am_N → Prop} {pc : Nat} {lv : List (Option am_V)} {st : List am_V} {μ : am_N}  (hk : ∀ pc lv st μ, K pc lv st μ → am_AW l L xs y Q pc lv st μ) (hd : decode (am_bt y) pc = .ok (.ixor, 1)) (h : am_stp l L xs y Q K (pc + 1, 20, 0, 0, 0, 0, []) lv st μ) : am_AW l L xs y Q pc lv st μ := by
  simp only [am_stp] at h
  split at h
  · rename_i v u r
    intro p e R s m args below meth c D ad ca tys B0 cells slots Qf E hret H locs ls hL hP hD hS
    have kk : W p l e R s m args below meth c H locs cells slots Qf (F0 m (pc + 1) ls (.int (Int32.ofInt _) :: r.map (am_rv ad))) := hk _ _ _ _ h p e R s m args below meth c D ad ca tys B0 cells slots Qf E hret H locs ls hL hP hD hS
    rw [am_xor, am_back] at kk
    exact lv_ixor E.1 E.2.1 hd kk
  · exact h.elim
theorem am_s_ishl {l : Launch} {L : Nat} {xs : Nat → Int} {y : Nat} {Q : Option am_V → am_N → Prop} {K : Nat → List (Option am_V) → List am_V → am_N → Prop} {pc : Nat} {lv : List (Option am_V)} {st : List am_V} {μ : am_N}  (hk : ∀ pc lv st μ, K pc lv st μ → am_AW l L xs y Q pc lv st μ) (hd : decode (am_bt y) pc = .ok (.ishl, 1)) (h : am_stp l L xs y Q K (pc + 1, 21, 0, 0, 0, 0, []) lv st μ) : am_AW l L xs y Q pc lv st μ := by
  simp only [am_stp] at h
  split at h
  · rename_i v u r
    intro p e R s m args below meth c D ad ca tys B0 cells slots Qf E hret H locs ls hL hP hD hS
    have kk : W p l e R s m args below meth c H locs cells slots Qf (F0 m (pc + 1) ls (.int (Int32.ofInt _) :: r.map (am_rv ad))) := hk _ _ _ _ h p e R s m args below meth c D ad ca tys B0 cells slots Qf E hret H locs ls hL hP hD hS
    rw [am_shl, am_back] at kk
    exact lv_ishl E.1 E.2.1 hd kk
  · exact h.elim
theorem am_s_ishr {l : Launch} {L : Nat} {xs : Nat → Int} {y : Nat} {Q : Option am_V → am_N → Prop} {K : Nat → List (Option am_V) → List am_V → am_N → Prop} {pc : Nat} {lv : List (Option am_V)} {st : List am_V} {μ : am_N}  (hk : ∀ pc lv st μ, K pc lv st μ → am_AW l L xs y Q pc lv st μ) (hd : decode (am_bt y) pc = .ok (.ishr, 1)) (h : am_stp l L xs y Q K (pc + 1, 22, 0, 0, 0, 0, []) lv st μ) : am_AW l L xs y Q pc lv st μ := by
  simp only [am_stp] at h
  split at h
  · rename_i v u r
    intro p e R s m args below meth c D ad ca tys B0 cells slots Qf E hret H locs ls hL hP hD hS
    have kk : W p l e R s m args below meth c H locs cells slots Qf (F0 m (pc + 1) ls (.int (Int32.ofInt _) :: r.map (am_rv ad))) := hk _ _ _ _ h p e R s m args below meth c D ad ca tys B0 cells slots Qf E hret H locs ls hL hP hD hS
    rw [am_shr, am_back] at kk
    exact lv_ishr E.1 E.2.1 hd kk
  · exact h.elim
theorem am_s_ineg {l : Launch} {L : Nat} {xs : Nat → Int} {y : Nat} {Q : Option am_V → am_N → Prop} {K : Nat → List (Option am_V) → List am_V → am_N → Prop} {pc : Nat} {lv : List (Option am_V)} {st : List am_V} {μ : am_N}  (hk : ∀ pc lv st μ, K pc lv st μ → am_AW l L xs y Q pc lv st μ) (hd : decode (am_bt y) pc = .ok (.ineg, 1)) (h : am_stp l L xs y Q K (pc + 1, 23, 0, 0, 0, 0, []) lv st μ) : am_AW l L xs y Q pc lv st μ := by
  simp only [am_stp] at h
  split at h
  · rename_i v r
    intro p e R s m args below meth c D ad ca tys B0 cells slots Qf E hret H locs ls hL hP hD hS
    have kk : W p l e R s m args below meth c H locs cells slots Qf (F0 m (pc + 1) ls (.int (Int32.ofInt _) :: r.map (am_rv ad))) := hk _ _ _ _ h p e R s m args below meth c D ad ca tys B0 cells slots Qf E hret H locs ls hL hP hD hS
    rw [Int32.ofInt_neg] at kk
    exact lv_ineg E.1 E.2.1 hd kk
  · exact h.elim
theorem am_s_i2l {l : Launch} {L : Nat} {xs : Nat → Int} {y : Nat} {Q : Option am_V → am_N → Prop} {K : Nat → List (Option am_V) → List am_V → am_N → Prop} {pc : Nat} {lv : List (Option am_V)} {st : List am_V} {μ : am_N}  (hk : ∀ pc lv st μ, K pc lv st μ → am_AW l L xs y Q pc lv st μ) (hd : decode (am_bt y) pc = .ok (.i2l, 1)) (h : am_stp l L xs y Q K (pc + 1, 33, 0, 0, 0, 0, []) lv st μ) : am_AW l L xs y Q pc lv st μ := by
  simp only [am_stp] at h
  split at h
  · rename_i v r
    intro p e R s m args below meth c D ad ca tys B0 cells slots Qf E hret H locs ls hL hP hD hS
    have kk : W p l e R s m args below meth c H locs cells slots Qf (F0 m (pc + 1) ls (.long (Int64.ofInt _) :: r.map (am_rv ad))) := hk _ _ _ _ h p e R s m args below meth c D ad ca tys B0 cells slots Qf E hret H locs ls hL hP hD hS
    rw [← am_i2l] at kk
    exact lv_i2l E.1 E.2.1 hd rfl kk
  · exact h.elim
theorem am_s_lcmp {l : Launch} {L : Nat} {xs : Nat → Int} {y : Nat} {Q : Option am_V → am_N → Prop} {K : Nat → List (Option am_V) → List am_V → am_N → Prop} {pc : Nat} {lv : List (Option am_V)} {st : List am_V} {μ : am_N}  (hk : ∀ pc lv st μ, K pc lv st μ → am_AW l L xs y Q pc lv st μ) (hd : decode (am_bt y) pc = .ok (.lcmp, 1)) (h : am_stp l L xs y Q K (pc + 1, 34, 0, 0, 0, 0, []) lv st μ) : am_AW l L xs y Q pc lv st μ := by
  simp only [am_stp] at h
  split at h
  · rename_i v u r
    intro p e R s m args below meth c D ad ca tys B0 cells slots Qf E hret H locs ls hL hP hD hS
    have kk : W p l e R s m args below meth c H locs cells slots Qf (F0 m (pc + 1) ls (.int (Int32.ofInt _) :: r.map (am_rv ad))) := hk _ _ _ _ h p e R s m args below meth c D ad ca tys B0 cells slots Qf E hret H locs ls hL hP hD hS
    rw [← am_lcmp] at kk
    exact W.lcmp E.1 E.2.1 hd kk
  · exact h.elim
theorem am_s_ladd {l : Launch} {L : Nat} {xs : Nat → Int} {y : Nat} {Q : Option am_V → am_N → Prop} {K : Nat → List (Option am_V) → List am_V → am_N → Prop} {pc : Nat} {lv : List (Option am_V)} {st : List am_V} {μ : am_N}  (hk : ∀ pc lv st μ, K pc lv st μ → am_AW l L xs y Q pc lv st μ) (hd : decode (am_bt y) pc = .ok (.ladd, 1)) (h : am_stp l L xs y Q K (pc + 1, 35, 0, 0, 0, 0, []) lv st μ) : am_AW l L xs y Q pc lv st μ := by
  simp only [am_stp] at h
  split at h
  · rename_i v u r
    intro p e R s m args below meth c D ad ca tys B0 cells slots Qf E hret H locs ls hL hP hD hS
    have kk : W p l e R s m args below meth c H locs cells slots Qf (F0 m (pc + 1) ls (.long (Int64.ofInt _) :: r.map (am_rv ad))) := hk _ _ _ _ h p e R s m args below meth c D ad ca tys B0 cells slots Qf E hret H locs ls hL hP hD hS
    rw [Int64.ofInt_add] at kk
    exact lv_ladd E.1 E.2.1 hd kk
  · exact h.elim
theorem am_s_lsub {l : Launch} {L : Nat} {xs : Nat → Int} {y : Nat} {Q : Option am_V → am_N → Prop} {K : Nat → List (Option am_V) → List am_V → am_N → Prop} {pc : Nat} {lv : List (Option am_V)} {st : List am_V} {μ : am_N}  (hk : ∀ pc lv st μ, K pc lv st μ → am_AW l L xs y Q pc lv st μ) (hd : decode (am_bt y) pc = .ok (.lsub, 1)) (h : am_stp l L xs y Q K (pc + 1, 36, 0, 0, 0, 0, []) lv st μ) : am_AW l L xs y Q pc lv st μ := by
  simp only [am_stp] at h
  split at h
  · rename_i v u r
    intro p e R s m args below meth c D ad ca tys B0 cells slots Qf E hret H locs ls hL hP hD hS
    have kk : W p l e R s m args below meth c H locs cells slots Qf (F0 m (pc + 1) ls (.long (Int64.ofInt _) :: r.map (am_rv ad))) := hk _ _ _ _ h p e R s m args below meth c D ad ca tys B0 cells slots Qf E hret H locs ls hL hP hD hS
    rw [Int64.ofInt_sub] at kk
    exact lv_lsub E.1 E.2.1 hd kk
  · exact h.elim
theorem am_s_lmul {l : Launch} {L : Nat} {xs : Nat → Int} {y : Nat} {Q : Option am_V → am_N → Prop} {K : Nat → List (Option am_V) → List am_V → am_N → Prop} {pc : Nat} {lv : List (Option am_V)} {st : List am_V} {μ : am_N}  (hk : ∀ pc lv st μ, K pc lv st μ → am_AW l L xs y Q pc lv st μ) (hd : decode (am_bt y) pc = .ok (.lmul, 1)) (h : am_stp l L xs y Q K (pc + 1, 37, 0, 0, 0, 0, []) lv st μ) : am_AW l L xs y Q pc lv st μ := by
  simp only [am_stp] at h
  split at h
  · rename_i v u r
    intro p e R s m args below meth c D ad ca tys B0 cells slots Qf E hret H locs ls hL hP hD hS
    have kk : W p l e R s m args below meth c H locs cells slots Qf (F0 m (pc + 1) ls (.long (Int64.ofInt _) :: r.map (am_rv ad))) := hk _ _ _ _ h p e R s m args below meth c D ad ca tys B0 cells slots Qf E hret H locs ls hL hP hD hS
    rw [Int64.ofInt_mul] at kk
    exact lv_lmul E.1 E.2.1 hd kk
  · exact h.elim
theorem am_s_ldiv {l : Launch} {L : Nat} {xs : Nat → Int} {y : Nat} {Q : Option am_V → am_N → Prop} {K : Nat → List (Option am_V) → List am_V → am_N → Prop} {pc : Nat} {lv : List (Option am_V)} {st : List am_V} {μ : am_N}  (hk : ∀ pc lv st μ, K pc lv st μ → am_AW l L xs y Q pc lv st μ) (hd : decode (am_bt y) pc = .ok (.ldiv, 1)) (h : am_stp l L xs y Q K (pc + 1, 38, 0, 0, 0, 0, []) lv st μ) : am_AW l L xs y Q pc lv st μ := by
  simp only [am_stp] at h
  split at h
  · rename_i v u r
    obtain ⟨h1, h⟩ := h
    intro p e R s m args below meth c D ad ca tys B0 cells slots Qf E hret H locs ls hL hP hD hS
    have kk : W p l e R s m args below meth c H locs cells slots Qf (F0 m (pc + 1) ls (.long (Int64.ofInt _) :: r.map (am_rv ad))) := hk _ _ _ _ h p e R s m args below meth c D ad ca tys B0 cells slots Qf E hret H locs ls hL hP hD hS
    rw [← am_div64] at kk
    exact lv_ldiv E.1 E.2.1 hd (am_ne064 h1) kk
  · exact h.elim
theorem am_s_lrem {l : Launch} {L : Nat} {xs : Nat → Int} {y : Nat} {Q : Option am_V → am_N → Prop} {K : Nat → List (Option am_V) → List am_V → am_N → Prop} {pc : Nat} {lv : List (Option am_V)} {st : List am_V} {μ : am_N}  (hk : ∀ pc lv st μ, K pc lv st μ → am_AW l L xs y Q pc lv st μ) (hd : decode (am_bt y) pc = .ok (.lrem, 1)) (h : am_stp l L xs y Q K (pc + 1, 39, 0, 0, 0, 0, []) lv st μ) : am_AW l L xs y Q pc lv st μ := by
  simp only [am_stp] at h
  split at h
  · rename_i v u r
    obtain ⟨h1, h⟩ := h
    intro p e R s m args below meth c D ad ca tys B0 cells slots Qf E hret H locs ls hL hP hD hS
    have kk : W p l e R s m args below meth c H locs cells slots Qf (F0 m (pc + 1) ls (.long (Int64.ofInt _) :: r.map (am_rv ad))) := hk _ _ _ _ h p e R s m args below meth c D ad ca tys B0 cells slots Qf E hret H locs ls hL hP hD hS
    rw [← am_rem64] at kk
    exact lv_lrem E.1 E.2.1 hd (am_ne064 h1) kk
  · exact h.elim
theorem am_s_goto {l : Launch} {L : Nat} {xs : Nat → Int} {y : Nat} {Q : Option am_V → am_N → Prop} {K : Nat → List (Option am_V) → List am_V → am_N → Prop} {pc : Nat} {lv : List (Option am_V)} {st : List am_V} {μ : am_N} {off : Int} (hk : ∀ pc lv st μ, K pc lv st μ → am_AW l L xs y Q pc lv st μ) (hd : decode (am_bt y) pc = .ok (.goto off, 3)) (ho : 0 ≤ (pc : Int) + off) (h : K ((pc : Int) + off).toNat lv st μ) : am_AW l L xs y Q pc lv st μ := by
  intro p e R s m args below meth c D ad ca tys B0 cells slots Qf E hret H locs ls hL hP hD hS
  exact lv_goto E.1 E.2.1 hd (by omega) (hk _ _ _ _ h p e R s m args below meth c D ad ca tys B0 cells slots Qf E hret H locs ls hL hP hD hS)
theorem am_s_if_eq {l : Launch} {L : Nat} {xs : Nat → Int} {y : Nat} {Q : Option am_V → am_N → Prop} {K : Nat → List (Option am_V) → List am_V → am_N → Prop} {pc : Nat} {lv : List (Option am_V)} {st : List am_V} {μ : am_N} {off : Int} (hk : ∀ pc lv st μ, K pc lv st μ → am_AW l L xs y Q pc lv st μ) (hd : decode (am_bt y) pc = .ok (.ifCond .eq off, 3)) (ho : 0 ≤ (pc : Int) + off) (h : am_stp l L xs y Q K (pc + 3, 26, ((pc : Int) + off).toNat, 0, 0, 0, []) lv st μ) : am_AW l L xs y Q pc lv st μ := by
  simp only [am_stp] at h
  split at h
  · rename_i v r
    obtain ⟨h1, h2⟩ := am_br2_iff.mp h
    intro p e R s m args below meth c D ad ca tys B0 cells slots Qf E hret H locs ls hL hP hD hS
    refine lv_if_eq (tgt := ((pc : Int) + off).toNat) E.1 E.2.1 hd (by omega) (fun q => ?_) (fun q => ?_)
    · exact hk _ _ _ _ (h1 (am_c_eq.mp q)) p e R s m args below meth c D ad ca tys B0 cells slots Qf E hret H locs ls hL hP hD hS
    · exact hk _ _ _ _ (h2 (am_n_eq.mp q)) p e R s m args below meth c D ad ca tys B0 cells slots Qf E hret H locs ls hL hP hD hS
  · exact h.elim
theorem am_s_icmp_eq {l : Launch} {L : Nat} {xs : Nat → Int} {y : Nat} {Q : Option am_V → am_N → Prop} {K : Nat → List (Option am_V) → List am_V → am_N → Prop} {pc : Nat} {lv : List (Option am_V)} {st : List am_V} {μ : am_N} {off : Int} (hk : ∀ pc lv st μ, K pc lv st μ → am_AW l L xs y Q pc lv st μ) (hd : decode (am_bt y) pc = .ok (.if_icmp .eq off, 3)) (ho : 0 ≤ (pc : Int) + off) (h : am_stp l L xs y Q K (pc + 3, 27, ((pc : Int) + off).toNat, 0, 0, 0, []) lv st μ) : am_AW l L xs y Q pc lv st μ := by
  simp only [am_stp] at h
  split at h
  · rename_i v u r
    obtain ⟨h1, h2⟩ := am_br2_iff.mp h
    intro p e R s m args below meth c D ad ca tys B0 cells slots Qf E hret H locs ls hL hP hD hS
    refine lv_icmp_eq (tgt := ((pc : Int) + off).toNat) E.1 E.2.1 hd (by omega) (fun q => ?_) (fun q => ?_)
    · exact hk _ _ _ _ (h1 (am_c2_eq.mp q)) p e R s m args below meth c D ad ca tys B0 cells slots Qf E hret H locs ls hL hP hD hS
    · exact hk _ _ _ _ (h2 (am_n2_eq.mp q)) p e R s m args below meth c D ad ca tys B0 cells slots Qf E hret H locs ls hL hP hD hS
  · exact h.elim
theorem am_s_if_ne {l : Launch} {L : Nat} {xs : Nat → Int} {y : Nat} {Q : Option am_V → am_N → Prop} {K : Nat → List (Option am_V) → List am_V → am_N → Prop} {pc : Nat} {lv : List (Option am_V)} {st : List am_V} {μ : am_N} {off : Int} (hk : ∀ pc lv st μ, K pc lv st μ → am_AW l L xs y Q pc lv st μ) (hd : decode (am_bt y) pc = .ok (.ifCond .ne off, 3)) (ho : 0 ≤ (pc : Int) + off) (h : am_stp l L xs y Q K (pc + 3, 26, ((pc : Int) + off).toNat, 1, 0, 0, []) lv st μ) : am_AW l L xs y Q pc lv st μ := by
  simp only [am_stp] at h
  split at h
  · rename_i v r
    obtain ⟨h1, h2⟩ := am_br2_iff.mp h
    intro p e R s m args below meth c D ad ca tys B0 cells slots Qf E hret H locs ls hL hP hD hS
    refine lv_if_ne (tgt := ((pc : Int) + off).toNat) E.1 E.2.1 hd (by omega) (fun q => ?_) (fun q => ?_)
    · exact hk _ _ _ _ (h1 (am_c_ne.mp q)) p e R s m args below meth c D ad ca tys B0 cells slots Qf E hret H locs ls hL hP hD hS
    · exact hk _ _ _ _ (h2 (am_n_ne.mp q)) p e R s m args below meth c D ad ca tys B0 cells slots Qf E hret H locs ls hL hP hD hS
  · exact h.elim
theorem am_s_icmp_ne {l : Launch} {L : Nat} {xs : Nat → Int} {y : Nat} {Q : Option am_V → am_N → Prop} {K : Nat → List (Option am_V) → List am_V → am_N → Prop} {pc : Nat} {lv : List (Option am_V)} {st : List am_V} {μ : am_N} {off : Int} (hk : ∀ pc lv st μ, K pc lv st μ → am_AW l L xs y Q pc lv st μ) (hd : decode (am_bt y) pc = .ok (.if_icmp .ne off, 3)) (ho : 0 ≤ (pc : Int) + off) (h : am_stp l L xs y Q K (pc + 3, 27, ((pc : Int) + off).toNat, 1, 0, 0, []) lv st μ) : am_AW l L xs y Q pc lv st μ := by
  simp only [am_stp] at h
  split at h
  · rename_i v u r
    obtain ⟨h1, h2⟩ := am_br2_iff.mp h
    intro p e R s m args below meth c D ad ca tys B0 cells slots Qf E hret H locs ls hL hP hD hS
    refine lv_icmp_ne (tgt := ((pc : Int) + off).toNat) E.1 E.2.1 hd (by omega) (fun q => ?_) (fun q => ?_)
    · exact hk _ _ _ _ (h1 (am_c2_ne.mp q)) p e R s m args below meth c D ad ca tys B0 cells slots Qf E hret H locs ls hL hP hD hS
    · exact hk _ _ _ _ (h2 (am_n2_ne.mp q)) p e R s m args below meth c D ad ca tys B0 cells slots Qf E hret H locs ls hL hP hD hS
  · exact h.elim
theorem am_s_if_lt {l : Launch} {L : Nat} {xs : Nat → Int} {y : Nat} {Q : Option am_V → am_N → Prop} {K : Nat → List (Option am_V) → List am_V → am_N → Prop} {pc : Nat} {lv : List (Option am_V)} {st : List am_V} {μ : am_N} {off : Int} (hk : ∀ pc lv st μ, K pc lv st μ → am_AW l L xs y Q pc lv st μ) (hd : decode (am_bt y) pc = .ok (.ifCond .lt off, 3)) (ho : 0 ≤ (pc : Int) + off) (h : am_stp l L xs y Q K (pc + 3, 26, ((pc : Int) + off).toNat, 2, 0, 0, []) lv st μ) : am_AW l L xs y Q pc lv st μ := by
  simp only [am_stp] at h
  split at h
  · rename_i v r
    obtain ⟨h1, h2⟩ := am_br2_iff.mp h
    intro p e R s m args below meth c D ad ca tys B0 cells slots Qf E hret H locs ls hL hP hD hS
    refine lv_if_lt (tgt := ((pc : Int) + off).toNat) E.1 E.2.1 hd (by omega) (fun q => ?_) (fun q => ?_)
    · exact hk _ _ _ _ (h1 (am_c_lt.mp q)) p e R s m args below meth c D ad ca tys B0 cells slots Qf E hret H locs ls hL hP hD hS
    · exact hk _ _ _ _ (h2 (am_n_lt.mp q)) p e R s m args below meth c D ad ca tys B0 cells slots Qf E hret H locs ls hL hP hD hS
  · exact h.elim
theorem am_s_icmp_lt {l : Launch} {L : Nat} {xs : Nat → Int} {y : Nat} {Q : Option am_V → am_N → Prop} {K : Nat → List (Option am_V) → List am_V → am_N → Prop} {pc : Nat} {lv : List (Option am_V)} {st : List am_V} {μ : am_N} {off : Int} (hk : ∀ pc lv st μ, K pc lv st μ → am_AW l L xs y Q pc lv st μ) (hd : decode (am_bt y) pc = .ok (.if_icmp .lt off, 3)) (ho : 0 ≤ (pc : Int) + off) (h : am_stp l L xs y Q K (pc + 3, 27, ((pc : Int) + off).toNat, 2, 0, 0, []) lv st μ) : am_AW l L xs y Q pc lv st μ := by
  simp only [am_stp] at h
  split at h
  · rename_i v u r
    obtain ⟨h1, h2⟩ := am_br2_iff.mp h
    intro p e R s m args below meth c D ad ca tys B0 cells slots Qf E hret H locs ls hL hP hD hS
    refine lv_icmp_lt (tgt := ((pc : Int) + off).toNat) E.1 E.2.1 hd (by omega) (fun q => ?_) (fun q => ?_)
    · exact hk _ _ _ _ (h1 (am_c2_lt.mp q)) p e R s m args below meth c D ad ca tys B0 cells slots Qf E hret H locs ls hL hP hD hS
    · exact hk _ _ _ _ (h2 (am_n2_lt.mp q)) p e R s m args below meth c D ad ca tys B0 cells slots Qf E hret H locs ls hL hP hD hS
  · exact h.elim
theorem am_s_if_ge {l : Launch} {L : Nat} {xs : Nat → Int} {y : Nat} {Q : Option am_V → am_N → Prop} {K : Nat → List (Option am_V) → List am_V → am_N → Prop} {pc : Nat} {lv : List (Option am_V)} {st : List am_V} {μ : am_N} {off : Int} (hk : ∀ pc lv st μ, K pc lv st μ → am_AW l L xs y Q pc lv st μ) (hd : decode (am_bt y) pc = .ok (.ifCond .ge off, 3)) (ho : 0 ≤ (pc : Int) + off) (h : am_stp l L xs y Q K (pc + 3, 26, ((pc : Int) + off).toNat, 3, 0, 0, []) lv st μ) : am_AW l L xs y Q pc lv st μ := by
  simp only [am_stp] at h
  split at h
  · rename_i v r
    obtain ⟨h1, h2⟩ := am_br2_iff.mp h
    intro p e R s m args below meth c D ad ca tys B0 cells slots Qf E hret H locs ls hL hP hD hS
    refine lv_if_ge (tgt := ((pc : Int) + off).toNat) E.1 E.2.1 hd (by omega) (fun q => ?_) (fun q => ?_)
    · exact hk _ _ _ _ (h1 (am_c_ge.mp q)) p e R s m args below meth c D ad ca tys B0 cells slots Qf E hret H locs ls hL hP hD hS
    · exact hk _ _ _ _ (h2 (am_n_ge.mp q)) p e R s m args below meth c D ad ca tys B0 cells slots Qf E hret H locs ls hL hP hD hS
  · exact h.elim
theorem am_s_icmp_ge {l : Launch} {L : Nat} {xs : Nat → Int} {y : Nat} {Q : Option am_V → am_N → Prop} {K : Nat → List (Option am_V) → List am_V → am_N → Prop} {pc : Nat} {lv : List (Option am_V)} {st : List am_V} {μ : am_N} {off : Int} (hk : ∀ pc lv st μ, K pc lv st μ → am_AW l L xs y Q pc lv st μ) (hd : decode (am_bt y) pc = .ok (.if_icmp .ge off, 3)) (ho : 0 ≤ (pc : Int) + off) (h : am_stp l L xs y Q K (pc + 3, 27, ((pc : Int) + off).toNat, 3, 0, 0, []) lv st μ) : am_AW l L xs y Q pc lv st μ := by
  simp only [am_stp] at h
  split at h
  · rename_i v u r
    obtain ⟨h1, h2⟩ := am_br2_iff.mp h
    intro p e R s m args below meth c D ad ca tys B0 cells slots Qf E hret H locs ls hL hP hD hS
    refine lv_icmp_ge (tgt := ((pc : Int) + off).toNat) E.1 E.2.1 hd (by omega) (fun q => ?_) (fun q => ?_)
    · exact hk _ _ _ _ (h1 (am_c2_ge.mp q)) p e R s m args below meth c D ad ca tys B0 cells slots Qf E hret H locs ls hL hP hD hS
    · exact hk _ _ _ _ (h2 (am_n2_ge.mp q)) p e R s m args below meth c D ad ca tys B0 cells slots Qf E hret H locs ls hL hP hD hS
  · exact h.elim
theorem am_s_if_gt {l : Launch} {L : Nat} {xs : Nat → Int} {y : Nat} {Q : Option am_V → am_N → Prop} {K : Nat → List (Option am_V) → List am_V → am_N → Prop} {pc : Nat} {lv : List (Option am_V)} {st : List am_V} {μ : am_N} {off : Int} (hk : ∀ pc lv st μ, K pc lv st μ → am_AW l L xs y Q pc lv st μ) (hd : decode (am_bt y) pc = .ok (.ifCond .gt off, 3)) (ho : 0 ≤ (pc : Int) + off) (h : am_stp l L xs y Q K (pc + 3, 26, ((pc : Int) + off).toNat, 4, 0, 0, []) lv st μ) : am_AW l L xs y Q pc lv st μ := by
  simp only [am_stp] at h
  split at h
  · rename_i v r
    obtain ⟨h1, h2⟩ := am_br2_iff.mp h
    intro p e R s m args below meth c D ad ca tys B0 cells slots Qf E hret H locs ls hL hP hD hS
    refine lv_if_gt (tgt := ((pc : Int) + off).toNat) E.1 E.2.1 hd (by omega) (fun q => ?_) (fun q => ?_)
    · exact hk _ _ _ _ (h1 (am_c_gt.mp q)) p e R s m args below meth c D ad ca tys B0 cells slots Qf E hret H locs ls hL hP hD hS
    · exact hk _ _ _ _ (h2 (am_n_gt.mp q)) p e R s m args below meth c D ad ca tys B0 cells slots Qf E hret H locs ls hL hP hD hS
  · exact h.elim
theorem am_s_icmp_gt {l : Launch} {L : Nat} {xs : Nat → Int} {y : Nat} {Q : Option am_V → am_N → Prop} {K : Nat → List (Option am_V) → List am_V → am_N → Prop} {pc : Nat} {lv : List (Option am_V)} {st : List am_V} {μ : am_N} {off : Int} (hk : ∀ pc lv st μ, K pc lv st μ → am_AW l L xs y Q pc lv st μ) (hd : decode (am_bt y) pc = .ok (.if_icmp .gt off, 3)) (ho : 0 ≤ (pc : Int) + off) (h : am_stp l L xs y Q K (pc + 3, 27, ((pc : Int) + off).toNat, 4, 0, 0, []) lv st μ) : am_AW l L xs y Q pc lv st μ := by
  simp only [am_stp] at h
  split at h
  · rename_i v u r
    obtain ⟨h1, h2⟩ := am_br2_iff.mp h
    intro p e R s m args below meth c D ad ca tys B0 cells slots Qf E hret H locs ls hL hP hD hS
    refine lv_icmp_gt (tgt := ((pc : Int) + off).toNat) E.1 E.2.1 hd (by omega) (fun q => ?_) (fun q => ?_)
    · exact hk _ _ _ _ (h1 (am_c2_gt.mp q)) p e R s m args below meth c D ad ca tys B0 cells slots Qf E hret H locs ls hL hP hD hS
    · exact hk _ _ _ _ (h2 (am_n2_gt.mp q)) p e R s m args below meth c D ad ca tys B0 cells slots Qf E hret H locs ls hL hP hD hS
  · exact h.elim
theorem am_s_if_le {l : Launch} {L : Nat} {xs : Nat → Int} {y : Nat} {Q : Option am_V → am_N → Prop} {K : Nat → List (Option am_V) → List am_V → am_N → Prop} {pc : Nat} {lv : List (Option am_V)} {st : List am_V} {μ : am_N} {off : Int} (hk : ∀ pc lv st μ, K pc lv st μ → am_AW l L xs y Q pc lv st μ) (hd : decode (am_bt y) pc = .ok (.ifCond .le off, 3)) (ho : 0 ≤ (pc : Int) + off) (h : am_stp l L xs y Q K (pc + 3, 26, ((pc : Int) + off).toNat, 5, 0, 0, []) lv st μ) : am_AW l L xs y Q pc lv st μ := by
  simp only [am_stp] at h
  split at h
  · rename_i v r
    obtain ⟨h1, h2⟩ := am_br2_iff.mp h
    intro p e R s m args below meth c D ad ca tys B0 cells slots Qf E hret H locs ls hL hP hD hS
    refine lv_if_le (tgt := ((pc : Int) + off).toNat) E.1 E.2.1 hd (by omega) (fun q => ?_) (fun q => ?_)
    · exact hk _ _ _ _ (h1 (am_c_le.mp q)) p e R s m args below meth c D ad ca tys B0 cells slots Qf E hret H locs ls hL hP hD hS
    · exact hk _ _ _ _ (h2 (am_n_le.mp q)) p e R s m args below meth c D ad ca tys B0 cells slots Qf E hret H locs ls hL hP hD hS
  · exact h.elim
theorem am_s_icmp_le {l : Launch} {L : Nat} {xs : Nat → Int} {y : Nat} {Q : Option am_V → am_N → Prop} {K : Nat → List (Option am_V) → List am_V → am_N → Prop} {pc : Nat} {lv : List (Option am_V)} {st : List am_V} {μ : am_N} {off : Int} (hk : ∀ pc lv st μ, K pc lv st μ → am_AW l L xs y Q pc lv st μ) (hd : decode (am_bt y) pc = .ok (.if_icmp .le off, 3)) (ho : 0 ≤ (pc : Int) + off) (h : am_stp l L xs y Q K (pc + 3, 27, ((pc : Int) + off).toNat, 5, 0, 0, []) lv st μ) : am_AW l L xs y Q pc lv st μ := by
  simp only [am_stp] at h
  split at h
  · rename_i v u r
    obtain ⟨h1, h2⟩ := am_br2_iff.mp h
    intro p e R s m args below meth c D ad ca tys B0 cells slots Qf E hret H locs ls hL hP hD hS
    refine lv_icmp_le (tgt := ((pc : Int) + off).toNat) E.1 E.2.1 hd (by omega) (fun q => ?_) (fun q => ?_)
    · exact hk _ _ _ _ (h1 (am_c2_le.mp q)) p e R s m args below meth c D ad ca tys B0 cells slots Qf E hret H locs ls hL hP hD hS
    · exact hk _ _ _ _ (h2 (am_n2_le.mp q)) p e R s m args below meth c D ad ca tys B0 cells slots Qf E hret H locs ls hL hP hD hS
  · exact h.elim
theorem am_s_pop {l : Launch} {L : Nat} {xs : Nat → Int} {y : Nat} {Q : Option am_V → am_N → Prop} {K : Nat → List (Option am_V) → List am_V → am_N → Prop} {pc : Nat} {lv : List (Option am_V)} {st : List am_V} {μ : am_N}  (hk : ∀ pc lv st μ, K pc lv st μ → am_AW l L xs y Q pc lv st μ) (hd : decode (am_bt y) pc = .ok (.pop, 1)) (h : am_stp l L xs y Q K (pc + 1, 28, 0, 0, 0, 0, []) lv st μ) : am_AW l L xs y Q pc lv st μ := by
  simp only [am_stp] at h
  split at h
  · intro p e R s m args below meth c D ad ca tys B0 cells slots Qf E hret H locs ls hL hP hD hS
    exact lv_pop E.1 E.2.1 hd rfl (hk _ _ _ _ h p e R s m args below meth c D ad ca tys B0 cells slots Qf E hret H locs ls hL hP hD hS)
  · exact h.elim
theorem am_s_pop2 {l : Launch} {L : Nat} {xs : Nat → Int} {y : Nat} {Q : Option am_V → am_N → Prop} {K : Nat → List (Option am_V) → List am_V → am_N → Prop} {pc : Nat} {lv : List (Option am_V)} {st : List am_V} {μ : am_N}  (hk : ∀ pc lv st μ, K pc lv st μ → am_AW l L xs y Q pc lv st μ) (hd : decode (am_bt y) pc = .ok (.pop2, 1)) (h : am_stp l L xs y Q K (pc + 1, 29, 0, 0, 0, 0, []) lv st μ) : am_AW l L xs y Q pc lv st μ := by
  simp only [am_stp] at h
  split at h
  · intro p e R s m args below meth c D ad ca tys B0 cells slots Qf E hret H locs ls hL hP hD hS
    exact lv_pop2_2 E.1 E.2.1 hd rfl (hk _ _ _ _ h p e R s m args below meth c D ad ca tys B0 cells slots Qf E hret H locs ls hL hP hD hS)
  · exact h.elim
theorem am_s_dup {l : Launch} {L : Nat} {xs : Nat → Int} {y : Nat} {Q : Option am_V → am_N → Prop} {K : Nat → List (Option am_V) → List am_V → am_N → Prop} {pc : Nat} {lv : List (Option am_V)} {st : List am_V} {μ : am_N}  (hk : ∀ pc lv st μ, K pc lv st μ → am_AW l L xs y Q pc lv st μ) (hd : decode (am_bt y) pc = .ok (.dup, 1)) (h : am_stp l L xs y Q K (pc + 1, 30, 0, 0, 0, 0, []) lv st μ) : am_AW l L xs y Q pc lv st μ := by
  simp only [am_stp] at h
  split at h
  · intro p e R s m args below meth c D ad ca tys B0 cells slots Qf E hret H locs ls hL hP hD hS
    exact lv_dup E.1 E.2.1 hd rfl (hk _ _ _ _ h p e R s m args below meth c D ad ca tys B0 cells slots Qf E hret H locs ls hL hP hD hS)
  · intro p e R s m args below meth c D ad ca tys B0 cells slots Qf E hret H locs ls hL hP hD hS
    exact lv_dup E.1 E.2.1 hd rfl (hk _ _ _ _ h p e R s m args below meth c D ad ca tys B0 cells slots Qf E hret H locs ls hL hP hD hS)
  · exact h.elim
theorem am_s_dup2 {l : Launch} {L : Nat} {xs : Nat → Int} {y : Nat} {Q : Option am_V → am_N → Prop} {K : Nat → List (Option am_V) → List am_V → am_N → Prop} {pc : Nat} {lv : List (Option am_V)} {st : List am_V} {μ : am_N}  (hk : ∀ pc lv st μ, K pc lv st μ → am_AW l L xs y Q pc lv st μ) (hd : decode (am_bt y) pc = .ok (.dup2, 1)) (h : am_stp l L xs y Q K (pc + 1, 31, 0, 0, 0, 0, []) lv st μ) : am_AW l L xs y Q pc lv st μ := by
  simp only [am_stp] at h
  split at h
  · intro p e R s m args below meth c D ad ca tys B0 cells slots Qf E hret H locs ls hL hP hD hS
    exact lv_dup2_11 E.1 E.2.1 hd rfl rfl (hk _ _ _ _ h p e R s m args below meth c D ad ca tys B0 cells slots Qf E hret H locs ls hL hP hD hS)
  · exact h.elim
theorem am_s_dup_x1 {l : Launch} {L : Nat} {xs : Nat → Int} {y : Nat} {Q : Option am_V → am_N → Prop} {K : Nat → List (Option am_V) → List am_V → am_N → Prop} {pc : Nat} {lv : List (Option am_V)} {st : List am_V} {μ : am_N}  (hk : ∀ pc lv st μ, K pc lv st μ → am_AW l L xs y Q pc lv st μ) (hd : decode (am_bt y) pc = .ok (.dup_x1, 1)) (h : am_stp l L xs y Q K (pc + 1, 32, 0, 0, 0, 0, []) lv st μ) : am_AW l L xs y Q pc lv st μ := by
  simp only [am_stp] at h
  split at h
  · intro p e R s m args below meth c D ad ca tys B0 cells slots Qf E hret H locs ls hL hP hD hS
    exact lv_dup_x1 E.1 E.2.1 hd rfl rfl (hk _ _ _ _ h p e R s m args below meth c D ad ca tys B0 cells slots Qf E hret H locs ls hL hP hD hS)
  · exact h.elim
theorem am_s_mmax {l : Launch} {L : Nat} {xs : Nat → Int} {y : Nat} {Q : Option am_V → am_N → Prop} {K : Nat → List (Option am_V) → List am_V → am_N → Prop} {pc : Nat} {lv : List (Option am_V)} {st : List am_V} {μ : am_N} {k : Nat} (hl1 : 1 ≤ am_fr y) (hl2 : 21 ≤ am_lo y) (hk : ∀ pc lv st μ, K pc lv st μ → am_AW l L xs y Q pc lv st μ) (hd : decode (am_bt y) pc = .ok (.invokestatic k, 3)) (hf : (am_ow y, k, 0) ∈ am_ma) (h : am_stp l L xs y Q K (pc + 3, 46, 0, 0, 0, 0, []) lv st μ) : am_AW l L xs y Q pc lv st μ := by
  simp only [am_stp] at h
  split at h
  · rename_i v u r
    obtain ⟨h1, h⟩ := am_ifb h
    have h1 := Nat.le_of_ble_eq_true h1
    intro p e R s m args below meth c D ad ca tys B0 cells slots Qf E hret H locs ls hL hP hD hS
    obtain ⟨e1, e2, e3, e4, e5, e6, e7, e8, e9, e10, e11, e12, e13⟩ := id E
    have kk : W p l e R s m args below meth c H locs cells slots Qf (F0 m (pc + 3) ls (.int (Int32.ofInt _) :: r.map (am_rv ad))) := hk _ _ _ _ h p e R s m args below meth c D ad ca tys B0 cells slots Qf E hret H locs ls hL hP hD hS
    refine va_mmax e1 e2 (e3.trans hL.1.symm) e4 (e5 _ (am_ma_in _ hf)) (e5 _ (am_mw_in _ (List.mem_of_getElem? (i := 0) rfl))) (e5 _ (am_mw_in _ (List.mem_of_getElem? (i := 6) rfl))) (e5 _ (am_mw_in _ (List.mem_of_getElem? (i := 1) rfl))) (by omega) (by rw [am_cats]; omega) e11 e12 hd ?_
    simp only [am_lt]
    split at kk
    · rename_i hc
      rw [if_pos hc]; exact kk
    · rename_i hc
      rw [if_neg hc]; exact kk
  · exact h.elim
theorem am_s_mmin {l : Launch} {L : Nat} {xs : Nat → Int} {y : Nat} {Q : Option am_V → am_N → Prop} {K : Nat → List (Option am_V) → List am_V → am_N → Prop} {pc : Nat} {lv : List (Option am_V)} {st : List am_V} {μ : am_N} {k : Nat} (hl1 : 1 ≤ am_fr y) (hl2 : 21 ≤ am_lo y) (hk : ∀ pc lv st μ, K pc lv st μ → am_AW l L xs y Q pc lv st μ) (hd : decode (am_bt y) pc = .ok (.invokestatic k, 3)) (hf : (am_ow y, k, 1) ∈ am_ma) (h : am_stp l L xs y Q K (pc + 3, 47, 0, 0, 0, 0, []) lv st μ) : am_AW l L xs y Q pc lv st μ := by
  simp only [am_stp] at h
  split at h
  · rename_i v u r
    obtain ⟨h1, h⟩ := am_ifb h
    have h1 := Nat.le_of_ble_eq_true h1
    intro p e R s m args below meth c D ad ca tys B0 cells slots Qf E hret H locs ls hL hP hD hS
    obtain ⟨e1, e2, e3, e4, e5, e6, e7, e8, e9, e10, e11, e12, e13⟩ := id E
    have kk : W p l e R s m args below meth c H locs cells slots Qf (F0 m (pc + 3) ls (.int (Int32.ofInt _) :: r.map (am_rv ad))) := hk _ _ _ _ h p e R s m args below meth c D ad ca tys B0 cells slots Qf E hret H locs ls hL hP hD hS
    refine va_mmin e1 e2 (e3.trans hL.1.symm) e4 (e5 _ (am_ma_in _ hf)) (e5 _ (am_mw_in _ (List.mem_of_getElem? (i := 2) rfl))) (e5 _ (am_mw_in _ (List.mem_of_getElem? (i := 6) rfl))) (e5 _ (am_mw_in _ (List.mem_of_getElem? (i := 3) rfl))) (by omega) (by rw [am_cats]; omega) e11 e12 hd ?_
    simp only [am_lt]
    split at kk
    · rename_i hc
      rw [if_pos hc]; exact kk
    · rename_i hc
      rw [if_neg hc]; exact kk
  · exact h.elim
theorem am_s_mabs {l : Launch} {L : Nat} {xs : Nat → Int} {y : Nat} {Q : Option am_V → am_N → Prop} {K : Nat → List (Option am_V) → List am_V → am_N → Prop} {pc : Nat} {lv : List (Option am_V)} {st : List am_V} {μ : am_N} {k : Nat} (hl1 : 1 ≤ am_fr y) (hl2 : 21 ≤ am_lo y) (hk : ∀ pc lv st μ, K pc lv st μ → am_AW l L xs y Q pc lv st μ) (hd : decode (am_bt y) pc = .ok (.invokestatic k, 3)) (hf : (am_ow y, k, 2) ∈ am_ma) (h : am_stp l L xs y Q K (pc + 3, 48, 0, 0, 0, 0, []) lv st μ) : am_AW l L xs y Q pc lv st μ := by
  simp only [am_stp] at h
  split at h
  · rename_i u r
    obtain ⟨h1, h⟩ := am_ifb h
    have h1 := Nat.le_of_ble_eq_true h1
    intro p e R s m args below meth c D ad ca tys B0 cells slots Qf E hret H locs ls hL hP hD hS
    obtain ⟨e1, e2, e3, e4, e5, e6, e7, e8, e9, e10, e11, e12, e13⟩ := id E
    have kk : W p l e R s m args below meth c H locs cells slots Qf (F0 m (pc + 3) ls (.int (Int32.ofInt _) :: r.map (am_rv ad))) := hk _ _ _ _ h p e R s m args below meth c D ad ca tys B0 cells slots Qf E hret H locs ls hL hP hD hS
    refine va_mabs e1 e2 (e3.trans hL.1.symm) e4 (e5 _ (am_ma_in _ hf)) (e5 _ (am_mw_in _ (List.mem_of_getElem? (i := 4) rfl))) (e5 _ (am_mw_in _ (List.mem_of_getElem? (i := 6) rfl))) (e5 _ (am_mw_in _ (List.mem_of_getElem? (i := 5) rfl))) (by omega) (by rw [am_cats]; omega) e11 e12 hd ?_
    rw [← am_0]
    simp only [am_le, am_c0]
    split at kk
    · rename_i hc
      rw [if_pos hc]; exact kk
    · rename_i hc
      rw [if_neg hc, ← Int32.ofInt_sub]; exact kk
  · exact h.elim
theorem am_s_return {l : Launch} {L : Nat} {xs : Nat → Int} {y : Nat} {Q : Option am_V → am_N → Prop} {K : Nat → List (Option am_V) → List am_V → am_N → Prop} {pc : Nat} {lv : List (Option am_V)} {st : List am_V} {μ : am_N}  (hk : ∀ pc lv st μ, K pc lv st μ → am_AW l L xs y Q pc lv st μ) (hd : decode (am_bt y) pc = .ok (.return_, 1)) (hr : am_re y = none) (h : am_stp l L xs y Q K (0, 42, 0, 0, 0, 0, []) lv st μ) : am_AW l L xs y Q pc lv st μ := by
  simp only [am_stp] at h
  split at h
  · intro p e R s m args below meth c D ad ca tys B0 cells slots Qf E hret H locs ls hL hP hD hS
    exact hret none μ H locs pc ls h.2 hP hD hS ⟨hd, hr⟩
  · exact h.elim
theorem am_s_ireturn {l : Launch} {L : Nat} {xs : Nat → Int} {y : Nat} {Q : Option am_V → am_N → Prop} {K : Nat → List (Option am_V) → List am_V → am_N → Prop} {pc : Nat} {lv : List (Option am_V)} {st : List am_V} {μ : am_N}  (hk : ∀ pc lv st μ, K pc lv st μ → am_AW l L xs y Q pc lv st μ) (hd : decode (am_bt y) pc = .ok (.ireturn, 1)) (hr : am_re y = some .int) (h : am_stp l L xs y Q K (0, 43, 0, 0, 0, 0, []) lv st μ) : am_AW l L xs y Q pc lv st μ := by
  simp only [am_stp] at h
  split at h
  · rename_i v
    intro p e R s m args below meth c D ad ca tys B0 cells slots Qf E hret H locs ls hL hP hD hS
    exact hret (some (.inl v)) μ H locs pc ls h.2 hP hD hS ⟨hd, Or.inl hr⟩
  · exact h.elim
theorem am_s_ireturnz {l : Launch} {L : Nat} {xs : Nat → Int} {y : Nat} {Q : Option am_V → am_N → Prop} {K : Nat → List (Option am_V) → List am_V → am_N → Prop} {pc : Nat} {lv : List (Option am_V)} {st : List am_V} {μ : am_N}  (hk : ∀ pc lv st μ, K pc lv st μ → am_AW l L xs y Q pc lv st μ) (hd : decode (am_bt y) pc = .ok (.ireturn, 1)) (hr : am_re y = some .boolean) (h : am_stp l L xs y Q K (0, 43, 0, 0, 1, 0, []) lv st μ) : am_AW l L xs y Q pc lv st μ := by
  simp only [am_stp] at h
  split at h
  · rename_i v
    intro p e R s m args below meth c D ad ca tys B0 cells slots Qf E hret H locs ls hL hP hD hS
    exact hret (some (.inl v)) μ H locs pc ls h.2 hP hD hS ⟨hd, Or.inr ⟨hr, h.1⟩⟩
  · exact h.elim
theorem am_s_lreturn {l : Launch} {L : Nat} {xs : Nat → Int} {y : Nat} {Q : Option am_V → am_N → Prop} {K : Nat → List (Option am_V) → List am_V → am_N → Prop} {pc : Nat} {lv : List (Option am_V)} {st : List am_V} {μ : am_N}  (hk : ∀ pc lv st μ, K pc lv st μ → am_AW l L xs y Q pc lv st μ) (hd : decode (am_bt y) pc = .ok (.lreturn, 1)) (hr : am_re y = some .long) (h : am_stp l L xs y Q K (0, 44, 0, 0, 0, 0, []) lv st μ) : am_AW l L xs y Q pc lv st μ := by
  simp only [am_stp] at h
  split at h
  · rename_i v
    intro p e R s m args below meth c D ad ca tys B0 cells slots Qf E hret H locs ls hL hP hD hS
    exact hret (some (.inr (.inl v))) μ H locs pc ls h.2 hP hD hS ⟨hd, hr⟩
  · exact h.elim
theorem am_s_table {l : Launch} {L : Nat} {xs : Nat → Int} {y : Nat} {Q : Option am_V → am_N → Prop} {K : Nat → List (Option am_V) → List am_V → am_N → Prop} {pc : Nat} {lv : List (Option am_V)} {st : List am_V} {μ : am_N} {d lo hi : Int} {offs : Array Int} {len : Nat} (hk : ∀ pc lv st μ, K pc lv st μ → am_AW l L xs y Q pc lv st μ) (hd : decode (am_bt y) pc = .ok (.tableswitch d lo hi offs, len)) (h0 : 0 ≤ (pc : Int) + d) (h1 : ∀ o ∈ offs.toList, 0 ≤ (pc : Int) + o) (h2 : (offs.toList.length : Int) = hi - lo + 1) (h : am_stp l L xs y Q K (0, 45, ((pc : Int) + d).toNat, 0, 0, 0, am_tb pc lo offs.toList) lv st μ) : am_AW l L xs y Q pc lv st μ := by
  simp only [am_stp] at h
  split at h
  · rename_i v r
    intro p e R s m args below meth c D ad ca tys B0 cells slots Qf E hret H locs ls hL hP hD hS
    rcases am_sw_tb h with ⟨o, ho, hK⟩ | ⟨ho, hK⟩
    · have hlo : ¬ am_c v < lo := ho.1
      have ho2 := ho.2
      have hmem : o ∈ offs.toList := List.mem_of_getElem? ho2
      have hlt : (am_c v - lo).toNat < offs.toList.length := (List.getElem?_eq_some_iff.mp ho2).1
      exact lv_tableIn (tgt := ((pc : Int) + o).toNat) E.1 E.2.1 hd (by rw [am_toInt]; exact hlo) (by rw [am_toInt]; omega) (by rw [am_toInt, ← Array.getElem?_toList]; exact ho2) (by have := h1 o hmem; omega) (hk _ _ _ _ hK p e R s m args below meth c D ad ca tys B0 cells slots Qf E hret H locs ls hL hP hD hS)
    · exact lv_tableOut (tgt := ((pc : Int) + d).toNat) E.1 E.2.1 hd (by rw [am_toInt]; rcases ho with q | q; exact Or.inl q; exact Or.inr (by omega)) (by omega) (hk _ _ _ _ hK p e R s m args below meth c D ad ca tys B0 cells slots Qf E hret H locs ls hL hP hD hS)
  · exact h.elim
theorem am_s_lookup {l : Launch} {L : Nat} {xs : Nat → Int} {y : Nat} {Q : Option am_V → am_N → Prop} {K : Nat → List (Option am_V) → List am_V → am_N → Prop} {pc : Nat} {lv : List (Option am_V)} {st : List am_V} {μ : am_N} {d : Int} {ps : Array (Int × Int)} {len : Nat} (hk : ∀ pc lv st μ, K pc lv st μ → am_AW l L xs y Q pc lv st μ) (hd : decode (am_bt y) pc = .ok (.lookupswitch d ps, len)) (h0 : 0 ≤ (pc : Int) + d) (h1 : ∀ o ∈ ps.toList, 0 ≤ (pc : Int) + o.2) (h2 : (ps.toList.zip (ps.toList.drop 1)).all (fun (a, next) => a.1 < next.1) = true) (h : am_stp l L xs y Q K (0, 45, ((pc : Int) + d).toNat, 0, 0, 0, ps.toList.map (fun o => (o.1, ((pc : Int) + o.2).toNat))) lv st μ) : am_AW l L xs y Q pc lv st μ := by
  simp only [am_stp] at h
  split at h
  · rename_i v r
    intro p e R s m args below meth c D ad ca tys B0 cells slots Qf E hret H locs ls hL hP hD hS
    obtain ⟨hK, hn⟩ := am_sw_lk h0 h1 h
    exact lv_lookup (tgt := ((pc : Int) + Op.lookupswitch.offset ps.toList d (am_c v)).toNat) E.1 E.2.1 hd h2 (by rw [am_toInt]) (by omega) (hk _ _ _ _ hK p e R s m args below meth c D ad ca tys B0 cells slots Qf E hret H locs ls hL hP hD hS)
  · exact h.elim
theorem am_s_invv {l : Launch} {L : Nat} {xs : Nat → Int} {y : Nat} {Q : Option am_V → am_N → Prop} {K : Nat → List (Option am_V) → List am_V → am_N → Prop} {pc : Nat} {lv : List (Option am_V)} {st : List am_V} {μ : am_N} {k z : Nat} (hk : ∀ pc lv st μ, K pc lv st μ → am_AW l L xs y Q pc lv st μ) (hd : decode (am_bt y) pc = .ok (.invokevirtual k, 3)) (hf : (am_ow y, k, z) ∈ am_ca) (h0 : 0 < z) (h1 : z < am_ny) (h2 : am_fr z + 1 ≤ am_fr y) (h3 : 19 + am_ml z + am_lo z ≤ am_lo y) (h4 : am_st z = false) (h : am_stp l L xs y Q K (pc + 3, 40, z, (am_na z), (am_ow z + 2), 0, []) lv st μ) : am_AW l L xs y Q pc lv st μ := by
  simp only [am_stp] at h
  split at h
  · rename_i b as has
    obtain ⟨g0, -, h⟩ := am_ifb h
    obtain ⟨g1, g0⟩ := am_bb g0
    obtain ⟨g2, g3⟩ := am_bb g0
    have g1 := Nat.eq_of_beq_eq_true g1
    have g2 := Nat.le_of_ble_eq_true g2
    have g3 := Nat.le_of_ble_eq_true g3
    intro p e R s m args below meth c D ad ca tys B0 cells slots Qf E hret H locs ls hL hP hD hS
    obtain ⟨e1, e2, e3, e4, e5, e6, e7, e8, e9, e10, e11, e12, e13⟩ := id E
    obtain ⟨fs, hfs⟩ := am_tag_ok g1
    obtain ⟨m1, m2, m3, m4, m5, m6⟩ := am_md_ok h0 h1
    have hlen : as.length + 1 = am_na z := by
      have q := congrArg List.length has
      rw [List.length_reverse, List.length_take] at q
      simp only [List.length_cons] at q
      omega
    have hst : st.map (am_rv ad) = ((as.map (am_rv ad)).reverse ++ .ref (ad b) :: (st.drop (am_na z)).map (am_rv ad)) := by
      have q1 : st.take (am_na z) = as.reverse ++ [.inr (.inr b)] := by rw [← List.reverse_reverse (st.take (am_na z)), has, List.reverse_cons]
      have q2 : st = (as.reverse ++ [.inr (.inr b)]) ++ st.drop (am_na z) := by rw [← q1, List.take_append_drop]
      refine (congrArg (List.map (am_rv ad)) q2).trans ?_
      rw [List.map_append, List.map_append, List.map_reverse, List.append_assoc]
      rfl
    have cw : CallW R s args (am_cn (am_ow y)) (am_cn (am_ow z)) k (am_md z).1 (am_bt z) (am_ml z) (am_re z) (am_w z) (am_rm z) 0 0 as.length :=
      ⟨callB_of (Ts := am_big) as.length e5 (am_goodw h0 h1) rfl rfl rfl (e5 _ m5) (e5 _ (am_ca_in _ hf)) ⟨m2.1, m2.2, by rw [m3, h4]; simp only [Bool.false_eq_true, if_false, Option.some.injEq]; omega⟩ ⟨Nat.le_trans h2 e9, by show 8 + (am_ml z + 11) + am_lo z ≤ R.locals; omega⟩, e5 _ (m4.1 h4), by rw [← m1]; exact e5 _ (m4.2 h4)⟩
    rw [hst]
    refine am_callW (va_runV (As := as.map (am_rv ad)) (rest := (st.drop (am_na z)).map (am_rv ad)) ⟨e1, e2, e3, e4, e5⟩ (h D ad ca tys B0 e7) cw ⟨am_blind, am_recv m6 e6 hP hfs, fun U hU hW => ⟨rfl, by rw [hU]; exact Nat.le_trans e8 hS.1, by rw [hU]; exact hP, va_K.moved hW.alike e6, hD⟩⟩ rfl (by rw [List.length_map]) hL.1 rfl (lv_room (by rw [am_cats]; exact g3)) hd ⟨e11, e12⟩) hS (fun r μ' H1 locs1 hq hP hD hS => ?_)
    have kk := hk _ _ _ _ hq p e R s m args below meth c D ad ca tys B0 cells slots Qf E hret H1 locs1 ls hL hP hD hS
    rw [List.map_append] at kk
    have e : (am_rs r).map (am_rv ad) = (r.map (am_rv ad)).toList := by cases r <;> rfl
    rw [e] at kk
    exact kk
  · exact h.elim
theorem am_s_invs {l : Launch} {L : Nat} {xs : Nat → Int} {y : Nat} {Q : Option am_V → am_N → Prop} {K : Nat → List (Option am_V) → List am_V → am_N → Prop} {pc : Nat} {lv : List (Option am_V)} {st : List am_V} {μ : am_N} {k z : Nat} (hk : ∀ pc lv st μ, K pc lv st μ → am_AW l L xs y Q pc lv st μ) (hd : decode (am_bt y) pc = .ok (.invokestatic k, 3)) (hf : (am_ow y, k, z) ∈ am_ca) (h0 : 0 < z) (h1 : z < am_ny) (h2 : am_fr z + 1 ≤ am_fr y) (h3 : 19 + am_ml z + am_lo z ≤ am_lo y) (h4 : am_st z = true) (h5 : am_ow z = am_ow y) (h : am_stp l L xs y Q K (pc + 3, 41, z, (am_na z), 0, 0, []) lv st μ) : am_AW l L xs y Q pc lv st μ := by
  simp only [am_stp] at h
  obtain ⟨g0, -, h⟩ := am_ifb h
  obtain ⟨g2, g3⟩ := am_bb g0
  have g2 := Nat.le_of_ble_eq_true g2
  have g3 := Nat.le_of_ble_eq_true g3
  intro p e R s m args below meth c D ad ca tys B0 cells slots Qf E hret H locs ls hL hP hD hS
  obtain ⟨e1, e2, e3, e4, e5, e6, e7, e8, e9, e10, e11, e12, e13⟩ := id E
  obtain ⟨m1, m2, m3, m4, m5, m6⟩ := am_md_ok h0 h1
  have hlen : ((st.take (am_na z)).reverse.map (am_rv ad)).length = am_na z := by
    rw [List.length_map, List.length_reverse, List.length_take]; omega
  have hst : st.map (am_rv ad) = (((st.take (am_na z)).reverse.map (am_rv ad)).reverse ++ (st.drop (am_na z)).map (am_rv ad)) := by
    rw [← List.map_reverse, List.reverse_reverse, ← List.map_append, List.take_append_drop]
  have cw : CallB R s args (am_cn (am_ow y)) k (am_md z).1 (am_bt z) (am_ml z) (am_re z) (am_w z) (am_rm z) 0 0 (am_na z) ∧ (Cond.static (am_md z).1).before args s = true :=
    ⟨callB_of (Ts := am_big) (am_na z) e5 (am_goodw h0 h1) rfl rfl rfl (e5 _ m5) (e5 _ (am_ca_in _ hf)) ⟨m2.1, m2.2, by rw [m3, h4]; rfl⟩ ⟨Nat.le_trans h2 e9, by show 8 + (am_ml z + 11) + am_lo z ≤ R.locals; omega⟩, e5 _ (am_md_st h0 h1 h4)⟩
  rw [hst]
  refine am_callW (va_runS (As := (st.take (am_na z)).reverse.map (am_rv ad)) (rest := (st.drop (am_na z)).map (am_rv ad)) ⟨e1, e2, e3, e4, e5⟩ (h D ad ca tys B0 e7) cw ⟨am_blind, fun U hU hW => ⟨rfl, by rw [hU]; exact Nat.le_trans e8 hS.1, by rw [hU]; exact hP, va_K.moved hW.alike e6, hD⟩⟩ rfl hlen hL.1 rfl (lv_room (by rw [am_cats]; exact g3)) hd ⟨e11, e12⟩) hS (fun r μ' H1 locs1 hq hP hD hS => ?_)
  have kk := hk _ _ _ _ hq p e R s m args below meth c D ad ca tys B0 cells slots Qf E hret H1 locs1 ls hL hP hD hS
  rw [List.map_append] at kk
  have e : (am_rs r).map (am_rv ad) = (r.map (am_rv ad)).toList := by cases r <;> rfl
  rw [e] at kk
  exact kk

theorem am_len {i len : Nat} (h : (i == 0 || len == i) = true) (h2 : i ≠ 0) : len = i := by
  rcases Bool.or_eq_true_iff.mp h with q | q
  · exact absurd (beq_iff_eq.mp q) h2
  · exact beq_iff_eq.mp q
theorem am_find {α : Type} {l : List (Nat × Nat × α)} {a b : Nat} {f : Nat × Nat × α} (h : l.find? (fun f => Nat.beq f.1 a && Nat.beq f.2.1 b) = some f) : (a, b, f.2.2) ∈ l := by
  have h1 := List.mem_of_find?_eq_some h
  have h2 := List.find?_some h
  simp only [Bool.and_eq_true, Nat.beq_eq] at h2
  rw [← h2.1, ← h2.2]
  exact h1
theorem am_brok {pc : Nat} {off : Int} {x : am_I} {P : am_I → Prop} (h : P (am_br pc off x)) (hb : ¬ P am_bad) : 0 ≤ (pc : Int) + off ∧ P x := by
  unfold am_br at h
  split at h
  · exact ⟨by assumption, h⟩
  · exact absurd h hb
set_option maxHeartbeats 4000000 in
theorem am_stp_ok {l : Launch} {L : Nat} {xs : Nat → Int} {y : Nat} {Q : Option am_V → am_N → Prop} {K : Nat → List (Option am_V) → List am_V → am_N → Prop} {pc : Nat} {lv : List (Option am_V)} {st : List am_V} {μ : am_N} {x : am_I} (hk : ∀ pc lv st μ, K pc lv st μ → am_AW l L xs y Q pc lv st μ) (hc : am_chk y pc x = true) (h : am_stp l L xs y Q K x lv st μ) : am_AW l L xs y Q pc lv st μ := by
  unfold am_chk at hc
  split at hc
  case h_2 => cases hc
  rename_i i len hd
  obtain ⟨hlen, hx⟩ := am_bb hc
  have hx := am_ie_eq hx
  subst hx
  have bad : ¬ am_stp l L xs y Q K am_bad lv st μ := fun q => q
  cases i
  case iconst n =>
    rw [am_len hlen (by simp [am_ln])] at hd
    exact am_s_iconst hk hd h
  case bipush n =>
    rw [am_len hlen (by simp [am_ln])] at hd
    exact am_s_bipush hk hd h
  case sipush n =>
    rw [am_len hlen (by simp [am_ln])] at hd
    exact am_s_sipush hk hd h
  case lconst n =>
    rw [am_len hlen (by simp [am_ln])] at hd
    exact am_s_lconst hk hd h
  case ldc k =>
    rw [am_len hlen (by simp [am_ln])] at hd
    simp only [am_nrm] at h
    split at h
    · rename_i f hf
      exact am_s_ldc hk hd (am_find hf) h
    · exact (bad h).elim
  case ldc_w k =>
    rw [am_len hlen (by simp [am_ln])] at hd
    simp only [am_nrm] at h
    split at h
    · rename_i f hf
      exact am_s_ldc_w hk hd (am_find hf) h
    · exact (bad h).elim
  case ldc2_w k =>
    rw [am_len hlen (by simp [am_ln])] at hd
    simp only [am_nrm] at h
    split at h
    · rename_i f hf
      exact am_s_ldc2 hk hd (am_find hf) h
    · exact (bad h).elim
  case iload k =>
    rw [am_len hlen (by simp [am_ln])] at hd
    exact am_s_iload hk hd h
  case iload_n k =>
    rw [am_len hlen (by simp [am_ln])] at hd
    exact am_s_iload_n hk hd h
  case lload k =>
    rw [am_len hlen (by simp [am_ln])] at hd
    exact am_s_lload hk hd h
  case lload_n k =>
    rw [am_len hlen (by simp [am_ln])] at hd
    exact am_s_lload_n hk hd h
  case aload k =>
    rw [am_len hlen (by simp [am_ln])] at hd
    exact am_s_aload hk hd h
  case aload_n k =>
    rw [am_len hlen (by simp [am_ln])] at hd
    exact am_s_aload_n hk hd h
  case istore k =>
    rw [am_len hlen (by simp [am_ln])] at hd
    exact am_s_istore hk hd h
  case istore_n k =>
    rw [am_len hlen (by simp [am_ln])] at hd
    exact am_s_istore_n hk hd h
  case lstore k =>
    rw [am_len hlen (by simp [am_ln])] at hd
    exact am_s_lstore hk hd h
  case lstore_n k =>
    rw [am_len hlen (by simp [am_ln])] at hd
    exact am_s_lstore_n hk hd h
  case iinc k n =>
    rw [am_len hlen (by simp [am_ln])] at hd
    exact am_s_iinc hk hd h
  case getfield k =>
    rw [am_len hlen (by simp [am_ln])] at hd
    simp only [am_nrm] at h
    split at h
    · rename_i f hf
      exact am_s_getfield hk hd (am_find hf) h
    · exact (bad h).elim
  case putfield k =>
    rw [am_len hlen (by simp [am_ln])] at hd
    simp only [am_nrm] at h
    split at h
    · rename_i f hf
      split at h
      · rename_i hfin
        split at h
        · rename_i hty
          exact am_s_putfield hk hd (am_find hf) hfin hty h
        · rename_i hty
          exact am_s_putfieldz hk hd (am_find hf) hfin hty h
        · exact (bad h).elim
      · exact (bad h).elim
    · exact (bad h).elim
  case iaload =>
    rw [am_len hlen (by simp [am_ln])] at hd
    exact am_s_iaload hk hd h
  case iastore =>
    rw [am_len hlen (by simp [am_ln])] at hd
    exact am_s_iastore hk hd h
  case aaload =>
    rw [am_len hlen (by simp [am_ln])] at hd
    exact am_s_aaload hk hd h
  case arraylength =>
    rw [am_len hlen (by simp [am_ln])] at hd
    exact am_s_alen hk hd h
  case iadd =>
    rw [am_len hlen (by simp [am_ln])] at hd
    exact am_s_iadd hk hd h
  case isub =>
    rw [am_len hlen (by simp [am_ln])] at hd
    exact am_s_isub hk hd h
  case imul =>
    rw [am_len hlen (by simp [am_ln])] at hd
    exact am_s_imul hk hd h
  case idiv =>
    rw [am_len hlen (by simp [am_ln])] at hd
    exact am_s_idiv hk hd h
  case irem =>
    rw [am_len hlen (by simp [am_ln])] at hd
    exact am_s_irem hk hd h
  case iand =>
    rw [am_len hlen (by simp [am_ln])] at hd
    exact am_s_iand hk hd h
  case ior =>
    rw [am_len hlen (by simp [am_ln])] at hd
    exact am_s_ior hk hd h
  case ixor =>
    rw [am_len hlen (by simp [am_ln])] at hd
    exact am_s_ixor hk hd h
  case ishl =>
    rw [am_len hlen (by simp [am_ln])] at hd
    exact am_s_ishl hk hd h
  case ishr =>
    rw [am_len hlen (by simp [am_ln])] at hd
    exact am_s_ishr hk hd h
  case ineg =>
    rw [am_len hlen (by simp [am_ln])] at hd
    exact am_s_ineg hk hd h
  case i2l =>
    rw [am_len hlen (by simp [am_ln])] at hd
    exact am_s_i2l hk hd h
  case lcmp =>
    rw [am_len hlen (by simp [am_ln])] at hd
    exact am_s_lcmp hk hd h
  case ladd =>
    rw [am_len hlen (by simp [am_ln])] at hd
    exact am_s_ladd hk hd h
  case lsub =>
    rw [am_len hlen (by simp [am_ln])] at hd
    exact am_s_lsub hk hd h
  case lmul =>
    rw [am_len hlen (by simp [am_ln])] at hd
    exact am_s_lmul hk hd h
  case ldiv =>
    rw [am_len hlen (by simp [am_ln])] at hd
    exact am_s_ldiv hk hd h
  case lrem =>
    rw [am_len hlen (by simp [am_ln])] at hd
    exact am_s_lrem hk hd h
  case pop =>
    rw [am_len hlen (by simp [am_ln])] at hd
    exact am_s_pop hk hd h
  case pop2 =>
    rw [am_len hlen (by simp [am_ln])] at hd
    exact am_s_pop2 hk hd h
  case dup =>
    rw [am_len hlen (by simp [am_ln])] at hd
    exact am_s_dup hk hd h
  case dup2 =>
    rw [am_len hlen (by simp [am_ln])] at hd
    exact am_s_dup2 hk hd h
  case dup_x1 =>
    rw [am_len hlen (by simp [am_ln])] at hd
    exact am_s_dup_x1 hk hd h
  case goto o =>
    rw [am_len hlen (by simp [am_ln])] at hd
    obtain ⟨h0, h⟩ := am_brok (P := fun x => am_stp l L xs y Q K x lv st μ) h bad
    exact am_s_goto hk hd h0 h
  case ifCond cd o =>
    rw [am_len hlen (by simp [am_ln])] at hd
    obtain ⟨h0, h⟩ := am_brok (P := fun x => am_stp l L xs y Q K x lv st μ) h bad
    cases cd
    · exact am_s_if_eq hk hd h0 h
    · exact am_s_if_ne hk hd h0 h
    · exact am_s_if_lt hk hd h0 h
    · exact am_s_if_ge hk hd h0 h
    · exact am_s_if_gt hk hd h0 h
    · exact am_s_if_le hk hd h0 h
  case if_icmp cd o =>
    rw [am_len hlen (by simp [am_ln])] at hd
    obtain ⟨h0, h⟩ := am_brok (P := fun x => am_stp l L xs y Q K x lv st μ) h bad
    cases cd
    · exact am_s_icmp_eq hk hd h0 h
    · exact am_s_icmp_ne hk hd h0 h
    · exact am_s_icmp_lt hk hd h0 h
    · exact am_s_icmp_ge hk hd h0 h
    · exact am_s_icmp_gt hk hd h0 h
    · exact am_s_icmp_le hk hd h0 h
  case invokevirtual k =>
    rw [am_len hlen (by simp [am_ln])] at hd
    simp only [am_nrm] at h
    split at h
    · rename_i f hf
      split at h
      · rename_i hok
        simp only [am_okc, Bool.and_eq_true, decide_eq_true_eq, Bool.not_eq_true'] at hok
        exact am_s_invv hk hd (am_find hf) hok.1.1.1.1 hok.1.1.1.2 hok.1.1.2 hok.1.2 hok.2 h
      · exact (bad h).elim
    · exact (bad h).elim
  case invokestatic k =>
    rw [am_len hlen (by simp [am_ln])] at hd
    simp only [am_nrm] at h
    split at h
    · rename_i f hf
      split at h
      · rename_i hok
        simp only [am_okc, Bool.and_eq_true, decide_eq_true_eq, Nat.beq_eq] at hok
        exact am_s_invs hk hd (am_find hf) hok.1.1.1.1.1 hok.1.1.1.1.2 hok.1.1.1.2 hok.1.1.2 hok.1.2 hok.2 h
      · exact (bad h).elim
    · split at h
      · rename_i f hf
        split at h
        · rename_i hok
          simp only [Bool.and_eq_true, decide_eq_true_eq] at hok
          have hm := am_find hf
          match hq : f.2.2, hok.2 with
          | 0, _ =>
            rw [hq] at h hm
            exact am_s_mmax hok.1.1 hok.1.2 hk hd hm h
          | 1, _ =>
            rw [hq] at h hm
            exact am_s_mmin hok.1.1 hok.1.2 hk hd hm h
          | 2, _ =>
            rw [hq] at h hm
            exact am_s_mabs hok.1.1 hok.1.2 hk hd hm h
        · exact (bad h).elim
      · exact (bad h).elim
  case return_ =>
    rw [am_len hlen (by simp [am_ln])] at hd
    simp only [am_nrm] at h
    split at h
    · rename_i hr
      exact am_s_return hk hd hr h
    · exact (bad h).elim
  case ireturn =>
    rw [am_len hlen (by simp [am_ln])] at hd
    simp only [am_nrm] at h
    split at h
    · rename_i hr
      exact am_s_ireturn hk hd hr h
    · rename_i hr
      exact am_s_ireturnz hk hd hr h
    · exact (bad h).elim
  case lreturn =>
    rw [am_len hlen (by simp [am_ln])] at hd
    simp only [am_nrm] at h
    split at h
    · rename_i hr
      exact am_s_lreturn hk hd hr h
    · exact (bad h).elim
  case tableswitch d lo hi offs =>
    simp only [am_nrm] at h
    split at h
    · rename_i hok
      simp only [Bool.and_eq_true, decide_eq_true_eq, List.all_eq_true] at hok
      exact am_s_table hk hd hok.1.1 hok.1.2 hok.2 h
    · exact (bad h).elim
  case lookupswitch d ps =>
    simp only [am_nrm] at h
    split at h
    · rename_i hok
      rw [Bool.and_eq_true, Bool.and_eq_true, decide_eq_true_eq, List.all_eq_true] at hok
      exact am_s_lookup hk hd hok.1.1 (fun o ho => by simpa using hok.1.2 o ho) hok.2 h
    · exact (bad h).elim
  all_goals exact (bad h).elim
