/-! the abstract machine: numbers are Ints (held modulo 2^32, 2^64), references are places of am_sh; one step of it as a condition -/
abbrev am_N : Type := Nat → Nat → Int
abbrev am_V : Type := Int ⊕ (Int ⊕ Nat)
abbrev am_I : Type := Nat × Nat × Nat × Nat × Nat × Int × List (Int × Nat)
def am_c (z : Int) : Int := (z + 2147483648) % 4294967296 - 2147483648
def am_d (z : Int) : Int := (z + 9223372036854775808) % 18446744073709551616 - 9223372036854775808
def am_up (μ : am_N) (k j : Nat) (v : Int) : am_N := fun a b => if a = k ∧ b = j then v else μ a b
def am_and (x y : Int) : Int := (Int32.ofInt x &&& Int32.ofInt y).toInt
def am_or (x y : Int) : Int := (Int32.ofInt x ||| Int32.ofInt y).toInt
def am_xor (x y : Int) : Int := (Int32.ofInt x ^^^ Int32.ofInt y).toInt
def am_shl (x y : Int) : Int := (Int32.ofInt x <<< (Int32.ofInt y &&& 31)).toInt
def am_shr (x y : Int) : Int := (Int32.ofInt x >>> (Int32.ofInt y &&& 31)).toInt
def am_rv (ad : Nat → Nat) : am_V → Value := fun v => match v with
  | .inl z => .int (Int32.ofInt z)
  | .inr (.inl z) => .long (Int64.ofInt z)
  | .inr (.inr k) => .ref (ad k)
def am_cat : am_V → Nat := fun v => match v with
  | .inr (.inl _) => 2
  | _ => 1
def am_fv (ad : Nat → Nat) (f : Nat → Int) (j : Nat) (c : Nat) : Value := match c with
  | 0 => .int (Int32.ofInt (f j))
  | r + 1 => .ref (ad r)
def am_ce (ad : Nat → Nat) (ca : Nat → ClassId) (k : Nat) (q : Nat × List Nat) (f : Nat → Int) : va_E := match q.1 with
  | 0 => .inl (ca k, q.2.headD 0, .inl (fun j => Int32.ofInt (f j)))
  | 1 => .inl (ca k, q.2.length, .inr (.inr (.inr (.inr (fun i => (q.2[i]?).map ad)))))
  | c + 2 => .inr (c, q.2.mapIdx (am_fv ad f))
def am_ws (ad : Nat → Nat) (ca : Nat → ClassId) (μ : am_N) : va_W := am_sh.mapIdx (fun k q => (ad k, am_ce ad ca k q (μ k)))
def am_TY (ca : Nat → ClassId) (tys : List (ClassId × FieldType)) : Prop := ∀ (k : Nat) (q : Nat × List Nat), am_sh[k]? = some q → (q.1 = 0 → ∃ t0 : Nat, tys[t0]? = some (ca k, .int)) ∧ (q.1 = 1 → ∃ t0 : Nat, tys[t0]? = some (ca k, .array .int))
def am_A (B0 : Nat) : Nat → Prop := fun q => B0 ≤ q
def am_Q (Q : Option am_V → am_N → Prop) (D : va_G) (ad : Nat → Nat) (ca : Nat → ClassId) (B0 : Nat) : Array Value → State → Outcome → State → Prop := fun _ st o t =>
  (∃ (r : Option am_V) (μ' : am_N), o = .returned (r.map (am_rv ad)) ∧ Q r μ' ∧ va_P D vwCl (am_ws ad ca μ') t.heap ∧ va_D (am_A B0) (am_ws ad ca μ')) ∧ va_F (am_A B0) st t
def am_bt (y : Nat) : ByteArray := (am_md y).2.1
def am_ml (y : Nat) : Nat := (am_md y).2.2.1
def am_re (y : Nat) : Option FieldType := (am_md y).2.2.2.1
def am_ow (y : Nat) : Nat := (am_md y).2.2.2.2.1
def am_na (y : Nat) : Nat := (am_md y).2.2.2.2.2.1
def am_fr (y : Nat) : Nat := (am_md y).2.2.2.2.2.2.1
def am_lo (y : Nat) : Nat := (am_md y).2.2.2.2.2.2.2.1
def am_st (y : Nat) : Bool := (am_md y).2.2.2.2.2.2.2.2
def am_w (y : Nat) : List Cond := Cond.code (am_md y).1 (am_bt y) (am_ml y) (am_re y) :: am_big
def am_rm (y : Nat) : Room := { frames := am_fr y, cells := 0, slots := 0, locals := am_lo y }
def am_Pc (D : va_G) (ad : Nat → Nat) (ca : Nat → ClassId) (tys : List (ClassId × FieldType)) (B0 : Nat) (args : List am_V) (μ : am_N) : Array Value → State → Prop :=
  va_Pc (args.map (am_rv ad)) (fun U => B0 ≤ U.heap.size ∧ va_P D vwCl (am_ws ad ca μ) U.heap ∧ va_K D vwCl tys U ∧ va_D (am_A B0) (am_ws ad ca μ))
/-- what a call does: from the numbers μ, with these arguments, method y returns, and Q holds of its answer and of the numbers then -/
def am_Does (l : Launch) (y : Nat) (args : List am_V) (μ : am_N) (Q : Option am_V → am_N → Prop) : Prop :=
  ∀ (D : va_G) (ad : Nat → Nat) (ca : Nat → ClassId) (tys : List (ClassId × FieldType)) (B0 : Nat), am_TY ca tys → Met l (am_md y).1 (am_w y) (am_rm y) (am_Pc D ad ca tys B0 args μ) (am_Q Q D ad ca B0) 0 0 (am_A B0)
def am_L (ls : Array Slot) (nL : Nat) (ad : Nat → Nat) (lv : List (Option am_V)) : Prop := ls.size = nL ∧ lv_wf ls ∧ (∀ (i : Nat) (v : am_V), lv[i]? = some (some v) → ls[i]? = some (.val (am_rv ad v))) ∧ lv.length = nL
def am_Env (y L : Nat) (xs : Nat → Int) (p : Program) (R : Room) (s : State) (m : MethodId) (args : Array Value) (c : Code) (D : va_G) (ad : Nat → Nat) (ca : Nat → ClassId) (tys : List (ClassId × FieldType)) (B0 cells slots : Nat) : Prop :=
  p.tables.exec = Jvm.exec ∧ c.code = am_bt y ∧ c.maxLocals = am_ml y ∧ s.vm.findClass (am_cn (am_ow y)) = some m.cls ∧ (∀ w ∈ am_big, w.before args s = true) ∧ va_K D vwCl tys s ∧ am_TY ca tys ∧ B0 ≤ s.heap.size ∧ am_fr y ≤ R.frames ∧ am_lo y ≤ R.locals ∧ cells ≤ R.cells ∧ slots ≤ R.slots ∧
  (y = 0 → va_X (ad 999) L (fun j => Int32.ofInt (xs j)) s s.heap ∧ ad 999 < s.heap.size ∧ ad 999 < B0)
/-- which instruction ends with the answer r -/
def am_rt (y pc : Nat) (r : Option am_V) : Prop := match r with
  | none => decode (am_bt y) pc = .ok (.return_, 1) ∧ am_re y = none
  | some (.inl z) => decode (am_bt y) pc = .ok (.ireturn, 1) ∧ (am_re y = some .int ∨ (am_re y = some .boolean ∧ (z = 0 ∨ z = 1)))
  | some (.inr (.inl _)) => decode (am_bt y) pc = .ok (.lreturn, 1) ∧ am_re y = some .long
  | some (.inr (.inr _)) => False
/-- from here method y comes to its end, with Q -/
def am_AW (l : Launch) (L : Nat) (xs : Nat → Int) (y : Nat) (Q : Option am_V → am_N → Prop) (pc : Nat) (lv : List (Option am_V)) (st : List am_V) (μ : am_N) : Prop :=
  ∀ (p : Program) (e : Env) (R : Room) (s : State) (m : MethodId) (args : Array Value) (below : List Frame) (meth : Method) (c : Code) (D : va_G) (ad : Nat → Nat) (ca : Nat → ClassId) (tys : List (ClassId × FieldType)) (B0 cells slots : Nat) (Qf : State → Prop),
    am_Env y L xs p R s m args c D ad ca tys B0 cells slots →
    (∀ (r : Option am_V) (μ' : am_N) (H : Heap) (locs : List Loc) (pc' : Nat) (ls : Array Slot), Q r μ' → va_P D vwCl (am_ws ad ca μ') H → va_D (am_A B0) (am_ws ad ca μ') → va_S (am_A B0) s.heap H locs → am_rt y pc' r →
      W p l e R s m args below meth c H locs cells slots Qf (F0 m pc' ls (r.map (am_rv ad)).toList)) →
    ∀ (H : Heap) (locs : List Loc) (ls : Array Slot), am_L ls (am_ml y) ad lv → va_P D vwCl (am_ws ad ca μ) H → va_D (am_A B0) (am_ws ad ca μ) → va_S (am_A B0) s.heap H locs →
      W p l e R s m args below meth c H locs cells slots Qf (F0 m pc ls (st.map (am_rv ad)))
/-- a switch -/
def am_sw (ts : List (Int × Nat)) (v : Int) (d : Nat) (K : Nat → Prop) : Prop := match ts with
  | [] => K d
  | (k, t) :: r => (v = k → K t) ∧ (v ≠ k → am_sw r v d K)
def am_co2 (cond : Nat) (x y : Int) : Prop := match cond with
  | 0 => x = y
  | 1 => ¬ x = y
  | 2 => x < y
  | 3 => y ≤ x
  | 4 => y < x
  | _ => x ≤ y
def am_br2 (cond : Nat) (x y : Int) (A B : Prop) : Prop := match cond with
  | 0 => (x = y → A) ∧ (¬ x = y → B)
  | 1 => (¬ x = y → A) ∧ (x = y → B)
  | 2 => (x < y → A) ∧ (¬ x < y → B)
  | 3 => (y ≤ x → A) ∧ (¬ y ≤ x → B)
  | 4 => (y < x → A) ∧ (¬ y < x → B)
  | _ => (x ≤ y → A) ∧ (¬ x ≤ y → B)
/-- a condition that a program decides -/
def am_if (b : Bool) (P : Prop) : Prop := match b with
  | true => P
  | false => False
def am_rs (r : Option am_V) : List am_V := r.toList
/-- at i no long begins just ahead -/
def am_nl (lv : List (Option am_V)) (i : Nat) : Bool := match i with
  | 0 => true
  | j + 1 => match lv[j]? with
    | some (some (.inr (.inl _))) => false
    | _ => true
def am_tag (k : Nat) : Nat := ((am_sh[k]?).map Prod.fst).getD 0
def am_stp (l : Launch) (L : Nat) (xs : Nat → Int) (y : Nat) (Q : Option am_V → am_N → Prop) (K : Nat → List (Option am_V) → List am_V → am_N → Prop) (x : am_I) (lv : List (Option am_V)) (st : List am_V) (μ : am_N) : Prop :=
  match x with
  | (nx, op, a, b, c, z, ts) => match op with
    | 0 => K nx lv (.inl z :: st) μ
    | 1 => K nx lv (.inr (.inl z) :: st) μ
    | 2 => match lv[a]? with
      | some (some (.inl v)) => K nx lv (.inl v :: st) μ
      | _ => False
    | 3 => match st with
      | .inl v :: r => am_if (Nat.blt a lv.length && am_nl lv a) (K nx (lv.set a (some (.inl v))) r μ)
      | _ => False
    | 4 => match lv[a]? with
      | some (some (.inr (.inl v))) => K nx lv (.inr (.inl v) :: st) μ
      | _ => False
    | 5 => match st with
      | .inr (.inl v) :: r => am_if (Nat.blt (a + 1) lv.length && am_nl lv a) (K nx ((lv.set a (some (.inr (.inl v)))).set (a + 1) none) r μ)
      | _ => False
    | 6 => match lv[a]? with
      | some (some (.inr (.inr v))) => K nx lv (.inr (.inr v) :: st) μ
      | _ => False
    | 7 => match st with
      | .inr (.inr k) :: r => match am_sh[k]? with
        | some (t, fs) => am_if (Nat.beq t (a + 2)) (match fs[b]? with
          | some 0 => K nx lv (.inl (μ k b) :: r) μ
          | some (j + 1) => K nx lv (.inr (.inr j) :: r) μ
          | none => False)
        | none => False
      | _ => False
    | 8 => match st with
      | .inl v :: .inr (.inr k) :: r => match am_sh[k]? with
        | some (t, fs) => am_if (Nat.beq t (a + 2)) (match fs[b]? with
          | some 0 => (match c with
            | 0 => K nx lv r (am_up μ k b v)
            | _ => (v = 0 ∨ v = 1) ∧ K nx lv r (am_up μ k b v))
          | _ => False)
        | none => False
      | _ => False
    | 9 => match st with
      | .inl i :: .inr (.inr k) :: r => match am_sh[k]? with
        | some (0, n :: _) => (0 ≤ am_c i ∧ am_c i < n) ∧ K nx lv (.inl (μ k (am_c i).toNat) :: r) μ
        | some _ => False
        | none => (y = 0 ∧ k = 999) ∧ (0 ≤ am_c i ∧ am_c i < L) ∧ K nx lv (.inl (xs (am_c i).toNat) :: r) μ
      | _ => False
    | 10 => match st with
      | .inl v :: .inl i :: .inr (.inr k) :: r => match am_sh[k]? with
        | some (0, n :: _) => (0 ≤ am_c i ∧ am_c i < n) ∧ K nx lv r (am_up μ k (am_c i).toNat v)
        | _ => False
      | _ => False
    | 11 => match st with
      | .inl i :: .inr (.inr k) :: r => match am_sh[k]? with
        | some (1, fs) => (0 ≤ am_c i ∧ am_c i < (fs.length : Int)) ∧ ∀ j : Nat, fs[(am_c i).toNat]? = some j → K nx lv (.inr (.inr j) :: r) μ
        | _ => False
      | _ => False
    | 12 => match st with
      | .inr (.inr k) :: r => match am_sh[k]? with
        | some (0, n :: _) => K nx lv (.inl (n : Int) :: r) μ
        | some (1, fs) => K nx lv (.inl (fs.length : Int) :: r) μ
        | some _ => False
        | none => (y = 0 ∧ k = 999) ∧ K nx lv (.inl (L : Int) :: r) μ
      | _ => False
    | 13 => match st with
      | .inl v :: .inl u :: r => K nx lv (.inl (u + v) :: r) μ
      | _ => False
    | 14 => match st with
      | .inl v :: .inl u :: r => K nx lv (.inl (u - v) :: r) μ
      | _ => False
    | 15 => match st with
      | .inl v :: .inl u :: r => K nx lv (.inl (u * v) :: r) μ
      | _ => False
    | 16 => match st with
      | .inl v :: .inl u :: r => am_c v ≠ 0 ∧ K nx lv (.inl ((am_c u).tdiv (am_c v)) :: r) μ
      | _ => False
    | 17 => match st with
      | .inl v :: .inl u :: r => am_c v ≠ 0 ∧ K nx lv (.inl ((am_c u).tmod (am_c v)) :: r) μ
      | _ => False
    | 18 => match st with
      | .inl v :: .inl u :: r => K nx lv (.inl (am_and u v) :: r) μ
      | _ => False
    | 19 => match st with
      | .inl v :: .inl u :: r => K nx lv (.inl (am_or u v) :: r) μ
      | _ => False
    | 20 => match st with
      | .inl v :: .inl u :: r => K nx lv (.inl (am_xor u v) :: r) μ
      | _ => False
    | 21 => match st with
      | .inl v :: .inl u :: r => K nx lv (.inl (am_shl u v) :: r) μ
      | _ => False
    | 22 => match st with
      | .inl v :: .inl u :: r => K nx lv (.inl (am_shr u v) :: r) μ
      | _ => False
    | 23 => match st with
      | .inl v :: r => K nx lv (.inl (-v) :: r) μ
      | _ => False
    | 24 => match lv[a]? with
      | some (some (.inl v)) => am_if (am_nl lv a) (K nx (lv.set a (some (.inl (v + z)))) st μ)
      | _ => False
    | 25 => K a lv st μ
    | 26 => match st with
      | .inl v :: r => am_br2 b (am_c v) 0 (K a lv r μ) (K nx lv r μ)
      | _ => False
    | 27 => match st with
      | .inl v :: .inl u :: r => am_br2 b (am_c u) (am_c v) (K a lv r μ) (K nx lv r μ)
      | _ => False
    | 28 => match st with
      | .inl _ :: r => K nx lv r μ
      | _ => False
    | 29 => match st with
      | .inr (.inl _) :: r => K nx lv r μ
      | _ => False
    | 30 => match st with
      | .inl v :: r => K nx lv (.inl v :: .inl v :: r) μ
      | .inr (.inr v) :: r => K nx lv (.inr (.inr v) :: .inr (.inr v) :: r) μ
      | _ => False
    | 31 => match st with
      | .inl v :: .inr (.inr u) :: r => K nx lv (.inl v :: .inr (.inr u) :: .inl v :: .inr (.inr u) :: r) μ
      | _ => False
    | 32 => match st with
      | .inl v :: .inr (.inr u) :: r => K nx lv (.inl v :: .inr (.inr u) :: .inl v :: r) μ
      | _ => False
    | 33 => match st with
      | .inl v :: r => K nx lv (.inr (.inl (am_c v)) :: r) μ
      | _ => False
    | 34 => match st with
      | .inr (.inl v) :: .inr (.inl u) :: r => K nx lv (.inl (if am_d v < am_d u then 1 else if am_d u = am_d v then 0 else -1) :: r) μ
      | _ => False
    | 35 => match st with
      | .inr (.inl v) :: .inr (.inl u) :: r => K nx lv (.inr (.inl (u + v)) :: r) μ
      | _ => False
    | 36 => match st with
      | .inr (.inl v) :: .inr (.inl u) :: r => K nx lv (.inr (.inl (u - v)) :: r) μ
      | _ => False
    | 37 => match st with
      | .inr (.inl v) :: .inr (.inl u) :: r => K nx lv (.inr (.inl (u * v)) :: r) μ
      | _ => False
    | 38 => match st with
      | .inr (.inl v) :: .inr (.inl u) :: r => am_d v ≠ 0 ∧ K nx lv (.inr (.inl ((am_d u).tdiv (am_d v))) :: r) μ
      | _ => False
    | 39 => match st with
      | .inr (.inl v) :: .inr (.inl u) :: r => am_d v ≠ 0 ∧ K nx lv (.inr (.inl ((am_d u).tmod (am_d v))) :: r) μ
      | _ => False
    | 40 => match (st.take b).reverse with
      | .inr (.inr k) :: as => am_if (Nat.beq (am_tag k) c && (Nat.ble b st.length && Nat.ble ((st.drop b).map am_cat).sum 8)) (True ∧ am_Does l a (.inr (.inr k) :: as) μ (fun r μ' => K nx lv (am_rs r ++ st.drop b) μ'))
      | _ => False
    | 41 => am_if (Nat.ble b st.length && Nat.ble ((st.drop b).map am_cat).sum 8) (True ∧ am_Does l a (st.take b).reverse μ (fun r μ' => K nx lv (am_rs r ++ st.drop b) μ'))
    | 42 => match st with
      | [] => True ∧ Q none μ
      | _ => False
    | 43 => match st with
      | [.inl v] => match c with
        | 0 => True ∧ Q (some (.inl v)) μ
        | _ => (v = 0 ∨ v = 1) ∧ Q (some (.inl v)) μ
      | _ => False
    | 44 => match st with
      | [.inr (.inl v)] => True ∧ Q (some (.inr (.inl v))) μ
      | _ => False
    | 45 => match st with
      | .inl v :: r => am_sw ts (am_c v) a (fun t => K t lv r μ)
      | _ => False
    | 46 => match st with
      | .inl v :: .inl u :: r => am_if (Nat.ble (r.map am_cat).sum 8) (K nx lv (.inl (if am_c u < am_c v then v else u) :: r) μ)
      | _ => False
    | 47 => match st with
      | .inl v :: .inl u :: r => am_if (Nat.ble (r.map am_cat).sum 8) (K nx lv (.inl (if am_c v < am_c u then v else u) :: r) μ)
      | _ => False
    | 48 => match st with
      | .inl u :: r => am_if (Nat.ble (r.map am_cat).sum 8) (K nx lv (.inl (if 0 ≤ am_c u then u else 0 - u) :: r) μ)
      | _ => False
    | _ => False
/-- the length that the machine's rows ask of an instruction (0: any) -/
def am_ln (i : Instr) : Nat := match i with
  | .bipush _ | .iload _ | .istore _ | .lload _ | .lstore _ | .aload _ | .ldc _ => 2
  | .sipush _ | .ldc_w _ | .ldc2_w _ | .getfield _ | .putfield _ | .iinc _ _ | .goto _ | .ifCond _ _ | .if_icmp _ _ | .invokevirtual _ | .invokestatic _ => 3
  | .tableswitch _ _ _ _ | .lookupswitch _ _ => 0
  | _ => 1
def am_bad : am_I := (0, 99, 0, 0, 0, 0, [])
def am_cc (c : ClassFile.Cond) : Nat := match c with
  | .eq => 0
  | .ne => 1
  | .lt => 2
  | .ge => 3
  | .gt => 4
  | .le => 5
def am_tb (pc : Nat) (lo : Int) : List Int → List (Int × Nat)
  | [] => []
  | o :: r => (lo, ((pc : Int) + o).toNat) :: am_tb pc (lo + 1) r
def am_br (pc : Nat) (off : Int) (x : am_I) : am_I := if 0 ≤ (pc : Int) + off then x else am_bad
def am_okc (y y' : Nat) : Bool := decide (0 < y') && decide (y' < am_ny) && decide (am_fr y' + 1 ≤ am_fr y) && decide (19 + am_ml y' + am_lo y' ≤ am_lo y)
def am_nrm (y pc : Nat) (i : Instr) : am_I := match i with
  | .iconst n => (pc + 1, 0, 0, 0, 0, n, [])
  | .bipush n => (pc + 2, 0, 0, 0, 0, (Int8.ofInt n).toInt32.toInt, [])
  | .sipush n => (pc + 3, 0, 0, 0, 0, (Int16.ofInt n).toInt32.toInt, [])
  | .ldc k => match am_co.find? (fun f => Nat.beq f.1 (am_ow y) && Nat.beq f.2.1 k) with
    | some f => (pc + 2, 0, 0, 0, 0, f.2.2, [])
    | none => am_bad
  | .ldc_w k => match am_co.find? (fun f => Nat.beq f.1 (am_ow y) && Nat.beq f.2.1 k) with
    | some f => (pc + 3, 0, 0, 0, 0, f.2.2, [])
    | none => am_bad
  | .ldc2_w k => match am_cl.find? (fun f => Nat.beq f.1 (am_ow y) && Nat.beq f.2.1 k) with
    | some f => (pc + 3, 1, 0, 0, 0, f.2.2, [])
    | none => am_bad
  | .lconst n => (pc + 1, 1, 0, 0, 0, ((n : Nat) : Int), [])
  | .iload k => (pc + 2, 2, k, 0, 0, 0, [])
  | .iload_n k => (pc + 1, 2, (k : Nat), 0, 0, 0, [])
  | .istore k => (pc + 2, 3, k, 0, 0, 0, [])
  | .istore_n k => (pc + 1, 3, (k : Nat), 0, 0, 0, [])
  | .lload k => (pc + 2, 4, k, 0, 0, 0, [])
  | .lload_n k => (pc + 1, 4, (k : Nat), 0, 0, 0, [])
  | .lstore k => (pc + 2, 5, k, 0, 0, 0, [])
  | .lstore_n k => (pc + 1, 5, (k : Nat), 0, 0, 0, [])
  | .aload k => (pc + 2, 6, k, 0, 0, 0, [])
  | .aload_n k => (pc + 1, 6, (k : Nat), 0, 0, 0, [])
  | .getfield k => match am_fl.find? (fun f => Nat.beq f.1 (am_ow y) && Nat.beq f.2.1 k) with
    | some f => (pc + 3, 7, f.2.2.1, f.2.2.2, 0, 0, [])
    | none => am_bad
  | .putfield k => match am_fl.find? (fun f => Nat.beq f.1 (am_ow y) && Nat.beq f.2.1 k) with
    | some f => if (am_cT f.2.2.1 f.2.2.2).2.2.2 = false then (match am_ty f.2.2.1 f.2.2.2 with
        | .int => (pc + 3, 8, f.2.2.1, f.2.2.2, 0, 0, [])
        | .boolean => (pc + 3, 8, f.2.2.1, f.2.2.2, 1, 0, [])
        | _ => am_bad) else am_bad
    | none => am_bad
  | .iaload => (pc + 1, 9, 0, 0, 0, 0, [])
  | .iastore => (pc + 1, 10, 0, 0, 0, 0, [])
  | .aaload => (pc + 1, 11, 0, 0, 0, 0, [])
  | .arraylength => (pc + 1, 12, 0, 0, 0, 0, [])
  | .iadd => (pc + 1, 13, 0, 0, 0, 0, [])
  | .isub => (pc + 1, 14, 0, 0, 0, 0, [])
  | .imul => (pc + 1, 15, 0, 0, 0, 0, [])
  | .idiv => (pc + 1, 16, 0, 0, 0, 0, [])
  | .irem => (pc + 1, 17, 0, 0, 0, 0, [])
  | .iand => (pc + 1, 18, 0, 0, 0, 0, [])
  | .ior => (pc + 1, 19, 0, 0, 0, 0, [])
  | .ixor => (pc + 1, 20, 0, 0, 0, 0, [])
  | .ishl => (pc + 1, 21, 0, 0, 0, 0, [])
  | .ishr => (pc + 1, 22, 0, 0, 0, 0, [])
  | .ineg => (pc + 1, 23, 0, 0, 0, 0, [])
  | .iinc k n => (pc + 3, 24, k, 0, 0, n, [])
  | .goto o => am_br pc o (0, 25, ((pc : Int) + o).toNat, 0, 0, 0, [])
  | .ifCond cd o => am_br pc o (pc + 3, 26, ((pc : Int) + o).toNat, am_cc cd, 0, 0, [])
  | .if_icmp cd o => am_br pc o (pc + 3, 27, ((pc : Int) + o).toNat, am_cc cd, 0, 0, [])
  | .pop => (pc + 1, 28, 0, 0, 0, 0, [])
  | .pop2 => (pc + 1, 29, 0, 0, 0, 0, [])
  | .dup => (pc + 1, 30, 0, 0, 0, 0, [])
  | .dup2 => (pc + 1, 31, 0, 0, 0, 0, [])
  | .dup_x1 => (pc + 1, 32, 0, 0, 0, 0, [])
  | .i2l => (pc + 1, 33, 0, 0, 0, 0, [])
  | .lcmp => (pc + 1, 34, 0, 0, 0, 0, [])
  | .ladd => (pc + 1, 35, 0, 0, 0, 0, [])
  | .lsub => (pc + 1, 36, 0, 0, 0, 0, [])
  | .lmul => (pc + 1, 37, 0, 0, 0, 0, [])
  | .ldiv => (pc + 1, 38, 0, 0, 0, 0, [])
  | .lrem => (pc + 1, 39, 0, 0, 0, 0, [])
  | .invokevirtual k => match am_ca.find? (fun f => Nat.beq f.1 (am_ow y) && Nat.beq f.2.1 k) with
    | some f => if am_okc y f.2.2 && !am_st f.2.2 then (pc + 3, 40, f.2.2, am_na f.2.2, am_ow f.2.2 + 2, 0, []) else am_bad
    | none => am_bad
  | .invokestatic k => match am_ca.find? (fun f => Nat.beq f.1 (am_ow y) && Nat.beq f.2.1 k) with
    | some f => if am_okc y f.2.2 && am_st f.2.2 && Nat.beq (am_ow f.2.2) (am_ow y) then (pc + 3, 41, f.2.2, am_na f.2.2, 0, 0, []) else am_bad
    | none => match am_ma.find? (fun f => Nat.beq f.1 (am_ow y) && Nat.beq f.2.1 k) with
      | some f => if decide (1 ≤ am_fr y) && decide (21 ≤ am_lo y) && decide (f.2.2 < 3) then (pc + 3, 46 + f.2.2, 0, 0, 0, 0, []) else am_bad
      | none => am_bad
  | .return_ => match am_re y with
    | none => (0, 42, 0, 0, 0, 0, [])
    | some _ => am_bad
  | .ireturn => match am_re y with
    | some .int => (0, 43, 0, 0, 0, 0, [])
    | some .boolean => (0, 43, 0, 0, 1, 0, [])
    | _ => am_bad
  | .lreturn => match am_re y with
    | some .long => (0, 44, 0, 0, 0, 0, [])
    | _ => am_bad
  | .tableswitch d lo hi offs => if decide (0 ≤ (pc : Int) + d) && offs.toList.all (fun o => decide (0 ≤ (pc : Int) + o)) && decide ((offs.toList.length : Int) = hi - lo + 1) then (0, 45, ((pc : Int) + d).toNat, 0, 0, 0, am_tb pc lo offs.toList) else am_bad
  | .lookupswitch d ps => if decide (0 ≤ (pc : Int) + d) && ps.toList.all (fun o => decide (0 ≤ (pc : Int) + o.2)) && (ps.toList.zip (ps.toList.drop 1)).all (fun (a, next) => a.1 < next.1) then (0, 45, ((pc : Int) + d).toNat, 0, 0, 0, ps.toList.map (fun o => (o.1, ((pc : Int) + o.2).toNat))) else am_bad
  | _ => am_bad
def am_ie (x w : am_I) : Bool := match x, w with
  | (n1, o1, a1, b1, c1, z1, t1), (n2, o2, a2, b2, c2, z2, t2) => Nat.beq n1 n2 && (Nat.beq o1 o2 && (Nat.beq a1 a2 && (Nat.beq b1 b2 && (Nat.beq c1 c2 && (decide (z1 = z2) && decide (t1 = t2))))))
theorem am_ie_eq {x w : am_I} (h : am_ie x w = true) : x = w := by
  obtain ⟨n1, o1, a1, b1, c1, z1, t1⟩ := x
  obtain ⟨n2, o2, a2, b2, c2, z2, t2⟩ := w
  simp only [am_ie, Bool.and_eq_true, Nat.beq_eq, decide_eq_true_eq] at h
  obtain ⟨rfl, rfl, rfl, rfl, rfl, rfl, rfl⟩ := h
  rfl
def am_chk (y pc : Nat) (x : am_I) : Bool := match decode (am_bt y) pc with
  | .ok (i, len) => (am_ln i == 0 || len == am_ln i) && am_ie (am_nrm y pc i) x
  | _ => false
