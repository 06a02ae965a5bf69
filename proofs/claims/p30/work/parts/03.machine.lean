/-! the abstract machine: numbers are Ints (held modulo 2^32, 2^64), references are places of am_sh; one step of it as a condition -/
abbrev am_N : Type := Nat → Nat → Int
abbrev am_V : Type := Int ⊕ (Int ⊕ Nat)
abbrev am_I : Type := Nat × Nat × Nat × Nat × Nat × Int × List (Int × Nat)
def am_c (z : Int) : Int := (z + 2147483648) % 4294967296 - 2147483648
def am_d (z : Int) : Int := (z + 9223372036854775808) % 18446744073709551616 - 9223372036854775808
def am_up (μ : am_N) (k j : Nat) (v : Int) : am_N := fun a b => if a = k ∧ b = j then v else μ a b
def am_and (x y : Int) : Int := (Int32.ofInt x &&& Int32.ofInt y).toInt
def am_or (x y : Int) : Int := (Int32.ofInt x ||| Int32.ofInt y).toInt
def am_xor (x y : Int) : Int := (Int32.ofInt x ^^^ Int32.ofInt y).toInt
def am_shl (x y : Int) : Int := (Int32.ofInt x <<< (Int32.ofInt y &&& 31)).toInt
def am_shr (x y : Int) : Int := (Int32.ofInt x >>> (Int32.ofInt y &&& 31)).toInt
def am_rv (ad : Nat → Nat) : am_V → Value := fun v => match v with
  | .inl z => .int (Int32.ofInt z)
  | .inr (.inl z) => .long (Int64.ofInt z)
  | .inr (.inr k) => .ref (ad k)
def am_cat : am_V → Nat := fun v => match v with
  | .inr (.inl _) => 2
  | _ => 1
def am_fv (ad : Nat → Nat) (f : Nat → Int) (j : Nat) (c : Nat) : Value := match c with
  | 0 => .int (Int32.ofInt (f j))
  | r + 1 => .ref (ad r)
def am_ce (ad : Nat → Nat) (ca : Nat → ClassId) (k : Nat) (q : Nat × List Nat) (f : Nat → Int) : va_E := match q.1 with
  | 0 => .inl (ca k, q.2.headD 0, .inl (fun j => Int32.ofInt (f j)))
  | 1 => .inl (ca k, q.2.length, .inr (.inr (.inr (.inr (fun i => (q.2[i]?).map ad)))))
  | c + 2 => .inr (c, q.2.mapIdx (am_fv ad f))
def am_ws (ad : Nat → Nat) (ca : Nat → ClassId) (μ : am_N) : va_W := am_sh.mapIdx (fun k q => (ad k, am_ce ad ca k q (μ k)))
def am_TY (ca : Nat → ClassId) (tys : List (ClassId × FieldType)) : Prop := ∀ (k : Nat) (q : Nat × List Nat), am_sh[k]? = some q → (q.1 = 0 → ∃ t0 : Nat, tys[t0]? = some (ca k, .int)) ∧ (q.1 = 1 → ∃ t0 : Nat, tys[t0]? = some (ca k, .array .int))
def am_A (B0 : Nat) : Nat → Prop := fun q => B0 ≤ q
def am_Q (Q : Option am_V → am_N → Prop) (D : va_G) (ad : Nat → Nat) (ca : Nat → ClassId) (B0 : Nat) : Array Value → State → Outcome → State → Prop := fun _ st o t =>
  (∃ (r : Option am_V) (μ' : am_N), o = .returned (r.map (am_rv ad)) ∧ Q r μ' ∧ va_P D vwCl (am_ws ad ca μ') t.heap ∧ va_D (am_A B0) (am_ws ad ca μ')) ∧ va_F (am_A B0) st t
def am_bt (y : Nat) : ByteArray := (am_md y).2.1
def am_ml (y : Nat) : Nat := (am_md y).2.2.1
def am_re (y : Nat) : Option FieldType := (am_md y).2.2.2.1
def am_ow (y : Nat) : Nat := (am_md y).2.2.2.2.1
def am_na (y : Nat) : Nat := (am_md y).2.2.2.2.2.1
def am_fr (y : Nat) : Nat := (am_md y).2.2.2.2.2.2.1
def am_lo (y : Nat) : Nat := (am_md y).2.2.2.2.2.2.2.1
def am_st (y : Nat) : Bool := (am_md y).2.2.2.2.2.2.2.2
def am_w (y : Nat) : List Cond := Cond.code (am_md y).1 (am_bt y) (am_ml y) (am_re y) :: am_big
def am_rm (y : Nat) : Room := { frames := am_fr y, cells := 0, slots := 0, locals := am_lo y }
def am_Pc (D : va_G) (ad : Nat → Nat) (ca : Nat → ClassId) (tys : List (ClassId × FieldType)) (B0 : Nat) (args : List am_V) (μ : am_N) : Array Value → State → Prop :=
  va_Pc (args.map (am_rv ad)) (fun U => B0 ≤ U.heap.size ∧ va_P D vwCl (am_ws ad ca μ) U.heap ∧ va_K D vwCl tys U ∧ va_D (am_A B0) (am_ws ad ca μ))
/-- what a call does: from the numbers μ, with these arguments, method y returns, and Q holds of its answer and of the numbers then -/
def am_Does (l : Launch) (y : Nat) (args : List am_V) (μ : am_N) (Q : Option am_V → am_N → Prop) : Prop :=
  ∀ (D : va_G) (ad : Nat → Nat) (ca : Nat → ClassId) (tys : List (ClassId × FieldType)) (B0 : Nat), am_TY ca tys → Met l (am_md y).1 (am_w y) (am_rm y) (am_Pc D ad ca tys B0 args μ) (am_Q Q D ad ca B0) 0 0 (am_A B0)
def am_L (ls : Array Slot) (nL : Nat) (ad : Nat → Nat) (lv : List (Option am_V)) : Prop := ls.size = nL ∧ lv_wf ls ∧ (∀ (i : Nat) (v : am_V), lv[i]? = some (some v) → ls[i]? = some (.val (am_rv ad v))) ∧ lv.length = nL
def am_Env (y L : Nat) (xs : Nat → Int) (p : Program) (R : Room) (s : State) (m : MethodId) (args : Array Value) (c : Code) (D : va_G) (ad : Nat → Nat) (ca : Nat → ClassId) (tys : List (ClassId × FieldType)) (B0 cells slots : Nat) : Prop :=
  p.tables.exec = Jvm.exec ∧ c.code = am_bt y ∧ c.maxLocals = am_ml y ∧ s.vm.findClass (am_cn (am_ow y)) = some m.cls ∧ (∀ w ∈ am_big, w.before args s = true) ∧ va_K D vwCl tys s ∧ am_TY ca tys ∧ B0 ≤ s.heap.size ∧ am_fr y ≤ R.frames ∧ am_lo y ≤ R.locals ∧ cells ≤ R.cells ∧ slots ≤ R.slots ∧
  (y = 0 → va_X (ad 999) L (fun j => Int32.ofInt (xs j)) s s.heap ∧ ad 999 < s.heap.size ∧ ad 999 < B0)
/-- which instruction ends with the answer r -/
def am_rt (y pc : Nat) (r : Option am_V) : Prop := match r with
  | none => decode (am_bt y) pc = .ok (.return_, 1) ∧ am_re y = none
  | some (.inl z) => decode (am_bt y) pc = .ok (.ireturn, 1) ∧ (am_re y = some .int ∨ (am_re y = some .boolean ∧ (z = 0 ∨ z = 1)))
  | some (.inr (.inl _)) => decode (am_bt y) pc = .ok (.lreturn, 1) ∧ am_re y = some .long
  | some (.inr (.inr _)) => False
/-- from here method y comes to its end, with Q -/
def am_AW (l : Launch) (L : Nat) (xs : Nat → Int) (y : Nat) (Q : Option am_V → am_N → Prop) (pc : Nat) (lv : List (Option am_V)) (st : List am_V) (μ : am_N) : Prop :=
  ∀ (p : Program) (e : Env) (R : Room) (s : State) (m : MethodId) (args : Array Value) (below : List Frame) (meth : Method) (c : Code) (D : va_G) (ad : Nat → Nat) (ca : Nat → ClassId) (tys : List (ClassId × FieldType)) (B0 cells slots : Nat) (Qf : State → Prop),
    am_Env y L xs p R s m args c D ad ca tys B0 cells slots →
    (∀ (r : Option am_V) (μ' : am_N) (H : Heap) (locs : List Loc) (pc' : Nat) (ls : Array Slot), Q r μ' → va_P D vwCl (am_ws ad ca μ') H → va_D (am_A B0) (am_ws ad ca μ') → va_S (am_A B0) s.heap H locs → am_rt y pc' r →
      W p l e R s m args below meth c H locs cells slots Qf (F0 m pc' ls (r.map (am_rv ad)).toList)) →
    ∀ (H : Heap) (locs : List Loc) (ls : Array Slot), am_L ls (am_ml y) ad lv → va_P D vwCl (am_ws ad ca μ) H → va_D (am_A B0) (am_ws ad ca μ) → va_S (am_A B0) s.heap H locs →
      W p l e R s m args below meth c H locs cells slots Qf (F0 m pc ls (st.map (am_rv ad)))
/-- a switch -/
def am_sw (ts : List (Int × Nat)) (v : Int) (d : Nat) (K : Nat → Prop) : Prop := match ts with
  | [] => K d
  | (k, t) :: r => (v = k → K t) ∧ (v ≠ k → am_sw r v d K)
def am_co2 (cond : Nat) (x y : Int) : Prop := match cond with
  | 0 => x = y
  | 1 => ¬ x = y
  | 2 => x < y
  | 3 => y ≤ x
  | 4 => y < x
  | _ => x ≤ y
def am_br2 (cond : Nat) (x y : Int) (A B : Prop) : Prop := match cond with
  | 0 => (x = y → A) ∧ (¬ x = y → B)
  | 1 => (¬ x = y → A) ∧ (x = y → B)
  | 2 => (x < y → A) ∧ (¬ x < y → B)
  | 3 => (y ≤ x → A) ∧ (¬ y ≤ x → B)
  | 4 => (y < x → A) ∧ (¬ y < x → B)
  | _ => (x ≤ y → A) ∧ (¬ x ≤ y → B)
/-- a condition that a program decides -/
def am_if (b : Bool) (P : Prop) : Prop := match b with
  | true => P
  | false => False
def am_rs (r : Option am_V) : List am_V := r.toList
/-- at i no long begins just ahead -/
def am_nl (lv : List (Option am_V)) (i : Nat) : Bool := match i with
  | 0 => true
  | j + 1 => match lv[j]? with
    | some (some (.inr (.inl _))) => false
    | _ => true
def am_tag (k : Nat) : Nat := ((am_sh[k]?).map Prod.fst).getD 0
def am_stp (l : Launch) (L : Nat) (xs : Nat → Int) (y : Nat) (Q : Option am_V → am_N → Prop) (K : Nat → List (Option am_V) → List am_V → am_N → Prop) (x : am_I) (lv : List (Option am_V)) (st : List am_V) (μ : am_N) : Prop :=
  match x with
  | (nx, op, a, b, c, z, ts) => match op with
    | 0 => K nx lv (.inl z :: st) μ
    | 1 => K nx lv (.inr (.inl z) :: st) μ
    | 2 => match lv[a]? with
      | some (some (.inl v)) => K nx lv (.inl v :: st) μ
      | _ => False
    | 3 => match st with
      | .inl v :: r => am_if (Nat.blt a lv.length && am_nl lv a) (K nx (lv.set a (some (.inl v))) r μ)
      | _ => False
    | 4 => match lv[a]? with
      | some (some (.inr (.inl v))) => K nx lv (.inr (.inl v) :: st) μ
      | _ => False
    | 5 => match st with
      | .inr (.inl v) :: r => am_if (Nat.blt (a + 1) lv.length && am_nl lv a) (K nx ((lv.set a (some (.inr (.inl v)))).set (a + 1) none) r μ)
      | _ => False
    | 6 => match lv[a]? with
      | some (some (.inr (.inr v))) => K nx lv (.inr (.inr v) :: st) μ
      | _ => False
    | 7 => match st with
      | .inr (.inr k) :: r => match am_sh[k]? with
        | some (t, fs) => am_if (Nat.beq t (a + 2)) (match fs[b]? with
          | some 0 => K nx lv (.inl (μ k b) :: r) μ
          | some (j + 1) => K nx lv (.inr (.inr j) :: r) μ
          | none => False)
        | none => False
      | _ => False
    | 8 => match st with
      | .inl v :: .inr (.inr k) :: r => match am_sh[k]? with
        | some (t, fs) => am_if (Nat.beq t (a + 2)) (match fs[b]? with
          | some 0 => (match c with
            | 0 => K nx lv r (am_up μ k b v)
            | _ => (v = 0 ∨ v = 1) ∧ K nx lv r (am_up μ k b v))
          | _ => False)
        | none => False
      | _ => False
    | 9 => match st with
      | .inl i :: .inr (.inr k) :: r => match am_sh[k]? with
        | some (0, n :: _) => (0 ≤ am_c i ∧ am_c i < n) ∧ K nx lv (.inl (μ k (am_c i).toNat) :: r) μ
        | some _ => False
        | none => (y = 0 ∧ k = 999) ∧ (0 ≤ am_c i ∧ am_c i < L) ∧ K nx lv (.inl (xs (am_c i).toNat) :: r) μ
      | _ => False
    | 10 => match st with
      | .inl v :: .inl i :: .inr (.inr k) :: r => match am_sh[k]? with
        | some (0, n :: _) => (0 ≤ am_c i ∧ am_c i < n) ∧ K nx lv r (am_up μ k (am_c i).toNat v)
        | _ => False
      | _ => False
    | 11 => match st with
      | .inl i :: .inr (.inr k) :: r => match am_sh[k]? with
        | some (1, fs) => (0 ≤ am_c i ∧ am_c i < (fs.length : Int)) ∧ ∀ j : Nat, fs[(am_c i).toNat]? = some j → K nx lv (.inr (.inr j) :: r) μ
        | _ => False
      | _ => False
    | 12 => match st with
      | .inr (.inr k) :: r => match am_sh[k]? with
        | some (0, n :: _) => K nx lv (.inl (n : Int) :: r) μ
        | some (1, fs) => K nx lv (.inl (fs.length : Int) :: r) μ
        | some _ => False
        | none => (y = 0 ∧ k = 999) ∧ K nx lv (.inl (L : Int) :: r) μ
      | _ => False
    | 13 => match st with
      | .inl v :: .inl u :: r => K nx lv (.inl (u + v) :: r) μ
      | _ => False
    | 14 => match st with
      | .inl v :: .inl u :: r => K nx lv (.inl (u - v) :: r) μ
      | _ => False
    | 15 => match st with
      | .inl v :: .inl u :: r => K nx lv (.inl (u * v) :: r) μ
      | _ => False
    | 16 => match st with
      | .inl v :: .inl u :: r => am_c v ≠ 0 ∧ K nx lv (.inl ((am_c u).tdiv (am_c v)) :: r) μ
      | _ => False
    | 17 => match st with
      | .inl v :: .inl u :: r => am_c v ≠ 0 ∧ K nx lv (.inl ((am_c u).tmod (am_c v)) :: r) μ
      | _ => False
    | 18 => match st with
      | .inl v :: .inl u :: r => K nx lv (.inl (am_and u v) :: r) μ
      | _ => False
    | 19 => match st with
      | .inl v :: .inl u :: r => K nx lv (.inl (am_or u v) :: r) μ
      | _ => False
    | 20 => match st with
      | .inl v :: .inl u :: r => K nx lv (.inl (am_xor u v) :: r) μ
      | _ => False
    | 21 => match st with
      | .inl v :: .inl u :: r => K nx lv (.inl (am_shl u v) :: r) μ
      | _ => False
    | 22 => match st with
      | .inl v :: .inl u :: r => K nx lv (.inl (am_shr u v) :: r) μ
      | _ => False
    | 23 => match st with
      | .inl v :: r => K nx lv (.inl (-v) :: r) μ
      | _ => False
    | 24 => match lv[a]? with
      | some (some (.inl v)) => am_if (am_nl lv a) (K nx (lv.set a (some (.inl (v + z)))) st μ)
      | _ => False
    | 25 => K a lv st μ
    | 26 => match st with
      | .inl v :: r => am_br2 b (am_c v) 0 (K a lv r μ) (K nx lv r μ)
      | _ => False
    | 27 => match st with
      | .inl v :: .inl u :: r => am_br2 b (am_c u) (am_c v) (K a lv r μ) (K nx lv r μ)
      | _ => False
    | 28 => match st with
      | .inl _ :: r => K nx lv r μ
      | _ => False
    | 29 => match st with
      | .inr (.inl _) :: r => K nx lv r μ
      | _ => False
    | 30 => match st with
      | .inl v :: r => K nx lv (.inl v :: .inl v :: r) μ
      | .inr (.inr v) :: r => K nx lv (.inr (.inr v) :: .inr (.inr v) :: r) μ
      | _ => False
    | 31 => match st with
      | .inl v :: .inr (.inr u) :: r => K nx lv (.inl v :: .inr (.inr u) :: .inl v :: .inr (.inr u) :: r) μ
      | _ => False
    | 32 => match st with
      | .inl v :: .inr (.inr u) :: r => K nx lv (.inl v :: .inr (.inr u) :: .inl v :: r) μ
      | _ => False
    | 33 => match st with
      | .inl v :: r => K nx lv (.inr (.inl (am_c v)) :: r) μ
      | _ => False
    | 34 => match st with
      | .inr (.inl v) :: .inr (.inl u) :: r => K nx lv (.inl (if am_d v < am_d u then 1 else if am_d u = am_d v then 0 else -1) :: r) μ
      | _ => False
    | 35 => match st with
      | .inr (.inl v) :: .inr (.inl u) :: r => K nx lv (.inr (.inl (u + v)) :: r) μ
      | _ => False
    | 36 => match st with
      | .inr (.inl v) :: .inr (.inl u) :: r => K nx lv (.inr (.inl (u - v)) :: r) μ
      | _ => False
    | 37 => match st with
      | .inr (.inl v) :: .inr (.inl u) :: r => K nx lv (.inr (.inl (u * v)) :: r) μ
      | _ => False
    | 38 => match st with
      | .inr (.inl v) :: .inr (.inl u) :: r => am_d v ≠ 0 ∧ K nx lv (.inr (.inl ((am_d u).tdiv (am_d v))) :: r) μ
      | _ => False
    | 39 => match st with
      | .inr (.inl v) :: .inr (.inl u) :: r => am_d v ≠ 0 ∧ K nx lv (.inr (.inl ((am_d u).tmod (am_d v))) :: r) μ
      | _ => False
    | 40 => match (st.take b).reverse with
      | .inr (.inr k) :: as => am_if (Nat.beq (am_tag k) c && (Nat.ble b st.length && Nat.ble ((st.drop b).map am_cat).sum 8)) (True ∧ am_Does l a (.inr (.inr k) :: as) μ (fun r μ' => K nx lv (am_rs r ++ st.drop b) μ'))
      | _ => False
    | 41 => am_if (Nat.ble b st.length && Nat.ble ((st.drop b).map am_cat).sum 8) (True ∧ am_Does l a (st.take b).reverse μ (fun r μ' => K nx lv (am_rs r ++ st.drop b) μ'))
    | 42 => match st with
      | [] => True ∧ Q none μ
      | _ => False
    | 43 => match st with
      | [.inl v] => match c with
        | 0 => True ∧ Q (some (.inl v)) μ
        | _ => (v = 0 ∨ v = 1) ∧ Q (some (.inl v)) μ
      | _ => False
    | 44 => match st with
      | [.inr (.inl v)] => True ∧ Q (some (.inr (.inl v))) μ
      | _ => False
    | 45 => match st with
      | .inl v :: r => am_sw ts (am_c v) a (fun t => K t lv r μ)
      | _ => False
    | 46 => match st with
      | .inl v :: .inl u :: r => am_if (Nat.ble (r.map am_cat).sum 8) (K nx lv (.inl (if am_c u < am_c v then v else u) :: r) μ)
      | _ => False
    | 47 => match st with
      | .inl v :: .inl u :: r => am_if (Nat.ble (r.map am_cat).sum 8) (K nx lv (.inl (if am_c v < am_c u then v else u) :: r) μ)
      | _ => False
    | 48 => match st with
      | .inl u :: r => am_if (Nat.ble (r.map am_cat).sum 8) (K nx lv (.inl (if 0 ≤ am_c u then u else 0 - u) :: r) μ)
      | _ => False
    | _ => False
/-- the length that the machine's rows ask of an instruction (0: any) -/
def am_ln (i : Instr) : Nat := match i with
  | .bipush _ | .iload _ | .istore _ | .lload _ | .lstore _ | .aload _ | .ldc _ => 2
  | .sipush _ | .ldc_w _ | .ldc2_w _ | .getfield _ | .putfield _ | .iinc _ _ | .goto _ | .ifCond _ _ | .if_icmp _ _ | .invokevirtual _ | .invokestatic _ => 3
  | .tableswitch _ _ _ _ | .lookupswitch _ _ => 0
  | _ => 1
def am_bad : am_I := (0, 99, 0, 0, 0, 0, [])
def am_cc (c : ClassFile.Cond) : Nat := match c with
  | .eq => 0
  | .ne => 1
  | .lt => 2
  | .ge => 3
  | .gt => 4
  | .le => 5
def am_tb (pc : Nat) (lo : Int) : List Int → List (Int × Nat)
  | [] => []
  | o :: r => (lo, ((pc : Int) + o).toNat) :: am_tb pc (lo + 1) r
def am_br (pc : Nat) (off : Int) (x : am_I) : am_I := if 0 ≤ (pc : Int) + off then x else am_bad
def am_okc (y y' : Nat) : Bool := decide (0 < y') && decide (y' < am_ny) && decide (am_fr y' + 1 ≤ am_fr y) && decide (19 + am_ml y' + am_lo y' ≤ am_lo y)
def am_nrm (y pc : Nat) (i : Instr) : am_I := match i with
  | .iconst n => (pc + 1, 0, 0, 0, 0, n, [])
  | .bipush n => (pc + 2, 0, 0, 0, 0, (Int8.ofInt n).toInt32.toInt, [])
  | .sipush n => (pc + 3, 0, 0, 0, 0, (Int16.ofInt n).toInt32.toInt, [])
  | .ldc k => match am_co.find? (fun f => Nat.beq f.1 (am_ow y) && Nat.beq f.2.1 k) with
    | some f => (pc + 2, 0, 0, 0, 0, f.2.2, [])
    | none => am_bad
  | .ldc_w k => match am_co.find? (fun f => Nat.beq f.1 (am_ow y) && Nat.beq f.2.1 k) with
    | some f => (pc + 3, 0, 0, 0, 0, f.2.2, [])
    | none => am_bad
  | .ldc2_w k => match am_cl.find? (fun f => Nat.beq f.1 (am_ow y) && Nat.beq f.2.1 k) with
    | some f => (pc + 3, 1, 0, 0, 0, f.2.2, [])
    | none => am_bad
  | .lconst n => (pc + 1, 1, 0, 0, 0, ((n : Nat) : Int), [])
  | .iload k => (pc + 2, 2, k, 0, 0, 0, [])
  | .iload_n k => (pc + 1, 2, (k : Nat), 0, 0, 0, [])
  | .istore k => (pc + 2, 3, k, 0, 0, 0, [])
  | .istore_n k => (pc + 1, 3, (k : Nat), 0, 0, 0, [])
  | .lload k => (pc + 2, 4, k, 0, 0, 0, [])
  | .lload_n k => (pc + 1, 4, (k : Nat), 0, 0, 0, [])
  | .lstore k => (pc + 2, 5, k, 0, 0, 0, [])
  | .lstore_n k => (pc + 1, 5, (k : Nat), 0, 0, 0, [])
  | .aload k => (pc + 2, 6, k, 0, 0, 0, [])
  | .aload_n k => (pc + 1, 6, (k : Nat), 0, 0, 0, [])
  | .getfield k => match am_fl.find? (fun f => Nat.beq f.1 (am_ow y) && Nat.beq f.2.1 k) with
    | some f => (pc + 3, 7, f.2.2.1, f.2.2.2, 0, 0, [])
    | none => am_bad
  | .putfield k => match am_fl.find? (fun f => Nat.beq f.1 (am_ow y) && Nat.beq f.2.1 k) with
    | some f => if (am_cT f.2.2.1 f.2.2.2).2.2.2 = false then (match am_ty f.2.2.1 f.2.2.2 with
        | .int => (pc + 3, 8, f.2.2.1, f.2.2.2, 0, 0, [])
        | .boolean => (pc + 3, 8, f.2.2.1, f.2.2.2, 1, 0, [])
        | _ => am_bad) else am_bad
    | none => am_bad
  | .iaload => (pc + 1, 9, 0, 0, 0, 0, [])
  | .iastore => (pc + 1, 10, 0, 0, 0, 0, [])
  | .aaload => (pc + 1, 11, 0, 0, 0, 0, [])
  | .arraylength => (pc + 1, 12, 0, 0, 0, 0, [])
  | .iadd => (pc + 1, 13, 0, 0, 0, 0, [])
  | .isub => (pc + 1, 14, 0, 0, 0, 0, [])
  | .imul => (pc + 1, 15, 0, 0, 0, 0, [])
  | .idiv => (pc + 1, 16, 0, 0, 0, 0, [])
  | .irem => (pc + 1, 17, 0, 0, 0, 0, [])
  | .iand => (pc + 1, 18, 0, 0, 0, 0, [])
  | .ior => (pc + 1, 19, 0, 0, 0, 0, [])
  | .ixor => (pc + 1, 20, 0, 0, 0, 0, [])
  | .ishl => (pc + 1, 21, 0, 0, 0, 0, [])
  | .ishr => (pc + 1, 22, 0, 0, 0, 0, [])
  | .ineg => (pc + 1, 23, 0, 0, 0, 0, [])
  | .iinc k n => (pc + 3, 24, k, 0, 0, n, [])
  | .goto o => am_br pc o (0, 25, ((pc : Int) + o).toNat, 0, 0, 0, [])
  | .ifCond cd o => am_br pc o (pc + 3, 26, ((pc : Int) + o).toNat, am_cc cd, 0, 0, [])
  | .if_icmp cd o => am_br pc o (pc + 3, 27, ((pc : Int) + o).toNat, am_cc cd, 0, 0, [])
  | .pop => (pc + 1, 28, 0, 0, 0, 0, [])
  | .pop2 => (pc + 1, 29, 0, 0, 0, 0, [])
  | .dup => (pc + 1, 30, 0, 0, 0, 0, [])
  | .dup2 => (pc + 1, 31, 0, 0, 0, 0, [])
  | .dup_x1 => (pc + 1, 32, 0, 0, 0, 0, [])
  | .i2l => (pc + 1, 33, 0, 0, 0, 0, [])
  | .lcmp => (pc + 1, 34, 0, 0, 0, 0, [])
  | .ladd => (pc + 1, 35, 0, 0, 0, 0, [])
  | .lsub => (pc + 1, 36, 0, 0, 0, 0, [])
  | .lmul => (pc + 1, 37, 0, 0, 0, 0, [])
  | .ldiv => (pc + 1, 38, 0, 0, 0, 0, [])
  | .lrem => (pc + 1, 39, 0, 0, 0, 0, [])
  | .invokevirtual k => match am_ca.find? (fun f => Nat.beq f.1 (am_ow y) && Nat.beq f.2.1 k) with
    | some f => if am_okc y f.2.2 && !am_st f.2.2 then (pc + 3, 40, f.2.2, am_na f.2.2, am_ow f.2.2 + 2, 0, []) else am_bad
    | none => am_bad
  | .invokestatic k => match am_ca.find? (fun f => Nat.beq f.1 (am_ow y) && Nat.beq f.2.1 k) with
    | some f => if am_okc y f.2.2 && am_st f.2.2 && Nat.beq (am_ow f.2.2) (am_ow y) then (pc + 3, 41, f.2.2, am_na f.2.2, 0, 0, []) else am_bad
    | none => match am_ma.find? (fun f => Nat.beq f.1 (am_ow y) && Nat.beq f.2.1 k) with
      | some f => if decide (1 ≤ am_fr y) && decide (21 ≤ am_lo y) && decide (f.2.2 < 3) then (pc + 3, 46 + f.2.2, 0, 0, 0, 0, []) else am_bad
      | none => am_bad
  | .return_ => match am_re y with
    | none => (0, 42, 0, 0, 0, 0, [])
    | some _ => am_bad
  | .ireturn => match am_re y with
    | some .int => (0, 43, 0, 0, 0, 0, [])
    | some .boolean => (0, 43, 0, 0, 1, 0, [])
    | _ => am_bad
  | .lreturn => match am_re y with
    | some .long => (0, 44, 0, 0, 0, 0, [])
    | _ => am_bad
  | .tableswitch d lo hi offs => if decide (0 ≤ (pc : Int) + d) && offs.toList.all (fun o => decide (0 ≤ (pc : Int) + o)) && decide ((offs.toList.length : Int) = hi - lo + 1) then (0, 45, ((pc : Int) + d).toNat, 0, 0, 0, am_tb pc lo offs.toList) else am_bad
  | .lookupswitch d ps => if decide (0 ≤ (pc : Int) + d) && ps.toList.all (fun o => decide (0 ≤ (pc : Int) + o.2)) && (ps.toList.zip (ps.toList.drop 1)).all (fun (a, next) => a.1 < next.1) then (0, 45, ((pc : Int) + d).toNat, 0, 0, 0, ps.toList.map (fun o => (o.1, ((pc : Int) + o.2).toNat))) else am_bad
  | _ => am_bad
def am_ie (x w : am_I) : Bool := match x, w with
  | (n1, o1, a1, b1, c1, z1, t1), (n2, o2, a2, b2, c2, z2, t2) => Nat.beq n1 n2 && (Nat.beq o1 o2 && (Nat.beq a1 a2 && (Nat.beq b1 b2 && (Nat.beq c1 c2 && (decide (z1 = z2) && decide (t1 = t2))))))
theorem am_ie_eq {x w : am_I} (h : am_ie x w = true) : x = w := by
  obtain ⟨n1, o1, a1, b1, c1, z1, t1⟩ := x
  obtain ⟨n2, o2, a2, b2, c2, z2, t2⟩ := w
  simp only [am_ie, Bool.and_eq_true, Nat.beq_eq, decide_eq_true_eq] at h
  obtain ⟨rfl, rfl, rfl, rfl, rfl, rfl, rfl⟩ := h
  rfl
def am_chk (y pc : Nat) (x : am_I) : Bool := match decode (am_bt y) pc with
  | .ok (i, len) => (am_ln i == 0 || len == am_ln i) && am_ie (am_nrm y pc i) x
  | _ => false
/-! the abstract machine's step is borne out by the machine -/
theorem am_toInt (z : Int) : (Int32.ofInt z).toInt = am_c z := by
  rw [Int32.toInt_ofInt]
  unfold am_c Int.bmod
  simp only [show ((Int32.size : Nat) : Int) = 4294967296 from rfl, show Int32.size = 4294967296 from rfl]
  split <;> omega
theorem am_toInt64 (z : Int) : (Int64.ofInt z).toInt = am_d z := by
  rw [Int64.toInt_ofInt]
  unfold am_d Int.bmod
  simp only [show ((Int64.size : Nat) : Int) = 18446744073709551616 from rfl, show Int64.size = 18446744073709551616 from rfl]
  split <;> omega
theorem am_inj {z : Int} {x : Int32} (h : am_c z = x.toInt) : Int32.ofInt z = x := Int32.toInt_inj.mp ((am_toInt z).trans h)
theorem am_inj64 {z : Int} {x : Int64} (h : am_d z = x.toInt) : Int64.ofInt z = x := Int64.toInt_inj.mp ((am_toInt64 z).trans h)
theorem am_back (x : Int32) : Int32.ofInt x.toInt = x := Int32.ofInt_toInt x
theorem am_can (z : Int) : Int32.ofInt (am_c z) = Int32.ofInt z := by rw [← am_toInt]; exact am_back _
theorem am_can64 (z : Int) : Int64.ofInt (am_d z) = Int64.ofInt z := by rw [← am_toInt64]; exact Int64.ofInt_toInt _
theorem am_lt (a b : Int) : Int32.ofInt a < Int32.ofInt b ↔ am_c a < am_c b := by rw [Int32.lt_iff_toInt_lt, am_toInt, am_toInt]
theorem am_le (a b : Int) : Int32.ofInt a ≤ Int32.ofInt b ↔ am_c a ≤ am_c b := by rw [Int32.le_iff_toInt_le, am_toInt, am_toInt]
theorem am_eq (a b : Int) : Int32.ofInt a = Int32.ofInt b ↔ am_c a = am_c b := by rw [← Int32.toInt_inj, am_toInt, am_toInt]
theorem am_0 : Int32.ofInt 0 = 0 := by decide +kernel
theorem am_c0 : am_c 0 = 0 := by decide +kernel
theorem am_in {i : Int} {n : Nat} (h : 0 ≤ am_c i ∧ am_c i < n) : vp_in (Int32.ofInt i) n := vp_in_iff.mpr (by rw [am_toInt]; exact h)
theorem am_cl_nat (i : Int) : (Int32.ofInt i).toNatClampNeg = (am_c i).toNat := by
  show (Int32.ofInt i).toInt.toNat = _
  rw [am_toInt]
theorem am_div32 (a b : Int) : Int32.ofInt a / Int32.ofInt b = Int32.ofInt ((am_c a).tdiv (am_c b)) := by
  apply Int32.toInt_inj.mp
  rw [Int32.toInt_div, am_toInt, am_toInt, Int32.toInt_ofInt]
theorem am_div64 (a b : Int) : Int64.ofInt a / Int64.ofInt b = Int64.ofInt ((am_d a).tdiv (am_d b)) := by
  apply Int64.toInt_inj.mp
  rw [Int64.toInt_div, am_toInt64, am_toInt64, Int64.toInt_ofInt]
theorem am_rem32 (a b : Int) : Int32.ofInt a - Int32.ofInt a / Int32.ofInt b * Int32.ofInt b = Int32.ofInt ((am_c a).tmod (am_c b)) := by
  rw [am_div32, ← am_can a, ← am_can b]
  simp only [am_can, am_toInt]
  rw [Int.tmod_def, Int32.ofInt_sub, Int32.ofInt_mul, am_can, am_can, Int32.mul_comm]
theorem am_rem64 (a b : Int) : Int64.ofInt a - Int64.ofInt a / Int64.ofInt b * Int64.ofInt b = Int64.ofInt ((am_d a).tmod (am_d b)) := by
  rw [am_div64, Int.tmod_def, Int64.ofInt_sub, Int64.ofInt_mul, am_can64, am_can64, Int64.mul_comm]
theorem am_i2l (z : Int) : (Int32.ofInt z).toInt64 = Int64.ofInt (am_c z) := by
  rw [← am_toInt]; exact (Int64.ofInt_int32ToInt _).symm
theorem am_lcmp (u v : Int) : lg_cmp (Int64.ofInt u) (Int64.ofInt v) = Int32.ofInt (if am_d v < am_d u then 1 else if am_d u = am_d v then 0 else -1) := by
  unfold lg_cmp
  simp only [gt_iff_lt, Int64.lt_iff_toInt_lt, ← Int64.toInt_inj, am_toInt64]
  split
  · rfl
  · split <;> rfl
theorem am_ofNat (n : Nat) : Int32.ofNat n = Int32.ofInt (n : Int) := Int32.ofInt_eq_ofNat.symm
theorem am_ws_at {ad : Nat → Nat} {ca : Nat → ClassId} {μ : am_N} {k : Nat} {q : Nat × List Nat} (h : am_sh[k]? = some q) : (am_ws ad ca μ)[k]? = some (ad k, am_ce ad ca k q (μ k)) := by
  unfold am_ws
  rw [List.getElem?_mapIdx, h]; rfl
theorem am_ws_set {ad : Nat → Nat} {ca : Nat → ClassId} {μ : am_N} {k j : Nat} {v : Int} {q : Nat × List Nat} {e : va_E} (h : am_sh[k]? = some q) (he : e = am_ce ad ca k q (am_up μ k j v k)) : (am_ws ad ca μ).set k (ad k, e) = am_ws ad ca (am_up μ k j v) := by
  have hk : k < am_sh.length := (List.getElem?_eq_some_iff.mp h).1
  apply List.ext_getElem?
  intro i
  by_cases hi : k = i
  · subst hi
    rw [List.getElem?_set_self (by unfold am_ws; rw [List.length_mapIdx]; exact hk), am_ws_at h, he]
  · rw [List.getElem?_set_ne hi]
    unfold am_ws
    rw [List.getElem?_mapIdx, List.getElem?_mapIdx]
    cases hq : am_sh[i]? with
    | none => rfl
    | some w =>
      have e1 : am_up μ k j v i = μ i := by
        funext b
        unfold am_up
        rw [if_neg (fun z => hi z.1.symm)]
      simp only [Option.map_some, e1]
theorem am_cat_rv (ad : Nat → Nat) (v : am_V) : (am_rv ad v).category = am_cat v := by
  rcases v with z | z | k <;> rfl
theorem am_cats (ad : Nat → Nat) (st : List am_V) : ((st.map (am_rv ad)).map fun v => v.category).sum = (st.map am_cat).sum := by
  induction st with
  | nil => rfl
  | cons v r ih => simp only [List.map_cons, List.sum_cons, am_cat_rv, ih]
/-- locals: the list that the kit's rows speak of -/
def am_prs (ad : Nat → Nat) (lv : List (Option am_V)) : List (Nat × Value) := (List.range lv.length).filterMap (fun i => (lv[i]?).join.map (fun v => (i, am_rv ad v)))
theorem am_prs_in {ad : Nat → Nat} {lv : List (Option am_V)} {q : Nat × Value} : q ∈ am_prs ad lv ↔ ∃ v, lv[q.1]? = some (some v) ∧ q.2 = am_rv ad v := by
  unfold am_prs
  rw [List.mem_filterMap]
  constructor
  · rintro ⟨i, hi, h⟩
    cases hl : lv[i]? with
    | none => rw [hl] at h; simp at h
    | some o =>
      cases o with
      | none => rw [hl] at h; simp at h
      | some v =>
        rw [hl] at h
        simp only [Option.join_some, Option.map_some, Option.some.injEq] at h
        subst h
        exact ⟨v, hl, rfl⟩
  · rintro ⟨v, h1, h2⟩
    refine ⟨q.1, List.mem_range.mpr (List.getElem?_eq_some_iff.mp h1).1, ?_⟩
    rw [h1]
    simp only [Option.join_some, Option.map_some, ← h2]
theorem am_L.has {ls : Array Slot} {nL : Nat} {ad : Nat → Nat} {lv : List (Option am_V)} (h : am_L ls nL ad lv) : lv_has ls nL (am_prs ad lv) :=
  ⟨h.1, h.2.1, fun q hq => by obtain ⟨v, h1, h2⟩ := am_prs_in.mp hq; rw [h2]; exact h.2.2.1 _ _ h1⟩
theorem am_L.of {ls : Array Slot} {nL : Nat} {ad : Nat → Nat} {lv : List (Option am_V)} {l : List (Nat × Value)} (h : lv_has ls nL l) (hn : lv.length = nL) (hl : ∀ (i : Nat) (v : am_V), lv[i]? = some (some v) → (i, am_rv ad v) ∈ l) : am_L ls nL ad lv :=
  ⟨h.1, h.2.1, fun i v hv => h.2.2 _ (hl i v hv), hn⟩
theorem am_nl_ok {lv : List (Option am_V)} {i j : Nat} {v : am_V} (h : am_nl lv i = true) (hv : lv[j]? = some (some v)) (hj : j + 1 = i) (ad : Nat → Nat) : ¬ (am_rv ad v).category = 2 := by
  subst hj
  rw [am_cat_rv]
  unfold am_nl at h
  simp only [hv] at h
  rcases v with z | z | k
  · simp [am_cat]
  · simp at h
  · simp [am_cat]
theorem am_L1 {nL i : Nat} {ad : Nat → Nat} {lv : List (Option am_V)} {v : am_V} {ls' : Array Slot} (hlen : lv.length = nL) (hn : am_nl lv i = true) (h : lv_has ls' nL ((i, am_rv ad v) :: (am_prs ad lv).filter (fun q => !(q.1 == i) && !(q.1 + 1 == i && q.2.category == 2)))) : am_L ls' nL ad (lv.set i (some v)) := by
  refine am_L.of h (by simp only [List.length_set]; exact hlen) fun j w hw => ?_
  by_cases hj : i = j
  · subst hj
    rw [List.getElem?_set] at hw
    simp only [if_true] at hw
    split at hw
    · have e : v = w := by simpa using hw
      subst e
      exact List.mem_cons_self
    · cases hw
  · rw [List.getElem?_set_ne hj] at hw
    refine List.mem_cons_of_mem _ (List.mem_filter.mpr ⟨am_prs_in.mpr ⟨w, hw, rfl⟩, ?_⟩)
    have h2 : ¬ (j + 1 = i ∧ (am_rv ad w).category = 2) := fun z => am_nl_ok hn hw z.1 ad z.2
    have h1 : ¬ j = i := fun z => hj z.symm
    simp only [Bool.and_eq_true, Bool.not_eq_true', beq_eq_false_iff_ne, ne_eq, Bool.and_eq_false_iff]
    refine ⟨h1, ?_⟩
    by_cases hx : j + 1 = i
    · exact Or.inr (fun z => h2 ⟨hx, z⟩)
    · exact Or.inl hx
theorem am_L2 {nL i : Nat} {ad : Nat → Nat} {lv : List (Option am_V)} {v : am_V} {ls' : Array Slot} (hlen : lv.length = nL) (hn : am_nl lv i = true) (h : lv_has ls' nL ((i, am_rv ad v) :: (am_prs ad lv).filter (fun q => !(q.1 == i) && (!(q.1 == i + 1) && !(q.1 + 1 == i && q.2.category == 2))))) : am_L ls' nL ad ((lv.set i (some v)).set (i + 1) none) := by
  refine am_L.of h (by simp only [List.length_set]; exact hlen) fun j w hw => ?_
  by_cases hj1 : i + 1 = j
  · subst hj1
    rw [List.getElem?_set] at hw
    simp only [if_true] at hw
    split at hw <;> simp at hw
  · rw [List.getElem?_set_ne hj1] at hw
    by_cases hj : i = j
    · subst hj
      rw [List.getElem?_set] at hw
      simp only [if_true] at hw
      split at hw
      · have e : v = w := by simpa using hw
        subst e
        exact List.mem_cons_self
      · cases hw
    · rw [List.getElem?_set_ne hj] at hw
      refine List.mem_cons_of_mem _ (List.mem_filter.mpr ⟨am_prs_in.mpr ⟨w, hw, rfl⟩, ?_⟩)
      have h2 : ¬ (j + 1 = i ∧ (am_rv ad w).category = 2) := fun z => am_nl_ok hn hw z.1 ad z.2
      have h1 : ¬ j = i := fun z => hj z.symm
      have h3 : ¬ j = i + 1 := fun z => hj1 z.symm
      simp only [Bool.and_eq_true, Bool.not_eq_true', beq_eq_false_iff_ne, ne_eq, Bool.and_eq_false_iff]
      refine ⟨h1, h3, ?_⟩
      by_cases hx : j + 1 = i
      · exact Or.inr (fun z => h2 ⟨hx, z⟩)
      · exact Or.inl hx
/-- fields of an object of the world -/
theorem am_ob {ad : Nat → Nat} {ca : Nat → ClassId} {μ : am_N} {k t c : Nat} {fs : List Nat} (h : am_sh[k]? = some (t, fs)) (ht : t = c + 2) : (am_ws ad ca μ)[k]? = some (ad k, .inr (c, fs.mapIdx (am_fv ad (μ k)))) := by
  rw [am_ws_at h]; subst ht; rfl
theorem am_ob_at {ad : Nat → Nat} {f : Nat → Int} {fs : List Nat} {b x : Nat} (h : fs[b]? = some x) : (fs.mapIdx (am_fv ad f))[b]? = some (am_fv ad f b x) := by
  rw [List.getElem?_mapIdx, h]; rfl
theorem am_ob_set {ad : Nat → Nat} {ca : Nat → ClassId} {μ : am_N} {k t c b : Nat} {fs : List Nat} {v : Int} (h : am_sh[k]? = some (t, fs)) (ht : t = c + 2) (hb : fs[b]? = some 0) :
    (am_ws ad ca μ).set k (ad k, .inr (c, (fs.mapIdx (am_fv ad (μ k))).set b (.int (Int32.ofInt v)))) = am_ws ad ca (am_up μ k b v) := by
  refine am_ws_set h ?_
  subst ht
  show _ = (Sum.inr (c, fs.mapIdx (am_fv ad (am_up μ k b v k))) : va_E)
  congr 2
  apply List.ext_getElem?
  intro i
  by_cases hi : b = i
  · subst hi
    rw [List.getElem?_set_self (by rw [List.length_mapIdx]; exact (List.getElem?_eq_some_iff.mp hb).1), am_ob_at hb]
    simp [am_fv, am_up]
  · rw [List.getElem?_set_ne hi, List.getElem?_mapIdx, List.getElem?_mapIdx]
    cases hq : fs[i]? with
    | none => rfl
    | some w =>
      cases w with
      | zero => simp [am_fv, am_up, if_neg (fun z : i = b => hi z.symm)]
      | succ w => rfl
theorem am_ar {ad : Nat → Nat} {ca : Nat → ClassId} {μ : am_N} {k n : Nat} {r : List Nat} (h : am_sh[k]? = some (0, n :: r)) : (am_ws ad ca μ)[k]? = some (ad k, .inl (ca k, n, .inl (fun j => Int32.ofInt (μ k j)))) := by
  rw [am_ws_at h]; rfl
theorem am_ar_set {ad : Nat → Nat} {ca : Nat → ClassId} {μ : am_N} {k n i : Nat} {r : List Nat} {v : Int} (h : am_sh[k]? = some (0, n :: r)) :
    (am_ws ad ca μ).set k (ad k, .inl (ca k, n, .inl (upd (fun j => Int32.ofInt (μ k j)) i (Int32.ofInt v)))) = am_ws ad ca (am_up μ k i v) := by
  refine am_ws_set h ?_
  show _ = (Sum.inl (ca k, n, Sum.inl (fun j => Int32.ofInt (am_up μ k i v k j))) : va_E)
  congr 4
  funext j
  by_cases hj : j = i <;> simp [upd, am_up, hj]
theorem am_arq {ad : Nat → Nat} {ca : Nat → ClassId} {μ : am_N} {k : Nat} {fs : List Nat} (h : am_sh[k]? = some (1, fs)) : (am_ws ad ca μ)[k]? = some (ad k, .inl (ca k, fs.length, .inr (.inr (.inr (.inr (fun i => (fs[i]?).map ad)))))) := by
  rw [am_ws_at h]; rfl
theorem am_tag_ok {k c : Nat} (h : am_tag k = c + 2) : ∃ fs, am_sh[k]? = some (c + 2, fs) := by
  unfold am_tag at h
  cases hq : am_sh[k]? with
  | none => rw [hq] at h; simp at h
  | some q => rw [hq] at h; exact ⟨q.2, by rw [← h]; rfl⟩
/-! rows of the abstract machine, one a kind of instruction -/

theorem am_ifb {b : Bool} {P : Prop} (h : am_if b P) : b = true ∧ P := by
  cases b with
  | true => exact ⟨rfl, h⟩
  | false => exact h.elim
theorem am_bb {a b : Bool} (h : (a && b) = true) : a = true ∧ b = true := Bool.and_eq_true_iff.mp h
theorem am_br2_iff {b : Nat} {x y : Int} {A B : Prop} : am_br2 b x y A B ↔ (am_co2 b x y → A) ∧ (¬ am_co2 b x y → B) := by
  unfold am_br2 am_co2
  split <;> simp only [Classical.not_not]
theorem am_ne0 {v : Int} (h : am_c v ≠ 0) : ¬ Int32.ofInt v = 0 := fun q => h (by rw [← am_0] at q; rw [(am_eq _ _).mp q, am_c0])
theorem am_ne064 {v : Int} (h : am_d v ≠ 0) : ¬ Int64.ofInt v = 0 := fun q => h (by rw [← am_toInt64, q]; rfl)
theorem am_nz {v : Int} (h : v = 0 ∨ v = 1) : narrow .boolean (.int (Int32.ofInt v)) = .int (Int32.ofInt v) := by
  rcases h with rfl | rfl <;> decide +kernel
theorem am_fz {v : Int} (h : v = 0 ∨ v = 1) : fits .boolean (.int (Int32.ofInt v)) = true := by
  rcases h with rfl | rfl <;> decide +kernel
theorem am_c_eq {x : Int} : (Int32.ofInt x = 0) ↔ am_co2 0 (am_c x) 0 := by
  rw [← am_0]; simp only [am_eq, am_lt, am_le, am_c0, am_co2]
theorem am_n_eq {x : Int} : (¬ Int32.ofInt x = 0) ↔ ¬ am_co2 0 (am_c x) 0 := by
  rw [← am_0]; simp only [am_eq, am_lt, am_le, am_c0, am_co2, Classical.not_not]
theorem am_c2_eq {x y : Int} : (Int32.ofInt x = Int32.ofInt y) ↔ am_co2 0 (am_c x) (am_c y) := by
  simp only [am_eq, am_lt, am_le, am_co2]
theorem am_n2_eq {x y : Int} : (¬ Int32.ofInt x = Int32.ofInt y) ↔ ¬ am_co2 0 (am_c x) (am_c y) := by
  simp only [am_eq, am_lt, am_le, am_co2, Classical.not_not]
theorem am_c_ne {x : Int} : (¬ Int32.ofInt x = 0) ↔ am_co2 1 (am_c x) 0 := by
  rw [← am_0]; simp only [am_eq, am_lt, am_le, am_c0, am_co2]
theorem am_n_ne {x : Int} : (Int32.ofInt x = 0) ↔ ¬ am_co2 1 (am_c x) 0 := by
  rw [← am_0]; simp only [am_eq, am_lt, am_le, am_c0, am_co2, Classical.not_not]
theorem am_c2_ne {x y : Int} : (¬ Int32.ofInt x = Int32.ofInt y) ↔ am_co2 1 (am_c x) (am_c y) := by
  simp only [am_eq, am_lt, am_le, am_co2]
theorem am_n2_ne {x y : Int} : (Int32.ofInt x = Int32.ofInt y) ↔ ¬ am_co2 1 (am_c x) (am_c y) := by
  simp only [am_eq, am_lt, am_le, am_co2, Classical.not_not]
theorem am_c_lt {x : Int} : (Int32.ofInt x < 0) ↔ am_co2 2 (am_c x) 0 := by
  rw [← am_0]; simp only [am_eq, am_lt, am_le, am_c0, am_co2]
theorem am_n_lt {x : Int} : (¬ Int32.ofInt x < 0) ↔ ¬ am_co2 2 (am_c x) 0 := by
  rw [← am_0]; simp only [am_eq, am_lt, am_le, am_c0, am_co2, Classical.not_not]
theorem am_c2_lt {x y : Int} : (Int32.ofInt x < Int32.ofInt y) ↔ am_co2 2 (am_c x) (am_c y) := by
  simp only [am_eq, am_lt, am_le, am_co2]
theorem am_n2_lt {x y : Int} : (¬ Int32.ofInt x < Int32.ofInt y) ↔ ¬ am_co2 2 (am_c x) (am_c y) := by
  simp only [am_eq, am_lt, am_le, am_co2, Classical.not_not]
theorem am_c_ge {x : Int} : (0 ≤ Int32.ofInt x) ↔ am_co2 3 (am_c x) 0 := by
  rw [← am_0]; simp only [am_eq, am_lt, am_le, am_c0, am_co2]
theorem am_n_ge {x : Int} : (¬ 0 ≤ Int32.ofInt x) ↔ ¬ am_co2 3 (am_c x) 0 := by
  rw [← am_0]; simp only [am_eq, am_lt, am_le, am_c0, am_co2, Classical.not_not]
theorem am_c2_ge {x y : Int} : (Int32.ofInt y ≤ Int32.ofInt x) ↔ am_co2 3 (am_c x) (am_c y) := by
  simp only [am_eq, am_lt, am_le, am_co2]
theorem am_n2_ge {x y : Int} : (¬ Int32.ofInt y ≤ Int32.ofInt x) ↔ ¬ am_co2 3 (am_c x) (am_c y) := by
  simp only [am_eq, am_lt, am_le, am_co2, Classical.not_not]
theorem am_c_gt {x : Int} : (0 < Int32.ofInt x) ↔ am_co2 4 (am_c x) 0 := by
  rw [← am_0]; simp only [am_eq, am_lt, am_le, am_c0, am_co2]
theorem am_n_gt {x : Int} : (¬ 0 < Int32.ofInt x) ↔ ¬ am_co2 4 (am_c x) 0 := by
  rw [← am_0]; simp only [am_eq, am_lt, am_le, am_c0, am_co2, Classical.not_not]
theorem am_c2_gt {x y : Int} : (Int32.ofInt y < Int32.ofInt x) ↔ am_co2 4 (am_c x) (am_c y) := by
  simp only [am_eq, am_lt, am_le, am_co2]
theorem am_n2_gt {x y : Int} : (¬ Int32.ofInt y < Int32.ofInt x) ↔ ¬ am_co2 4 (am_c x) (am_c y) := by
  simp only [am_eq, am_lt, am_le, am_co2, Classical.not_not]
theorem am_c_le {x : Int} : (Int32.ofInt x ≤ 0) ↔ am_co2 5 (am_c x) 0 := by
  rw [← am_0]; simp only [am_eq, am_lt, am_le, am_c0, am_co2]
theorem am_n_le {x : Int} : (¬ Int32.ofInt x ≤ 0) ↔ ¬ am_co2 5 (am_c x) 0 := by
  rw [← am_0]; simp only [am_eq, am_lt, am_le, am_c0, am_co2, Classical.not_not]
theorem am_c2_le {x y : Int} : (Int32.ofInt x ≤ Int32.ofInt y) ↔ am_co2 5 (am_c x) (am_c y) := by
  simp only [am_eq, am_lt, am_le, am_co2]
theorem am_n2_le {x y : Int} : (¬ Int32.ofInt x ≤ Int32.ofInt y) ↔ ¬ am_co2 5 (am_c x) (am_c y) := by
  simp only [am_eq, am_lt, am_le, am_co2, Classical.not_not]

theorem am_sw_tb {K : Nat → Prop} {pc d : Nat} {v : Int} : ∀ {lo : Int} {os : List Int}, am_sw (am_tb pc lo os) v d K → (∃ o, (¬ v < lo ∧ os[(v - lo).toNat]? = some o) ∧ K ((pc : Int) + o).toNat) ∨ ((v < lo ∨ lo + (os.length : Int) ≤ v) ∧ K d)
  | lo, [], h => Or.inr ⟨by simp only [List.length_nil]; omega, h⟩
  | lo, o :: r, h => by
    obtain ⟨h1, h2⟩ := h
    by_cases e : v = lo
    · exact Or.inl ⟨o, ⟨by omega, by rw [e]; simp⟩, h1 e⟩
    · rcases am_sw_tb (h2 e) with ⟨o', ⟨q1, q2⟩, q3⟩ | ⟨q1, q2⟩
      · refine Or.inl ⟨o', ⟨by omega, ?_⟩, q3⟩
        have e2 : (v - lo).toNat = (v - (lo + 1)).toNat + 1 := by omega
        rw [e2, List.getElem?_cons_succ]
        exact q2
      · refine Or.inr ⟨?_, q2⟩
        simp only [List.length_cons]
        omega
theorem am_sw_lk {K : Nat → Prop} {pc : Nat} {d v : Int} (h0 : 0 ≤ (pc : Int) + d) : ∀ {ps : List (Int × Int)}, (∀ o ∈ ps, 0 ≤ (pc : Int) + o.2) → am_sw (ps.map (fun o => (o.1, ((pc : Int) + o.2).toNat))) v ((pc : Int) + d).toNat K → K ((pc : Int) + Op.lookupswitch.offset ps d v).toNat ∧ 0 ≤ (pc : Int) + Op.lookupswitch.offset ps d v
  | [], _, h => ⟨h, h0⟩
  | (a, o) :: r, h1, h => by
    obtain ⟨q1, q2⟩ := h
    rw [Op.lookupswitch.offset_cons]
    by_cases e : a = v
    · rw [if_pos e]
      exact ⟨q1 e.symm, h1 (a, o) List.mem_cons_self⟩
    · rw [if_neg e]
      exact am_sw_lk h0 (fun o' ho' => h1 o' (List.mem_cons_of_mem _ ho')) (q2 (fun z => e z.symm))
theorem am_fl_all : am_fl.all (fun f => decide (f.2.2.1 < 8) && decide (f.2.2.2 < am_nf f.2.2.1)) = true := by decide +kernel
theorem am_lay_in : ∀ c, c < 8 → ∀ w ∈ u_ws (am_cn c) (am_cT c) (am_nf c), w ∈ am_big := by
  intro c hc
  match c, hc with
  | 0, _ => exact am_lay_in_0
  | 1, _ => exact am_lay_in_1
  | 2, _ => exact am_lay_in_2
  | 3, _ => exact am_lay_in_3
  | 4, _ => exact am_lay_in_4
  | 5, _ => exact am_lay_in_5
  | 6, _ => exact am_lay_in_6
  | 7, _ => exact am_lay_in_7
theorem am_vw : ∀ c, c < 8 → vwCl[c]? = some (am_cn c, am_cT c, am_nf c) := by
  intro c hc
  match c, hc with
  | 0, _ => rfl
  | 1, _ => rfl
  | 2, _ => rfl
  | 3, _ => rfl
  | 4, _ => rfl
  | 5, _ => rfl
  | 6, _ => rfl
  | 7, _ => rfl
theorem am_fl_ok {o k ci b : Nat} (h : (o, k, ci, b) ∈ am_fl) : vwCl[ci]? = some (am_cn ci, am_cT ci, am_nf ci) ∧ b < am_nf ci ∧ ∀ w ∈ u_ws (am_cn ci) (am_cT ci) (am_nf ci), w ∈ am_big := by
  have q := List.all_eq_true.mp am_fl_all _ h
  simp only [Bool.and_eq_true, decide_eq_true_eq] at q
  exact ⟨am_vw ci q.1, q.2, am_lay_in ci q.1⟩
theorem am_ty_ok {o k ci b : Nat} (h : (o, k, ci, b) ∈ am_fl) : (∀ j, j < am_nf ci → parseFieldDescriptor (am_cT ci j).2.2.1 = some (am_ty ci j)) ∧ ∀ a, a < am_nf ci → ∀ b, b < am_nf ci → a ≠ b → (am_cT ci a).2.1 ≠ (am_cT ci b).2.1 := by
  have q := List.all_eq_true.mp am_fl_all _ h
  simp only [Bool.and_eq_true, decide_eq_true_eq] at q
  match ci, q.1 with
  | 0, _ => exact ⟨tyX0_ok, nmX0⟩
  | 1, _ => exact ⟨tyX1_ok, nmX1⟩
  | 2, _ => exact ⟨tyX2_ok, nmX2⟩
  | 3, _ => exact ⟨tyX3_ok, nmX3⟩
  | 4, _ => exact ⟨tyX4_ok, nmX4⟩
  | 5, _ => exact ⟨tyX5_ok, nmX5⟩
  | 6, _ => exact ⟨tyX6_ok, nmX6⟩
  | 7, _ => exact ⟨tyX7_ok, nmX7⟩
theorem am_md_ok {z : Nat} (h0 : 0 < z) (h1 : z < am_ny) : (am_md z).1.cls = am_cn (am_ow z) ∧ ((am_md z).1.cls ≠ "java/lang/invoke/MethodHandle" ∧ (am_md z).1.cls ≠ "java/lang/invoke/VarHandle") ∧ (parseMethodDescriptor (am_md z).1.desc).map (fun d => d.parameters.length) = some (if am_st z = true then am_na z else am_na z - 1) ∧
    ((am_st z = false → Cond.instanceMethod (am_md z).1 ∈ am_big) ∧ (am_st z = false → Cond.selects (am_md z).1.cls (am_md z).1 (am_md z).1 ∈ am_big)) ∧ Cond.initialized (am_md z).1.cls ∈ am_big ∧ am_ow z < 8 := by
  have hin := am_md_in h0 h1
  have q := List.all_eq_true.mp am_okm_all _ hin
  unfold am_okm at q
  simp only [Bool.and_eq_true, decide_eq_true_eq, beq_iff_eq] at q
  obtain ⟨⟨⟨⟨⟨⟨q1, q2⟩, q3⟩, q4⟩, q5⟩, q6⟩, q7⟩ := q
  refine ⟨q1, ⟨q2, q3⟩, q6, ⟨fun h => ?_, fun h => ?_⟩, ?_, q5⟩
  · have w := am_inm_in _ hin
    unfold am_inw at w
    rwa [if_neg (by show ¬ am_st z = true; rw [h]; decide)] at w
  · exact am_se_in _ hin (by show (!am_st z) = true; rw [h]; rfl)
  · rw [q1]; exact am_ini_in q5
theorem am_md_st {z : Nat} (h0 : 0 < z) (h1 : z < am_ny) (h : am_st z = true) : Cond.static (am_md z).1 ∈ am_big := by
  have w := am_inm_in _ (am_md_in h0 h1)
  unfold am_inw at w
  rwa [if_pos (by show am_st z = true; exact h)] at w
theorem am_md_cd {z : Nat} (h0 : 0 < z) (h1 : z < am_ny) : Cond.code (am_md z).1 (am_bt z) (am_ml z) (am_re z) ∈ am_big := am_cd_in _ (am_md_in h0 h1)
theorem am_md_pl {z : Nat} (h0 : 0 < z) (h1 : z < am_ny) : plainName (am_md z).1.cls = true := by
  have q := List.all_eq_true.mp am_okm_all _ (am_md_in h0 h1)
  unfold am_okm at q
  simp only [Bool.and_eq_true, decide_eq_true_eq, beq_iff_eq] at q
  exact q.1.1.1.2
theorem am_goodw {z : Nat} (h0 : 0 < z) (h1 : z < am_ny) : GoodIn am_big (am_w z) := by
  intro w hw
  have hm : w ∈ am_big := by
    rcases List.mem_cons.mp hw with rfl | hw
    · exact am_md_cd h0 h1
    · exact hw
  exact ⟨hm, good_of_word (List.all_eq_true.mp am_big_good _ hm)⟩
theorem am_blind {D : va_G} {ad : Nat → Nat} {ca : Nat → ClassId} {tys : List (ClassId × FieldType)} {B0 : Nat} {args : List am_V} {μ : am_N} : FrameBlind (am_Pc D ad ca tys B0 args μ) := by
  intro a U g mk q
  obtain ⟨q0, q1, qP, qK, qD⟩ := q
  exact ⟨q0, q1, qP, va_K.moved (u := U) (U := U.calling g mk a) (Vm.Alike.refl U.vm) qK, qD⟩
theorem am_recv {s : State} {H : Heap} {D : va_G} {ad : Nat → Nat} {ca : Nat → ClassId} {μ : am_N} {k c : Nat} {fs : List Nat} {tys : List (ClassId × FieldType)} (hc : c < 8) (hK : va_K D vwCl tys s) (hP : va_P D vwCl (am_ws ad ca μ) H) (h : am_sh[k]? = some (c + 2, fs)) : ∃ cell : Cell, H[ad k]? = some cell ∧ cell.vm.isStatics = false ∧ s.vm.findClass (am_cn c) = some cell.cls :=
  va_recv hK hP (am_vw c hc) (am_ob h rfl)
theorem am_callW {p : Program} {l : Launch} {e : Env} {R : Room} {s : State} {m : MethodId} {args : Array Value} {below : List Frame} {meth : Method} {c : Code} {H : Heap} {locs : List Loc} {cells slots : Nat} {Qf : State → Prop} {pc : Nat} {ls : Array Slot} {rest st0 : List Value} {a : Array Value} {B0 : Nat} {Q : Option am_V → am_N → Prop} {D : va_G} {ad : Nat → Nat} {ca : Nat → ClassId}
    (hr : va_Run p l e R s m args below meth c H locs cells slots 0 0 (F0 m pc ls st0) rest (am_Q Q D ad ca B0 a) (am_A B0)) (hS : va_S (am_A B0) s.heap H locs)
    (kk : ∀ (r : Option am_V) (μ' : am_N) (H1 : Heap) (locs1 : List Loc), Q r μ' → va_P D vwCl (am_ws ad ca μ') H1 → va_D (am_A B0) (am_ws ad ca μ') → va_S (am_A B0) s.heap H1 locs1 → W p l e R s m args below meth c H1 locs1 cells slots Qf (F0 m (pc + 3) ls ((r.map (am_rv ad)).toList ++ rest))) : W p l e R s m args below meth c H locs cells slots Qf (F0 m pc ls st0) := by
  intro T hT X
  obtain ⟨v, st₀, t, T', L, h0, X', hL, e1, e2, ⟨⟨r, μ', hv, hq, hP', hD'⟩, hz, hk⟩, st⟩ := hr T hT X
  have hv := Outcome.returned.inj hv
  subst hv
  rw [h0] at hz hk
  obtain ⟨t2, a1, b1⟩ := kk r μ' T'.heap (locs ++ L) hq (by rw [e1]; exact hP') hD'
    ⟨Nat.le_trans hS.1 (by rw [e1]; exact hz), fun q h1 h2 => by rw [e1, hk q (Nat.lt_of_lt_of_le h1 hS.1) h2]; exact hS.2.1 q h1 h2, fun q hq => by
      rcases List.mem_append.mp hq with h | h
      · exact hS.2.2 q h
      · exact hL q h⟩ T' rfl X'
  exact ⟨t2, st t2 a1, b1⟩
theorem am_s_iconst {l : Launch} {L : Nat} {xs : Nat → Int} {y : Nat} {Q : Option am_V → am_N → Prop} {K : Nat → List (Option am_V) → List am_V → am_N → Prop} {pc : Nat} {lv : List (Option am_V)} {st : List am_V} {μ : am_N} {n : Int} (hk : ∀ pc lv st μ, K pc lv st μ → am_AW l L xs y Q pc lv st μ) (hd : decode (am_bt y) pc = .ok (.iconst n, 1)) (h : K (pc + 1) lv (.inl n :: st) μ) : am_AW l L xs y Q pc lv st μ := by
  intro p e R s m args below meth c D ad ca tys B0 cells slots Qf E hret H locs ls hL hP hD hS
  exact lv_iconst E.1 E.2.1 hd rfl (hk _ _ _ _ h p e R s m args below meth c D ad ca tys B0 cells slots Qf E hret H locs ls hL hP hD hS)
theorem am_s_bipush {l : Launch} {L : Nat} {xs : Nat → Int} {y : Nat} {Q : Option am_V → am_N → Prop} {K : Nat → List (Option am_V) → List am_V → am_N → Prop} {pc : Nat} {lv : List (Option am_V)} {st : List am_V} {μ : am_N} {n : Int} (hk : ∀ pc lv st μ, K pc lv st μ → am_AW l L xs y Q pc lv st μ) (hd : decode (am_bt y) pc = .ok (.bipush n, 2)) (h : K (pc + 2) lv (.inl (Int8.ofInt n).toInt32.toInt :: st) μ) : am_AW l L xs y Q pc lv st μ := by
  intro p e R s m args below meth c D ad ca tys B0 cells slots Qf E hret H locs ls hL hP hD hS
  exact lv_bipush E.1 E.2.1 hd (am_back _).symm (hk _ _ _ _ h p e R s m args below meth c D ad ca tys B0 cells slots Qf E hret H locs ls hL hP hD hS)
theorem am_s_sipush {l : Launch} {L : Nat} {xs : Nat → Int} {y : Nat} {Q : Option am_V → am_N → Prop} {K : Nat → List (Option am_V) → List am_V → am_N → Prop} {pc : Nat} {lv : List (Option am_V)} {st : List am_V} {μ : am_N} {n : Int} (hk : ∀ pc lv st μ, K pc lv st μ → am_AW l L xs y Q pc lv st μ) (hd : decode (am_bt y) pc = .ok (.sipush n, 3)) (h : K (pc + 3) lv (.inl (Int16.ofInt n).toInt32.toInt :: st) μ) : am_AW l L xs y Q pc lv st μ := by
  intro p e R s m args below meth c D ad ca tys B0 cells slots Qf E hret H locs ls hL hP hD hS
  exact lv_sipush E.1 E.2.1 hd (am_back _).symm (hk _ _ _ _ h p e R s m args below meth c D ad ca tys B0 cells slots Qf E hret H locs ls hL hP hD hS)
theorem am_s_lconst {l : Launch} {L : Nat} {xs : Nat → Int} {y : Nat} {Q : Option am_V → am_N → Prop} {K : Nat → List (Option am_V) → List am_V → am_N → Prop} {pc : Nat} {lv : List (Option am_V)} {st : List am_V} {μ : am_N} {n : Fin 2} (hk : ∀ pc lv st μ, K pc lv st μ → am_AW l L xs y Q pc lv st μ) (hd : decode (am_bt y) pc = .ok (.lconst n, 1)) (h : K (pc + 1) lv (.inr (.inl ((n : Nat) : Int)) :: st) μ) : am_AW l L xs y Q pc lv st μ := by
  intro p e R s m args below meth c D ad ca tys B0 cells slots Qf E hret H locs ls hL hP hD hS
  exact lv_lconst E.1 E.2.1 hd Int64.ofInt_eq_ofNat.symm (hk _ _ _ _ h p e R s m args below meth c D ad ca tys B0 cells slots Qf E hret H locs ls hL hP hD hS)
theorem am_s_ldc {l : Launch} {L : Nat} {xs : Nat → Int} {y : Nat} {Q : Option am_V → am_N → Prop} {K : Nat → List (Option am_V) → List am_V → am_N → Prop} {pc : Nat} {lv : List (Option am_V)} {st : List am_V} {μ : am_N} {k : Nat} {v : Int} (hk : ∀ pc lv st μ, K pc lv st μ → am_AW l L xs y Q pc lv st μ) (hd : decode (am_bt y) pc = .ok (.ldc k, 2)) (hf : (am_ow y, k, v) ∈ am_co) (h : K (pc + 2) lv (.inl v :: st) μ) : am_AW l L xs y Q pc lv st μ := by
  intro p e R s m args below meth c D ad ca tys B0 cells slots Qf E hret H locs ls hL hP hD hS
  exact lv_ldc E.1 E.2.1 E.2.2.2.1 (E.2.2.2.2.1 _ (am_co_in _ hf)) hd (hk _ _ _ _ h p e R s m args below meth c D ad ca tys B0 cells slots Qf E hret H locs ls hL hP hD hS)
theorem am_s_ldc_w {l : Launch} {L : Nat} {xs : Nat → Int} {y : Nat} {Q : Option am_V → am_N → Prop} {K : Nat → List (Option am_V) → List am_V → am_N → Prop} {pc : Nat} {lv : List (Option am_V)} {st : List am_V} {μ : am_N} {k : Nat} {v : Int} (hk : ∀ pc lv st μ, K pc lv st μ → am_AW l L xs y Q pc lv st μ) (hd : decode (am_bt y) pc = .ok (.ldc_w k, 3)) (hf : (am_ow y, k, v) ∈ am_co) (h : K (pc + 3) lv (.inl v :: st) μ) : am_AW l L xs y Q pc lv st μ := by
  intro p e R s m args below meth c D ad ca tys B0 cells slots Qf E hret H locs ls hL hP hD hS
  exact lv_ldcw E.1 E.2.1 E.2.2.2.1 (E.2.2.2.2.1 _ (am_co_in _ hf)) hd (hk _ _ _ _ h p e R s m args below meth c D ad ca tys B0 cells slots Qf E hret H locs ls hL hP hD hS)
theorem am_s_ldc2 {l : Launch} {L : Nat} {xs : Nat → Int} {y : Nat} {Q : Option am_V → am_N → Prop} {K : Nat → List (Option am_V) → List am_V → am_N → Prop} {pc : Nat} {lv : List (Option am_V)} {st : List am_V} {μ : am_N} {k : Nat} {v : Int} (hk : ∀ pc lv st μ, K pc lv st μ → am_AW l L xs y Q pc lv st μ) (hd : decode (am_bt y) pc = .ok (.ldc2_w k, 3)) (hf : (am_ow y, k, v) ∈ am_cl) (h : K (pc + 3) lv (.inr (.inl v) :: st) μ) : am_AW l L xs y Q pc lv st μ := by
  intro p e R s m args below meth c D ad ca tys B0 cells slots Qf E hret H locs ls hL hP hD hS
  exact lv_ldc2 E.1 E.2.1 E.2.2.2.1 (E.2.2.2.2.1 _ (am_cl_in _ hf)) hd (hk _ _ _ _ h p e R s m args below meth c D ad ca tys B0 cells slots Qf E hret H locs ls hL hP hD hS)
theorem am_s_iload {l : Launch} {L : Nat} {xs : Nat → Int} {y : Nat} {Q : Option am_V → am_N → Prop} {K : Nat → List (Option am_V) → List am_V → am_N → Prop} {pc : Nat} {lv : List (Option am_V)} {st : List am_V} {μ : am_N} {k : Nat} (hk : ∀ pc lv st μ, K pc lv st μ → am_AW l L xs y Q pc lv st μ) (hd : decode (am_bt y) pc = .ok (.iload k, 2)) (h : am_stp l L xs y Q K (pc + 2, 2, k, 0, 0, 0, []) lv st μ) : am_AW l L xs y Q pc lv st μ := by
  simp only [am_stp] at h
  split at h
  · rename_i v hv
    intro p e R s m args below meth c D ad ca tys B0 cells slots Qf E hret H locs ls hL hP hD hS
    exact lv_iload E.1 E.2.1 hd (hL.2.2.1 _ _ hv) (hk _ _ _ _ h p e R s m args below meth c D ad ca tys B0 cells slots Qf E hret H locs ls hL hP hD hS)
  · exact h.elim
theorem am_s_iload_n {l : Launch} {L : Nat} {xs : Nat → Int} {y : Nat} {Q : Option am_V → am_N → Prop} {K : Nat → List (Option am_V) → List am_V → am_N → Prop} {pc : Nat} {lv : List (Option am_V)} {st : List am_V} {μ : am_N} {k : Fin 4} (hk : ∀ pc lv st μ, K pc lv st μ → am_AW l L xs y Q pc lv st μ) (hd : decode (am_bt y) pc = .ok (.iload_n k, 1)) (h : am_stp l L xs y Q K (pc + 1, 2, (k : Nat), 0, 0, 0, []) lv st μ) : am_AW l L xs y Q pc lv st μ := by
  simp only [am_stp] at h
  split at h
  · rename_i v hv
    intro p e R s m args below meth c D ad ca tys B0 cells slots Qf E hret H locs ls hL hP hD hS
    exact lv_iload_n E.1 E.2.1 hd rfl (hL.2.2.1 _ _ hv) (hk _ _ _ _ h p e R s m args below meth c D ad ca tys B0 cells slots Qf E hret H locs ls hL hP hD hS)
  · exact h.elim
theorem am_s_lload {l : Launch} {L : Nat} {xs : Nat → Int} {y : Nat} {Q : Option am_V → am_N → Prop} {K : Nat → List (Option am_V) → List am_V → am_N → Prop} {pc : Nat} {lv : List (Option am_V)} {st : List am_V} {μ : am_N} {k : Nat} (hk : ∀ pc lv st μ, K pc lv st μ → am_AW l L xs y Q pc lv st μ) (hd : decode (am_bt y) pc = .ok (.lload k, 2)) (h : am_stp l L xs y Q K (pc + 2, 4, k, 0, 0, 0, []) lv st μ) : am_AW l L xs y Q pc lv st μ := by
  simp only [am_stp] at h
  split at h
  · rename_i v hv
    intro p e R s m args below meth c D ad ca tys B0 cells slots Qf E hret H locs ls hL hP hD hS
    exact lv_lload E.1 E.2.1 hd (hL.2.2.1 _ _ hv) (hk _ _ _ _ h p e R s m args below meth c D ad ca tys B0 cells slots Qf E hret H locs ls hL hP hD hS)
  · exact h.elim
theorem am_s_lload_n {l : Launch} {L : Nat} {xs : Nat → Int} {y : Nat} {Q : Option am_V → am_N → Prop} {K : Nat → List (Option am_V) → List am_V → am_N → Prop} {pc : Nat} {lv : List (Option am_V)} {st : List am_V} {μ : am_N} {k : Fin 4} (hk : ∀ pc lv st μ, K pc lv st μ → am_AW l L xs y Q pc lv st μ) (hd : decode (am_bt y) pc = .ok (.lload_n k, 1)) (h : am_stp l L xs y Q K (pc + 1, 4, (k : Nat), 0, 0, 0, []) lv st μ) : am_AW l L xs y Q pc lv st μ := by
  simp only [am_stp] at h
  split at h
  · rename_i v hv
    intro p e R s m args below meth c D ad ca tys B0 cells slots Qf E hret H locs ls hL hP hD hS
    exact lv_lload_n E.1 E.2.1 hd rfl (hL.2.2.1 _ _ hv) (hk _ _ _ _ h p e R s m args below meth c D ad ca tys B0 cells slots Qf E hret H locs ls hL hP hD hS)
  · exact h.elim
theorem am_s_aload {l : Launch} {L : Nat} {xs : Nat → Int} {y : Nat} {Q : Option am_V → am_N → Prop} {K : Nat → List (Option am_V) → List am_V → am_N → Prop} {pc : Nat} {lv : List (Option am_V)} {st : List am_V} {μ : am_N} {k : Nat} (hk : ∀ pc lv st μ, K pc lv st μ → am_AW l L xs y Q pc lv st μ) (hd : decode (am_bt y) pc = .ok (.aload k, 2)) (h : am_stp l L xs y Q K (pc + 2, 6, k, 0, 0, 0, []) lv st μ) : am_AW l L xs y Q pc lv st μ := by
  simp only [am_stp] at h
  split at h
  · rename_i v hv
    intro p e R s m args below meth c D ad ca tys B0 cells slots Qf E hret H locs ls hL hP hD hS
    exact lv_aload E.1 E.2.1 hd (hL.2.2.1 _ _ hv) (hk _ _ _ _ h p e R s m args below meth c D ad ca tys B0 cells slots Qf E hret H locs ls hL hP hD hS)
  · exact h.elim
theorem am_s_aload_n {l : Launch} {L : Nat} {xs : Nat → Int} {y : Nat} {Q : Option am_V → am_N → Prop} {K : Nat → List (Option am_V) → List am_V → am_N → Prop} {pc : Nat} {lv : List (Option am_V)} {st : List am_V} {μ : am_N} {k : Fin 4} (hk : ∀ pc lv st μ, K pc lv st μ → am_AW l L xs y Q pc lv st μ) (hd : decode (am_bt y) pc = .ok (.aload_n k, 1)) (h : am_stp l L xs y Q K (pc + 1, 6, (k : Nat), 0, 0, 0, []) lv st μ) : am_AW l L xs y Q pc lv st μ := by
  simp only [am_stp] at h
  split at h
  · rename_i v hv
    intro p e R s m args below meth c D ad ca tys B0 cells slots Qf E hret H locs ls hL hP hD hS
    exact lv_aload_n E.1 E.2.1 hd rfl (hL.2.2.1 _ _ hv) (hk _ _ _ _ h p e R s m args below meth c D ad ca tys B0 cells slots Qf E hret H locs ls hL hP hD hS)
  · exact h.elim
theorem am_s_istore {l : Launch} {L : Nat} {xs : Nat → Int} {y : Nat} {Q : Option am_V → am_N → Prop} {K : Nat → List (Option am_V) → List am_V → am_N → Prop} {pc : Nat} {lv : List (Option am_V)} {st : List am_V} {μ : am_N} {k : Nat} (hk : ∀ pc lv st μ, K pc lv st μ → am_AW l L xs y Q pc lv st μ) (hd : decode (am_bt y) pc = .ok (.istore k, 2)) (h : am_stp l L xs y Q K (pc + 2, 3, k, 0, 0, 0, []) lv st μ) : am_AW l L xs y Q pc lv st μ := by
  simp only [am_stp] at h
  split at h
  · rename_i v r
    obtain ⟨h0, h⟩ := am_ifb h
    obtain ⟨h1, h2⟩ := am_bb h0
    have h1 := Nat.le_of_ble_eq_true h1
    intro p e R s m args below meth c D ad ca tys B0 cells slots Qf E hret H locs ls hL hP hD hS
    exact lv_istore E.1 E.2.1 hd hL.has (by rw [← hL.2.2.2]; exact h1) rfl (fun ls' hl' => hk _ _ _ _ h p e R s m args below meth c D ad ca tys B0 cells slots Qf E hret H locs ls' (am_L1 (v := Sum.inl v) hL.2.2.2 h2 hl') hP hD hS)
  · exact h.elim
theorem am_s_istore_n {l : Launch} {L : Nat} {xs : Nat → Int} {y : Nat} {Q : Option am_V → am_N → Prop} {K : Nat → List (Option am_V) → List am_V → am_N → Prop} {pc : Nat} {lv : List (Option am_V)} {st : List am_V} {μ : am_N} {k : Fin 4} (hk : ∀ pc lv st μ, K pc lv st μ → am_AW l L xs y Q pc lv st μ) (hd : decode (am_bt y) pc = .ok (.istore_n k, 1)) (h : am_stp l L xs y Q K (pc + 1, 3, (k : Nat), 0, 0, 0, []) lv st μ) : am_AW l L xs y Q pc lv st μ := by
  simp only [am_stp] at h
  split at h
  · rename_i v r
    obtain ⟨h0, h⟩ := am_ifb h
    obtain ⟨h1, h2⟩ := am_bb h0
    have h1 := Nat.le_of_ble_eq_true h1
    intro p e R s m args below meth c D ad ca tys B0 cells slots Qf E hret H locs ls hL hP hD hS
    exact lv_istore_n E.1 E.2.1 hd rfl hL.has (by rw [← hL.2.2.2]; exact h1) rfl (fun ls' hl' => hk _ _ _ _ h p e R s m args below meth c D ad ca tys B0 cells slots Qf E hret H locs ls' (am_L1 (v := Sum.inl v) hL.2.2.2 h2 hl') hP hD hS)
  · exact h.elim
theorem am_s_lstore {l : Launch} {L : Nat} {xs : Nat → Int} {y : Nat} {Q : Option am_V → am_N → Prop} {K : Nat → List (Option am_V) → List am_V → am_N → Prop} {pc : Nat} {lv : List (Option am_V)} {st : List am_V} {μ : am_N} {k : Nat} (hk : ∀ pc lv st μ, K pc lv st μ → am_AW l L xs y Q pc lv st μ) (hd : decode (am_bt y) pc = .ok (.lstore k, 2)) (h : am_stp l L xs y Q K (pc + 2, 5, k, 0, 0, 0, []) lv st μ) : am_AW l L xs y Q pc lv st μ := by
  simp only [am_stp] at h
  split at h
  · rename_i v r
    obtain ⟨h0, h⟩ := am_ifb h
    obtain ⟨h1, h2⟩ := am_bb h0
    have h1 := Nat.le_of_ble_eq_true h1
    intro p e R s m args below meth c D ad ca tys B0 cells slots Qf E hret H locs ls hL hP hD hS
    exact lv_lstore E.1 E.2.1 hd hL.has (by rw [← hL.2.2.2]; exact h1) rfl (fun ls' hl' => hk _ _ _ _ h p e R s m args below meth c D ad ca tys B0 cells slots Qf E hret H locs ls' (am_L2 (v := Sum.inr (Sum.inl v)) hL.2.2.2 h2 hl') hP hD hS)
  · exact h.elim
theorem am_s_lstore_n {l : Launch} {L : Nat} {xs : Nat → Int} {y : Nat} {Q : Option am_V → am_N → Prop} {K : Nat → List (Option am_V) → List am_V → am_N → Prop} {pc : Nat} {lv : List (Option am_V)} {st : List am_V} {μ : am_N} {k : Fin 4} (hk : ∀ pc lv st μ, K pc lv st μ → am_AW l L xs y Q pc lv st μ) (hd : decode (am_bt y) pc = .ok (.lstore_n k, 1)) (h : am_stp l L xs y Q K (pc + 1, 5, (k : Nat), 0, 0, 0, []) lv st μ) : am_AW l L xs y Q pc lv st μ := by
  simp only [am_stp] at h
  split at h
  · rename_i v r
    obtain ⟨h0, h⟩ := am_ifb h
    obtain ⟨h1, h2⟩ := am_bb h0
    have h1 := Nat.le_of_ble_eq_true h1
    intro p e R s m args below meth c D ad ca tys B0 cells slots Qf E hret H locs ls hL hP hD hS
    exact lv_lstore_n E.1 E.2.1 hd rfl hL.has (by rw [← hL.2.2.2]; exact h1) rfl (fun ls' hl' => hk _ _ _ _ h p e R s m args below meth c D ad ca tys B0 cells slots Qf E hret H locs ls' (am_L2 (v := Sum.inr (Sum.inl v)) hL.2.2.2 h2 hl') hP hD hS)
  · exact h.elim
theorem am_s_iinc {l : Launch} {L : Nat} {xs : Nat → Int} {y : Nat} {Q : Option am_V → am_N → Prop} {K : Nat → List (Option am_V) → List am_V → am_N → Prop} {pc : Nat} {lv : List (Option am_V)} {st : List am_V} {μ : am_N} {k : Nat} {n : Int} (hk : ∀ pc lv st μ, K pc lv st μ → am_AW l L xs y Q pc lv st μ) (hd : decode (am_bt y) pc = .ok (.iinc k n, 3)) (h : am_stp l L xs y Q K (pc + 3, 24, k, 0, 0, n, []) lv st μ) : am_AW l L xs y Q pc lv st μ := by
  simp only [am_stp] at h
  split at h
  · rename_i v hv
    obtain ⟨h2, h⟩ := am_ifb h
    intro p e R s m args below meth c D ad ca tys B0 cells slots Qf E hret H locs ls hL hP hD hS
    obtain ⟨j, hj⟩ := List.getElem?_of_mem (am_prs_in (ad := ad) (q := (k, .int (Int32.ofInt v))) |>.mpr ⟨.inl v, hv, rfl⟩)
    exact lv_iinc (v := Int32.ofInt (v + n)) E.1 E.2.1 hd hL.has hj (by rw [Int32.ofInt_add]) (by rw [← hL.2.2.2]; exact (List.getElem?_eq_some_iff.mp hv).1) rfl (fun ls' hl' => hk _ _ _ _ h p e R s m args below meth c D ad ca tys B0 cells slots Qf E hret H locs ls' (am_L1 (v := Sum.inl (v + n)) hL.2.2.2 h2 hl') hP hD hS)
  · exact h.elim
theorem am_s_getfield {l : Launch} {L : Nat} {xs : Nat → Int} {y : Nat} {Q : Option am_V → am_N → Prop} {K : Nat → List (Option am_V) → List am_V → am_N → Prop} {pc : Nat} {lv : List (Option am_V)} {st : List am_V} {μ : am_N} {k ci b : Nat} (hk : ∀ pc lv st μ, K pc lv st μ → am_AW l L xs y Q pc lv st μ) (hd : decode (am_bt y) pc = .ok (.getfield k, 3)) (hf : (am_ow y, k, ci, b) ∈ am_fl) (h : am_stp l L xs y Q K (pc + 3, 7, ci, b, 0, 0, []) lv st μ) : am_AW l L xs y Q pc lv st μ := by
  simp only [am_stp] at h
  split at h
  · rename_i a r
    split at h
    · rename_i t fs hsh
      obtain ⟨ht, h⟩ := am_ifb h
      have ht := Nat.eq_of_beq_eq_true ht
      split at h
      · rename_i hb
        intro p e R s m args below meth c D ad ca tys B0 cells slots Qf E hret H locs ls hL hP hD hS
        obtain ⟨hc, hk1, hk2⟩ := am_fl_ok hf
        exact va_get (D := D) (v := .int (Int32.ofInt (μ a b))) E.1 E.2.1 E.2.2.2.2.1 hk2 E.2.2.2.1 E.2.2.2.2.2.1 hP a (am_ob hsh ht) hc b hk1 (E.2.2.2.2.1 _ (am_fl_in _ hf)) (fun _ h9 => h9) (am_ob_at hb) hd (hk _ _ _ _ h p e R s m args below meth c D ad ca tys B0 cells slots Qf E hret H locs ls hL hP hD hS)
      · rename_i j hb
        intro p e R s m args below meth c D ad ca tys B0 cells slots Qf E hret H locs ls hL hP hD hS
        obtain ⟨hc, hk1, hk2⟩ := am_fl_ok hf
        exact va_get (D := D) (v := .ref (ad j)) E.1 E.2.1 E.2.2.2.2.1 hk2 E.2.2.2.1 E.2.2.2.2.2.1 hP a (am_ob hsh ht) hc b hk1 (E.2.2.2.2.1 _ (am_fl_in _ hf)) (fun _ h9 => h9) (am_ob_at hb) hd (hk _ _ _ _ h p e R s m args below meth c D ad ca tys B0 cells slots Qf E hret H locs ls hL hP hD hS)
      · exact h.elim
    · exact h.elim
  · exact h.elim
theorem am_s_putfield {l : Launch} {L : Nat} {xs : Nat → Int} {y : Nat} {Q : Option am_V → am_N → Prop} {K : Nat → List (Option am_V) → List am_V → am_N → Prop} {pc : Nat} {lv : List (Option am_V)} {st : List am_V} {μ : am_N} {k ci b : Nat} (hk : ∀ pc lv st μ, K pc lv st μ → am_AW l L xs y Q pc lv st μ) (hd : decode (am_bt y) pc = .ok (.putfield k, 3)) (hf : (am_ow y, k, ci, b) ∈ am_fl) (hfin : (am_cT ci b).2.2.2 = false) (hty : am_ty ci b = .int) (h : am_stp l L xs y Q K (pc + 3, 8, ci, b, 0, 0, []) lv st μ) : am_AW l L xs y Q pc lv st μ := by
  simp only [am_stp] at h
  split at h
  · rename_i v a r
    split at h
    · rename_i t fs hsh
      obtain ⟨ht, h⟩ := am_ifb h
      have ht := Nat.eq_of_beq_eq_true ht
      split at h
      · rename_i hb
        intro p e R s m args below meth c D ad ca tys B0 cells slots Qf E hret H locs ls hL hP hD hS
        obtain ⟨hc, hk1, hk2⟩ := am_fl_ok hf
        obtain ⟨q1, q2⟩ := am_ty_ok hf
        refine va_put (D := D) (ty := .int) (v := .int (Int32.ofInt v)) E.1 E.2.1 E.2.2.2.2.1 hk2 (am_ty ci) q1 q2 E.2.2.2.1 E.2.2.2.2.2.1 hP hD hS a (am_ob hsh ht) hc b hk1 (E.2.2.2.2.1 _ (am_fl_in _ hf)) (fun _ h9 => h9) hfin (by rw [q1 b hk1, hty]) rfl rfl (by rw [List.length_mapIdx]; exact (List.getElem?_eq_some_iff.mp hb).1) hd (fun H1 locs1 hP hD hS => ?_)
        rw [am_ob_set hsh ht hb] at hP hD
        exact hk _ _ _ _ h p e R s m args below meth c D ad ca tys B0 cells slots Qf E hret H1 locs1 ls hL hP hD hS
      · exact h.elim
    · exact h.elim
  · exact h.elim
theorem am_s_putfieldz {l : Launch} {L : Nat} {xs : Nat → Int} {y : Nat} {Q : Option am_V → am_N → Prop} {K : Nat → List (Option am_V) → List am_V → am_N → Prop} {pc : Nat} {lv : List (Option am_V)} {st : List am_V} {μ : am_N} {k ci b : Nat} (hk : ∀ pc lv st μ, K pc lv st μ → am_AW l L xs y Q pc lv st μ) (hd : decode (am_bt y) pc = .ok (.putfield k, 3)) (hf : (am_ow y, k, ci, b) ∈ am_fl) (hfin : (am_cT ci b).2.2.2 = false) (hty : am_ty ci b = .boolean) (h : am_stp l L xs y Q K (pc + 3, 8, ci, b, 1, 0, []) lv st μ) : am_AW l L xs y Q pc lv st μ := by
  simp only [am_stp] at h
  split at h
  · rename_i v a r
    split at h
    · rename_i t fs hsh
      obtain ⟨ht, h⟩ := am_ifb h
      have ht := Nat.eq_of_beq_eq_true ht
      split at h
      · rename_i hb
        obtain ⟨h3, h⟩ := h
        intro p e R s m args below meth c D ad ca tys B0 cells slots Qf E hret H locs ls hL hP hD hS
        obtain ⟨hc, hk1, hk2⟩ := am_fl_ok hf
        obtain ⟨q1, q2⟩ := am_ty_ok hf
        refine va_put (D := D) (ty := .boolean) (v := .int (Int32.ofInt v)) E.1 E.2.1 E.2.2.2.2.1 hk2 (am_ty ci) q1 q2 E.2.2.2.1 E.2.2.2.2.2.1 hP hD hS a (am_ob hsh ht) hc b hk1 (E.2.2.2.2.1 _ (am_fl_in _ hf)) (fun _ h9 => h9) hfin (by rw [q1 b hk1, hty]) (am_nz h3) (am_fz h3) (by rw [List.length_mapIdx]; exact (List.getElem?_eq_some_iff.mp hb).1) hd (fun H1 locs1 hP hD hS => ?_)
        rw [am_ob_set hsh ht hb] at hP hD
        exact hk _ _ _ _ h p e R s m args below meth c D ad ca tys B0 cells slots Qf E hret H1 locs1 ls hL hP hD hS
      · exact h.elim
    · exact h.elim
  · exact h.elim
theorem am_s_iaload {l : Launch} {L : Nat} {xs : Nat → Int} {y : Nat} {Q : Option am_V → am_N → Prop} {K : Nat → List (Option am_V) → List am_V → am_N → Prop} {pc : Nat} {lv : List (Option am_V)} {st : List am_V} {μ : am_N}  (hk : ∀ pc lv st μ, K pc lv st μ → am_AW l L xs y Q pc lv st μ) (hd : decode (am_bt y) pc = .ok (.iaload, 1)) (h : am_stp l L xs y Q K (pc + 1, 9, 0, 0, 0, 0, []) lv st μ) : am_AW l L xs y Q pc lv st μ := by
  simp only [am_stp] at h
  split at h
  · rename_i i k r
    split at h
    · rename_i n w hsh
      obtain ⟨h1, h⟩ := h
      intro p e R s m args below meth c D ad ca tys B0 cells slots Qf E hret H locs ls hL hP hD hS
      obtain ⟨t0, ht0⟩ := (E.2.2.2.2.2.2.1 k _ hsh).1 rfl
      have kk := hk _ _ _ _ h p e R s m args below meth c D ad ca tys B0 cells slots Qf E hret H locs ls hL hP hD hS
      refine va_iald E.1 E.2.1 E.2.2.2.2.2.1 hP k t0 (am_ar hsh) ht0 (am_in h1) hd ?_
      rw [am_cl_nat]
      exact kk
    · exact h.elim
    · rename_i hsh
      obtain ⟨⟨h0, rfl⟩, h1, h⟩ := h
      intro p e R s m args below meth c D ad ca tys B0 cells slots Qf E hret H locs ls hL hP hD hS
      obtain ⟨s1, s2, s3⟩ := E.2.2.2.2.2.2.2.2.2.2.2.2 h0
      have kk := hk _ _ _ _ h p e R s m args below meth c D ad ca tys B0 cells slots Qf E hret H locs ls hL hP hD hS
      refine va_sld E.1 E.2.1 s1 s2 (Nat.not_le.mpr s3) hS (am_in h1) hd ?_
      rw [am_cl_nat]
      exact kk
  · exact h.elim
theorem am_s_iastore {l : Launch} {L : Nat} {xs : Nat → Int} {y : Nat} {Q : Option am_V → am_N → Prop} {K : Nat → List (Option am_V) → List am_V → am_N → Prop} {pc : Nat} {lv : List (Option am_V)} {st : List am_V} {μ : am_N}  (hk : ∀ pc lv st μ, K pc lv st μ → am_AW l L xs y Q pc lv st μ) (hd : decode (am_bt y) pc = .ok (.iastore, 1)) (h : am_stp l L xs y Q K (pc + 1, 10, 0, 0, 0, 0, []) lv st μ) : am_AW l L xs y Q pc lv st μ := by
  simp only [am_stp] at h
  split at h
  · rename_i v i k r
    split at h
    · rename_i n w hsh
      obtain ⟨h1, h⟩ := h
      intro p e R s m args below meth c D ad ca tys B0 cells slots Qf E hret H locs ls hL hP hD hS
      obtain ⟨t0, ht0⟩ := (E.2.2.2.2.2.2.1 k _ hsh).1 rfl
      refine va_iast E.1 E.2.1 E.2.2.2.2.2.1 hP hD hS k t0 (am_ar hsh) ht0 (am_in h1) hd (fun H1 locs1 hP hD hS => ?_)
      rw [am_ar_set hsh, am_cl_nat] at hP hD
      exact hk _ _ _ _ h p e R s m args below meth c D ad ca tys B0 cells slots Qf E hret H1 locs1 ls hL hP hD hS
    · exact h.elim
  · exact h.elim
theorem am_s_aaload {l : Launch} {L : Nat} {xs : Nat → Int} {y : Nat} {Q : Option am_V → am_N → Prop} {K : Nat → List (Option am_V) → List am_V → am_N → Prop} {pc : Nat} {lv : List (Option am_V)} {st : List am_V} {μ : am_N}  (hk : ∀ pc lv st μ, K pc lv st μ → am_AW l L xs y Q pc lv st μ) (hd : decode (am_bt y) pc = .ok (.aaload, 1)) (h : am_stp l L xs y Q K (pc + 1, 11, 0, 0, 0, 0, []) lv st μ) : am_AW l L xs y Q pc lv st μ := by
  simp only [am_stp] at h
  split at h
  · rename_i i k r
    split at h
    · rename_i fs hsh
      obtain ⟨h1, h⟩ := h
      intro p e R s m args below meth c D ad ca tys B0 cells slots Qf E hret H locs ls hL hP hD hS
      obtain ⟨t0, ht0⟩ := (E.2.2.2.2.2.2.1 k _ hsh).2 rfl
      have hin := am_in (i := i) (n := fs.length) h1
      have hlt : (Int32.ofInt i).toNatClampNeg < fs.length := Nat.not_le.mp fun q => hin (Or.inr q)
      have hlt2 : (am_c i).toNat < fs.length := by rw [← am_cl_nat]; exact hlt
      have hj := List.getElem?_eq_getElem hlt2
      have kk := hk _ _ _ _ (h _ hj) p e R s m args below meth c D ad ca tys B0 cells slots Qf E hret H locs ls hL hP hD hS
      refine W.aald (v := va_rf ((fs[(Int32.ofInt i).toNatClampNeg]?).map ad)) (ty := .array .int) E.1 E.2.1 (hP k _ (am_arq hsh)) ((E.2.2.2.2.2.1.2 t0 _ ht0).1 fs.length (fun j => va_rf ((fs[j]?).map ad))) rfl (fun q => by cases q) (by show ¬ (_ < 0 ∨ (arrV _ _ _).slots.size ≤ _); rw [arrV_size]; exact hin) (by show (arrV _ _ _).slots[_]? = _; rw [arrV_read _ _ hlt]) rfl rfl hd ?_
      rw [am_cl_nat, hj]
      exact kk
    · exact h.elim
  · exact h.elim
theorem am_s_alen {l : Launch} {L : Nat} {xs : Nat → Int} {y : Nat} {Q : Option am_V → am_N → Prop} {K : Nat → List (Option am_V) → List am_V → am_N → Prop} {pc : Nat} {lv : List (Option am_V)} {st : List am_V} {μ : am_N}  (hk : ∀ pc lv st μ, K pc lv st μ → am_AW l L xs y Q pc lv st μ) (hd : decode (am_bt y) pc = .ok (.arraylength, 1)) (h : am_stp l L xs y Q K (pc + 1, 12, 0, 0, 0, 0, []) lv st μ) : am_AW l L xs y Q pc lv st μ := by
  simp only [am_stp] at h
  split at h
  · rename_i k r
    split at h
    · rename_i n w hsh
      intro p e R s m args below meth c D ad ca tys B0 cells slots Qf E hret H locs ls hL hP hD hS
      obtain ⟨t0, ht0⟩ := (E.2.2.2.2.2.2.1 k _ hsh).1 rfl
      exact va_alen (v := Int32.ofInt (n : Int)) E.1 E.2.1 E.2.2.2.2.2.1 hP k t0 (am_ar hsh) ht0 (am_ofNat n) hd (hk _ _ _ _ h p e R s m args below meth c D ad ca tys B0 cells slots Qf E hret H locs ls hL hP hD hS)
    · rename_i fs hsh
      intro p e R s m args below meth c D ad ca tys B0 cells slots Qf E hret H locs ls hL hP hD hS
      obtain ⟨t0, ht0⟩ := (E.2.2.2.2.2.2.1 k _ hsh).2 rfl
      exact va_alen (v := Int32.ofInt (fs.length : Int)) E.1 E.2.1 E.2.2.2.2.2.1 hP k t0 (am_arq hsh) ht0 (am_ofNat fs.length) hd (hk _ _ _ _ h p e R s m args below meth c D ad ca tys B0 cells slots Qf E hret H locs ls hL hP hD hS)
    · exact h.elim
    · rename_i hsh
      obtain ⟨⟨h0, rfl⟩, h⟩ := h
      intro p e R s m args below meth c D ad ca tys B0 cells slots Qf E hret H locs ls hL hP hD hS
      obtain ⟨s1, s2, s3⟩ := E.2.2.2.2.2.2.2.2.2.2.2.2 h0
      have kk := hk _ _ _ _ h p e R s m args below meth c D ad ca tys B0 cells slots Qf E hret H locs ls hL hP hD hS
      refine va_slen E.1 E.2.1 s1 s2 (Nat.not_le.mpr s3) hS hd ?_
      rw [am_ofNat L]
      exact kk
  · exact h.elim
theorem am_s_iadd {l : Launch} {L : Nat} {xs : Nat → Int} {y : Nat} {Q : Option am_V → am_N → Prop} {K : Nat → List (Option am_V) → List am_V → am_N → Prop} {pc : Nat} {lv : List (Option am_V)} {st : List am_V} {μ : am_N}  (hk : ∀ pc lv st μ, K pc lv st μ → am_AW l L xs y Q pc lv st μ) (hd : decode (am_bt y) pc = .ok (.iadd, 1)) (h : am_stp l L xs y Q K (pc + 1, 13, 0, 0, 0, 0, []) lv st μ) : am_AW l L xs y Q pc lv st μ := by
  simp only [am_stp] at h
  split at h
  · rename_i v u r
    intro p e R s m args below meth c D ad ca tys B0 cells slots Qf E hret H locs ls hL hP hD hS
    have kk : W p l e R s m args below meth c H locs cells slots Qf (F0 m (pc + 1) ls (.int (Int32.ofInt _) :: r.map (am_rv ad))) := hk _ _ _ _ h p e R s m args below meth c D ad ca tys B0 cells slots Qf E hret H locs ls hL hP hD hS
    rw [Int32.ofInt_add] at kk
    exact lv_iadd E.1 E.2.1 hd kk
  · exact h.elim
theorem am_s_isub {l : Launch} {L : Nat} {xs : Nat → Int} {y : Nat} {Q : Option am_V → am_N → Prop} {K : Nat → List (Option am_V) → List am_V → am_N → Prop} {pc : Nat} {lv : List (Option am_V)} {st : List am_V} {μ : am_N}  (hk : ∀ pc lv st μ, K pc lv st μ → am_AW l L xs y Q pc lv st μ) (hd : decode (am_bt y) pc = .ok (.isub, 1)) (h : am_stp l L xs y Q K (pc + 1, 14, 0, 0, 0, 0, []) lv st μ) : am_AW l L xs y Q pc lv st μ := by
  simp only [am_stp] at h
  split at h
  · rename_i v u r
    intro p e R s m args below meth c D ad ca tys B0 cells slots Qf E hret H locs ls hL hP hD hS
    have kk : W p l e R s m args below meth c H locs cells slots Qf (F0 m (pc + 1) ls (.int (Int32.ofInt _) :: r.map (am_rv ad))) := hk _ _ _ _ h p e R s m args below meth c D ad ca tys B0 cells slots Qf E hret H locs ls hL hP hD hS
    rw [Int32.ofInt_sub] at kk
    exact lv_isub E.1 E.2.1 hd kk
  · exact h.elim
theorem am_s_imul {l : Launch} {L : Nat} {xs : Nat → Int} {y : Nat} {Q : Option am_V → am_N → Prop} {K : Nat → List (Option am_V) → List am_V → am_N → Prop} {pc : Nat} {lv : List (Option am_V)} {st : List am_V} {μ : am_N}  (hk : ∀ pc lv st μ, K pc lv st μ → am_AW l L xs y Q pc lv st μ) (hd : decode (am_bt y) pc = .ok (.imul, 1)) (h : am_stp l L xs y Q K (pc + 1, 15, 0, 0, 0, 0, []) lv st μ) : am_AW l L xs y Q pc lv st μ := by
  simp only [am_stp] at h
  split at h
  · rename_i v u r
    intro p e R s m args below meth c D ad ca tys B0 cells slots Qf E hret H locs ls hL hP hD hS
    have kk : W p l e R s m args below meth c H locs cells slots Qf (F0 m (pc + 1) ls (.int (Int32.ofInt _) :: r.map (am_rv ad))) := hk _ _ _ _ h p e R s m args below meth c D ad ca tys B0 cells slots Qf E hret H locs ls hL hP hD hS
    rw [Int32.ofInt_mul] at kk
    exact lv_imul E.1 E.2.1 hd kk
  · exact h.elim
theorem am_s_idiv {l : Launch} {L : Nat} {xs : Nat → Int} {y : Nat} {Q : Option am_V → am_N → Prop} {K : Nat → List (Option am_V) → List am_V → am_N → Prop} {pc : Nat} {lv : List (Option am_V)} {st : List am_V} {μ : am_N}  (hk : ∀ pc lv st μ, K pc lv st μ → am_AW l L xs y Q pc lv st μ) (hd : decode (am_bt y) pc = .ok (.idiv, 1)) (h : am_stp l L xs y Q K (pc + 1, 16, 0, 0, 0, 0, []) lv st μ) : am_AW l L xs y Q pc lv st μ := by
  simp only [am_stp] at h
  split at h
  · rename_i v u r
    obtain ⟨h1, h⟩ := h
    intro p e R s m args below meth c D ad ca tys B0 cells slots Qf E hret H locs ls hL hP hD hS
    have kk : W p l e R s m args below meth c H locs cells slots Qf (F0 m (pc + 1) ls (.int (Int32.ofInt _) :: r.map (am_rv ad))) := hk _ _ _ _ h p e R s m args below meth c D ad ca tys B0 cells slots Qf E hret H locs ls hL hP hD hS
    rw [← am_div32] at kk
    exact lv_idiv E.1 E.2.1 hd (am_ne0 h1) kk
  · exact h.elim
theorem am_s_irem {l : Launch} {L : Nat} {xs : Nat → Int} {y : Nat} {Q : Option am_V → am_N → Prop} {K : Nat → List (Option am_V) → List am_V → am_N → Prop} {pc : Nat} {lv : List (Option am_V)} {st : List am_V} {μ : am_N}  (hk : ∀ pc lv st μ, K pc lv st μ → am_AW l L xs y Q pc lv st μ) (hd : decode (am_bt y) pc = .ok (.irem, 1)) (h : am_stp l L xs y Q K (pc + 1, 17, 0, 0, 0, 0, []) lv st μ) : am_AW l L xs y Q pc lv st μ := by
  simp only [am_stp] at h
  split at h
  · rename_i v u r
    obtain ⟨h1, h⟩ := h
    intro p e R s m args below meth c D ad ca tys B0 cells slots Qf E hret H locs ls hL hP hD hS
    have kk : W p l e R s m args below meth c H locs cells slots Qf (F0 m (pc + 1) ls (.int (Int32.ofInt _) :: r.map (am_rv ad))) := hk _ _ _ _ h p e R s m args below meth c D ad ca tys B0 cells slots Qf E hret H locs ls hL hP hD hS
    rw [← am_rem32] at kk
    exact lv_irem E.1 E.2.1 hd (am_ne0 h1) kk
  · exact h.elim
theorem am_s_iand {l : Launch} {L : Nat} {xs : Nat → Int} {y : Nat} {Q : Option am_V → am_N → Prop} {K : Nat → List (Option am_V) → List am_V → am_N → Prop} {pc : Nat} {lv : List (Option am_V)} {st : List am_V} {μ : am_N}  (hk : ∀ pc lv st μ, K pc lv st μ → am_AW l L xs y Q pc lv st μ) (hd : decode (am_bt y) pc = .ok (.iand, 1)) (h : am_stp l L xs y Q K (pc + 1, 18, 0, 0, 0, 0, []) lv st μ) : am_AW l L xs y Q pc lv st μ := by
  simp only [am_stp] at h
  split at h
  · rename_i v u r
    intro p e R s m args below meth c D ad ca tys B0 cells slots Qf E hret H locs ls hL hP hD hS
    have kk : W p l e R s m args below meth c H locs cells slots Qf (F0 m (pc + 1) ls (.int (Int32.ofInt _) :: r.map (am_rv ad))) := hk _ _ _ _ h p e R s m args below meth c D ad ca tys B0 cells slots Qf E hret H locs ls hL hP hD hS
    rw [am_and, am_back] at kk
    exact lv_iand E.1 E.2.1 hd kk
  · exact h.elim
theorem am_s_ior {l : Launch} {L : Nat} {xs : Nat → Int} {y : Nat} {Q : Option am_V → am_N → Prop} {K : Nat → List (Option am_V) → List am_V → am_N → Prop} {pc : Nat} {lv : List (Option am_V)} {st : List am_V} {μ : am_N}  (hk : ∀ pc lv st μ, K pc lv st μ → am_AW l L xs y Q pc lv st μ) (hd : decode (am_bt y) pc = .ok (.ior, 1)) (h : am_stp l L xs y Q K (pc + 1, 19, 0, 0, 0, 0, []) lv st μ) : am_AW l L xs y Q pc lv st μ := by
  simp only [am_stp] at h
  split at h
  · rename_i v u r
    intro p e R s m args below meth c D ad ca tys B0 cells slots Qf E hret H locs ls hL hP hD hS
    have kk : W p l e R s m args below meth c H locs cells slots Qf (F0 m (pc + 1) ls (.int (Int32.ofInt _) :: r.map (am_rv ad))) := hk _ _ _ _ h p e R s m args below meth c D ad ca tys B0 cells slots Qf E hret H locs ls hL hP hD hS
    rw [am_or, am_back] at kk
    exact lv_ior E.1 E.2.1 hd kk
  · exact h.elim
theorem am_s_ixor {l : Launch} {L : Nat} {xs : Nat → Int} {y : Nat} {Q : Option am_V → am_N → Prop} {K : Nat → List (Option am_V) → List am_V → am_N → Prop} {pc : Nat} {lv : List (Option am_V)} {st : List am_V} {μ : am_N}  (hk : ∀ pc lv st μ, K pc lv st μ → am_AW l L xs y Q pc lv st μ) (hd : decode (am_bt y) pc = .ok (.ixor, 1)) (h : am_stp l L xs y Q K (pc + 1, 20, 0, 0, 0, 0, []) lv st μ) : am_AW l L xs y Q pc lv st μ := by
  simp only [am_stp] at h
  split at h
  · rename_i v u r
    intro p e R s m args below meth c D ad ca tys B0 cells slots Qf E hret H locs ls hL hP hD hS
    have kk : W p l e R s m args below meth c H locs cells slots Qf (F0 m (pc + 1) ls (.int (Int32.ofInt _) :: r.map (am_rv ad))) := hk _ _ _ _ h p e R s m args below meth c D ad ca tys B0 cells slots Qf E hret H locs ls hL hP hD hS
    rw [am_xor, am_back] at kk
    exact lv_ixor E.1 E.2.1 hd kk
  · exact h.elim
theorem am_s_ishl {l : Launch} {L : Nat} {xs : Nat → Int} {y : Nat} {Q : Option am_V → am_N → Prop} {K : Nat → List (Option am_V) → List am_V → am_N → Prop} {pc : Nat} {lv : List (Option am_V)} {st : List am_V} {μ : am_N}  (hk : ∀ pc lv st μ, K pc lv st μ → am_AW l L xs y Q pc lv st μ) (hd : decode (am_bt y) pc = .ok (.ishl, 1)) (h : am_stp l L xs y Q K (pc + 1, 21, 0, 0, 0, 0, []) lv st μ) : am_AW l L xs y Q pc lv st μ := by
  simp only [am_stp] at h
  split at h
  · rename_i v u r
    intro p e R s m args below meth c D ad ca tys B0 cells slots Qf E hret H locs ls hL hP hD hS
    have kk : W p l e R s m args below meth c H locs cells slots Qf (F0 m (pc + 1) ls (.int (Int32.ofInt _) :: r.map (am_rv ad))) := hk _ _ _ _ h p e R s m args below meth c D ad ca tys B0 cells slots Qf E hret H locs ls hL hP hD hS
    rw [am_shl, am_back] at kk
    exact lv_ishl E.1 E.2.1 hd kk
  · exact h.elim
theorem am_s_ishr {l : Launch} {L : Nat} {xs : Nat → Int} {y : Nat} {Q : Option am_V → am_N → Prop} {K : Nat → List (Option am_V) → List am_V → am_N → Prop} {pc : Nat} {lv : List (Option am_V)} {st : List am_V} {μ : am_N}  (hk : ∀ pc lv st μ, K pc lv st μ → am_AW l L xs y Q pc lv st μ) (hd : decode (am_bt y) pc = .ok (.ishr, 1)) (h : am_stp l L xs y Q K (pc + 1, 22, 0, 0, 0, 0, []) lv st μ) : am_AW l L xs y Q pc lv st μ := by
  simp only [am_stp] at h
  split at h
  · rename_i v u r
    intro p e R s m args below meth c D ad ca tys B0 cells slots Qf E hret H locs ls hL hP hD hS
    have kk : W p l e R s m args below meth c H locs cells slots Qf (F0 m (pc + 1) ls (.int (Int32.ofInt _) :: r.map (am_rv ad))) := hk _ _ _ _ h p e R s m args below meth c D ad ca tys B0 cells slots Qf E hret H locs ls hL hP hD hS
    rw [am_shr, am_back] at kk
    exact lv_ishr E.1 E.2.1 hd kk
  · exact h.elim
theorem am_s_ineg {l : Launch} {L : Nat} {xs : Nat → Int} {y : Nat} {Q : Option am_V → am_N → Prop} {K : Nat → List (Option am_V) → List am_V → am_N → Prop} {pc : Nat} {lv : List (Option am_V)} {st : List am_V} {μ : am_N}  (hk : ∀ pc lv st μ, K pc lv st μ → am_AW l L xs y Q pc lv st μ) (hd : decode (am_bt y) pc = .ok (.ineg, 1)) (h : am_stp l L xs y Q K (pc + 1, 23, 0, 0, 0, 0, []) lv st μ) : am_AW l L xs y Q pc lv st μ := by
  simp only [am_stp] at h
  split at h
  · rename_i v r
    intro p e R s m args below meth c D ad ca tys B0 cells slots Qf E hret H locs ls hL hP hD hS
    have kk : W p l e R s m args below meth c H locs cells slots Qf (F0 m (pc + 1) ls (.int (Int32.ofInt _) :: r.map (am_rv ad))) := hk _ _ _ _ h p e R s m args below meth c D ad ca tys B0 cells slots Qf E hret H locs ls hL hP hD hS
    rw [Int32.ofInt_neg] at kk
    exact lv_ineg E.1 E.2.1 hd kk
  · exact h.elim
theorem am_s_i2l {l : Launch} {L : Nat} {xs : Nat → Int} {y : Nat} {Q : Option am_V → am_N → Prop} {K : Nat → List (Option am_V) → List am_V → am_N → Prop} {pc : Nat} {lv : List (Option am_V)} {st : List am_V} {μ : am_N}  (hk : ∀ pc lv st μ, K pc lv st μ → am_AW l L xs y Q pc lv st μ) (hd : decode (am_bt y) pc = .ok (.i2l, 1)) (h : am_stp l L xs y Q K (pc + 1, 33, 0, 0, 0, 0, []) lv st μ) : am_AW l L xs y Q pc lv st μ := by
  simp only [am_stp] at h
  split at h
  · rename_i v r
    intro p e R s m args below meth c D ad ca tys B0 cells slots Qf E hret H locs ls hL hP hD hS
    have kk : W p l e R s m args below meth c H locs cells slots Qf (F0 m (pc + 1) ls (.long (Int64.ofInt _) :: r.map (am_rv ad))) := hk _ _ _ _ h p e R s m args below meth c D ad ca tys B0 cells slots Qf E hret H locs ls hL hP hD hS
    rw [← am_i2l] at kk
    exact lv_i2l E.1 E.2.1 hd rfl kk
  · exact h.elim
theorem am_s_lcmp {l : Launch} {L : Nat} {xs : Nat → Int} {y : Nat} {Q : Option am_V → am_N → Prop} {K : Nat → List (Option am_V) → List am_V → am_N → Prop} {pc : Nat} {lv : List (Option am_V)} {st : List am_V} {μ : am_N}  (hk : ∀ pc lv st μ, K pc lv st μ → am_AW l L xs y Q pc lv st μ) (hd : decode (am_bt y) pc = .ok (.lcmp, 1)) (h : am_stp l L xs y Q K (pc + 1, 34, 0, 0, 0, 0, []) lv st μ) : am_AW l L xs y Q pc lv st μ := by
  simp only [am_stp] at h
  split at h
  · rename_i v u r
    intro p e R s m args below meth c D ad ca tys B0 cells slots Qf E hret H locs ls hL hP hD hS
    have kk : W p l e R s m args below meth c H locs cells slots Qf (F0 m (pc + 1) ls (.int (Int32.ofInt _) :: r.map (am_rv ad))) := hk _ _ _ _ h p e R s m args below meth c D ad ca tys B0 cells slots Qf E hret H locs ls hL hP hD hS
    rw [← am_lcmp] at kk
    exact W.lcmp E.1 E.2.1 hd kk
  · exact h.elim
theorem am_s_ladd {l : Launch} {L : Nat} {xs : Nat → Int} {y : Nat} {Q : Option am_V → am_N → Prop} {K : Nat → List (Option am_V) → List am_V → am_N → Prop} {pc : Nat} {lv : List (Option am_V)} {st : List am_V} {μ : am_N}  (hk : ∀ pc lv st μ, K pc lv st μ → am_AW l L xs y Q pc lv st μ) (hd : decode (am_bt y) pc = .ok (.ladd, 1)) (h : am_stp l L xs y Q K (pc + 1, 35, 0, 0, 0, 0, []) lv st μ) : am_AW l L xs y Q pc lv st μ := by
  simp only [am_stp] at h
  split at h
  · rename_i v u r
    intro p e R s m args below meth c D ad ca tys B0 cells slots Qf E hret H locs ls hL hP hD hS
    have kk : W p l e R s m args below meth c H locs cells slots Qf (F0 m (pc + 1) ls (.long (Int64.ofInt _) :: r.map (am_rv ad))) := hk _ _ _ _ h p e R s m args below meth c D ad ca tys B0 cells slots Qf E hret H locs ls hL hP hD hS
    rw [Int64.ofInt_add] at kk
    exact lv_ladd E.1 E.2.1 hd kk
  · exact h.elim
theorem am_s_lsub {l : Launch} {L : Nat} {xs : Nat → Int} {y : Nat} {Q : Option am_V → am_N → Prop} {K : Nat → List (Option am_V) → List am_V → am_N → Prop} {pc : Nat} {lv : List (Option am_V)} {st : List am_V} {μ : am_N}  (hk : ∀ pc lv st μ, K pc lv st μ → am_AW l L xs y Q pc lv st μ) (hd : decode (am_bt y) pc = .ok (.lsub, 1)) (h : am_stp l L xs y Q K (pc + 1, 36, 0, 0, 0, 0, []) lv st μ) : am_AW l L xs y Q pc lv st μ := by
  simp only [am_stp] at h
  split at h
  · rename_i v u r
    intro p e R s m args below meth c D ad ca tys B0 cells slots Qf E hret H locs ls hL hP hD hS
    have kk : W p l e R s m args below meth c H locs cells slots Qf (F0 m (pc + 1) ls (.long (Int64.ofInt _) :: r.map (am_rv ad))) := hk _ _ _ _ h p e R s m args below meth c D ad ca tys B0 cells slots Qf E hret H locs ls hL hP hD hS
    rw [Int64.ofInt_sub] at kk
    exact lv_lsub E.1 E.2.1 hd kk
  · exact h.elim
theorem am_s_lmul {l : Launch} {L : Nat} {xs : Nat → Int} {y : Nat} {Q : Option am_V → am_N → Prop} {K : Nat → List (Option am_V) → List am_V → am_N → Prop} {pc : Nat} {lv : List (Option am_V)} {st : List am_V} {μ : am_N}  (hk : ∀ pc lv st μ, K pc lv st μ → am_AW l L xs y Q pc lv st μ) (hd : decode (am_bt y) pc = .ok (.lmul, 1)) (h : am_stp l L xs y Q K (pc + 1, 37, 0, 0, 0, 0, []) lv st μ) : am_AW l L xs y Q pc lv st μ := by
  simp only [am_stp] at h
  split at h
  · rename_i v u r
    intro p e R s m args below meth c D ad ca tys B0 cells slots Qf E hret H locs ls hL hP hD hS
    have kk : W p l e R s m args below meth c H locs cells slots Qf (F0 m (pc + 1) ls (.long (Int64.ofInt _) :: r.map (am_rv ad))) := hk _ _ _ _ h p e R s m args below meth c D ad ca tys B0 cells slots Qf E hret H locs ls hL hP hD hS
    rw [Int64.ofInt_mul] at kk
    exact lv_lmul E.1 E.2.1 hd kk
  · exact h.elim
theorem am_s_ldiv {l : Launch} {L : Nat} {xs : Nat → Int} {y : Nat} {Q : Option am_V → am_N → Prop} {K : Nat → List (Option am_V) → List am_V → am_N → Prop} {pc : Nat} {lv : List (Option am_V)} {st : List am_V} {μ : am_N}  (hk : ∀ pc lv st μ, K pc lv st μ → am_AW l L xs y Q pc lv st μ) (hd : decode (am_bt y) pc = .ok (.ldiv, 1)) (h : am_stp l L xs y Q K (pc + 1, 38, 0, 0, 0, 0, []) lv st μ) : am_AW l L xs y Q pc lv st μ := by
  simp only [am_stp] at h
  split at h
  · rename_i v u r
    obtain ⟨h1, h⟩ := h
    intro p e R s m args below meth c D ad ca tys B0 cells slots Qf E hret H locs ls hL hP hD hS
    have kk : W p l e R s m args below meth c H locs cells slots Qf (F0 m (pc + 1) ls (.long (Int64.ofInt _) :: r.map (am_rv ad))) := hk _ _ _ _ h p e R s m args below meth c D ad ca tys B0 cells slots Qf E hret H locs ls hL hP hD hS
    rw [← am_div64] at kk
    exact lv_ldiv E.1 E.2.1 hd (am_ne064 h1) kk
  · exact h.elim
theorem am_s_lrem {l : Launch} {L : Nat} {xs : Nat → Int} {y : Nat} {Q : Option am_V → am_N → Prop} {K : Nat → List (Option am_V) → List am_V → am_N → Prop} {pc : Nat} {lv : List (Option am_V)} {st : List am_V} {μ : am_N}  (hk : ∀ pc lv st μ, K pc lv st μ → am_AW l L xs y Q pc lv st μ) (hd : decode (am_bt y) pc = .ok (.lrem, 1)) (h : am_stp l L xs y Q K (pc + 1, 39, 0, 0, 0, 0, []) lv st μ) : am_AW l L xs y Q pc lv st μ := by
  simp only [am_stp] at h
  split at h
  · rename_i v u r
    obtain ⟨h1, h⟩ := h
    intro p e R s m args below meth c D ad ca tys B0 cells slots Qf E hret H locs ls hL hP hD hS
    have kk : W p l e R s m args below meth c H locs cells slots Qf (F0 m (pc + 1) ls (.long (Int64.ofInt _) :: r.map (am_rv ad))) := hk _ _ _ _ h p e R s m args below meth c D ad ca tys B0 cells slots Qf E hret H locs ls hL hP hD hS
    rw [← am_rem64] at kk
    exact lv_lrem E.1 E.2.1 hd (am_ne064 h1) kk
  · exact h.elim
theorem am_s_goto {l : Launch} {L : Nat} {xs : Nat → Int} {y : Nat} {Q : Option am_V → am_N → Prop} {K : Nat → List (Option am_V) → List am_V → am_N → Prop} {pc : Nat} {lv : List (Option am_V)} {st : List am_V} {μ : am_N} {off : Int} (hk : ∀ pc lv st μ, K pc lv st μ → am_AW l L xs y Q pc lv st μ) (hd : decode (am_bt y) pc = .ok (.goto off, 3)) (ho : 0 ≤ (pc : Int) + off) (h : K ((pc : Int) + off).toNat lv st μ) : am_AW l L xs y Q pc lv st μ := by
  intro p e R s m args below meth c D ad ca tys B0 cells slots Qf E hret H locs ls hL hP hD hS
  exact lv_goto E.1 E.2.1 hd (by omega) (hk _ _ _ _ h p e R s m args below meth c D ad ca tys B0 cells slots Qf E hret H locs ls hL hP hD hS)
theorem am_s_if_eq {l : Launch} {L : Nat} {xs : Nat → Int} {y : Nat} {Q : Option am_V → am_N → Prop} {K : Nat → List (Option am_V) → List am_V → am_N → Prop} {pc : Nat} {lv : List (Option am_V)} {st : List am_V} {μ : am_N} {off : Int} (hk : ∀ pc lv st μ, K pc lv st μ → am_AW l L xs y Q pc lv st μ) (hd : decode (am_bt y) pc = .ok (.ifCond .eq off, 3)) (ho : 0 ≤ (pc : Int) + off) (h : am_stp l L xs y Q K (pc + 3, 26, ((pc : Int) + off).toNat, 0, 0, 0, []) lv st μ) : am_AW l L xs y Q pc lv st μ := by
  simp only [am_stp] at h
  split at h
  · rename_i v r
    obtain ⟨h1, h2⟩ := am_br2_iff.mp h
    intro p e R s m args below meth c D ad ca tys B0 cells slots Qf E hret H locs ls hL hP hD hS
    refine lv_if_eq (tgt := ((pc : Int) + off).toNat) E.1 E.2.1 hd (by omega) (fun q => ?_) (fun q => ?_)
    · exact hk _ _ _ _ (h1 (am_c_eq.mp q)) p e R s m args below meth c D ad ca tys B0 cells slots Qf E hret H locs ls hL hP hD hS
    · exact hk _ _ _ _ (h2 (am_n_eq.mp q)) p e R s m args below meth c D ad ca tys B0 cells slots Qf E hret H locs ls hL hP hD hS
  · exact h.elim
theorem am_s_icmp_eq {l : Launch} {L : Nat} {xs : Nat → Int} {y : Nat} {Q : Option am_V → am_N → Prop} {K : Nat → List (Option am_V) → List am_V → am_N → Prop} {pc : Nat} {lv : List (Option am_V)} {st : List am_V} {μ : am_N} {off : Int} (hk : ∀ pc lv st μ, K pc lv st μ → am_AW l L xs y Q pc lv st μ) (hd : decode (am_bt y) pc = .ok (.if_icmp .eq off, 3)) (ho : 0 ≤ (pc : Int) + off) (h : am_stp l L xs y Q K (pc + 3, 27, ((pc : Int) + off).toNat, 0, 0, 0, []) lv st μ) : am_AW l L xs y Q pc lv st μ := by
  simp only [am_stp] at h
  split at h
  · rename_i v u r
    obtain ⟨h1, h2⟩ := am_br2_iff.mp h
    intro p e R s m args below meth c D ad ca tys B0 cells slots Qf E hret H locs ls hL hP hD hS
    refine lv_icmp_eq (tgt := ((pc : Int) + off).toNat) E.1 E.2.1 hd (by omega) (fun q => ?_) (fun q => ?_)
    · exact hk _ _ _ _ (h1 (am_c2_eq.mp q)) p e R s m args below meth c D ad ca tys B0 cells slots Qf E hret H locs ls hL hP hD hS
    · exact hk _ _ _ _ (h2 (am_n2_eq.mp q)) p e R s m args below meth c D ad ca tys B0 cells slots Qf E hret H locs ls hL hP hD hS
  · exact h.elim
theorem am_s_if_ne {l : Launch} {L : Nat} {xs : Nat → Int} {y : Nat} {Q : Option am_V → am_N → Prop} {K : Nat → List (Option am_V) → List am_V → am_N → Prop} {pc : Nat} {lv : List (Option am_V)} {st : List am_V} {μ : am_N} {off : Int} (hk : ∀ pc lv st μ, K pc lv st μ → am_AW l L xs y Q pc lv st μ) (hd : decode (am_bt y) pc = .ok (.ifCond .ne off, 3)) (ho : 0 ≤ (pc : Int) + off) (h : am_stp l L xs y Q K (pc + 3, 26, ((pc : Int) + off).toNat, 1, 0, 0, []) lv st μ) : am_AW l L xs y Q pc lv st μ := by
  simp only [am_stp] at h
  split at h
  · rename_i v r
    obtain ⟨h1, h2⟩ := am_br2_iff.mp h
    intro p e R s m args below meth c D ad ca tys B0 cells slots Qf E hret H locs ls hL hP hD hS
    refine lv_if_ne (tgt := ((pc : Int) + off).toNat) E.1 E.2.1 hd (by omega) (fun q => ?_) (fun q => ?_)
    · exact hk _ _ _ _ (h1 (am_c_ne.mp q)) p e R s m args below meth c D ad ca tys B0 cells slots Qf E hret H locs ls hL hP hD hS
    · exact hk _ _ _ _ (h2 (am_n_ne.mp q)) p e R s m args below meth c D ad ca tys B0 cells slots Qf E hret H locs ls hL hP hD hS
  · exact h.elim
theorem am_s_icmp_ne {l : Launch} {L : Nat} {xs : Nat → Int} {y : Nat} {Q : Option am_V → am_N → Prop} {K : Nat → List (Option am_V) → List am_V → am_N → Prop} {pc : Nat} {lv : List (Option am_V)} {st : List am_V} {μ : am_N} {off : Int} (hk : ∀ pc lv st μ, K pc lv st μ → am_AW l L xs y Q pc lv st μ) (hd : decode (am_bt y) pc = .ok (.if_icmp .ne off, 3)) (ho : 0 ≤ (pc : Int) + off) (h : am_stp l L xs y Q K (pc + 3, 27, ((pc : Int) + off).toNat, 1, 0, 0, []) lv st μ) : am_AW l L xs y Q pc lv st μ := by
  simp only [am_stp] at h
  split at h
  · rename_i v u r
    obtain ⟨h1, h2⟩ := am_br2_iff.mp h
    intro p e R s m args below meth c D ad ca tys B0 cells slots Qf E hret H locs ls hL hP hD hS
    refine lv_icmp_ne (tgt := ((pc : Int) + off).toNat) E.1 E.2.1 hd (by omega) (fun q => ?_) (fun q => ?_)
    · exact hk _ _ _ _ (h1 (am_c2_ne.mp q)) p e R s m args below meth c D ad ca tys B0 cells slots Qf E hret H locs ls hL hP hD hS
    · exact hk _ _ _ _ (h2 (am_n2_ne.mp q)) p e R s m args below meth c D ad ca tys B0 cells slots Qf E hret H locs ls hL hP hD hS
  · exact h.elim
theorem am_s_if_lt {l : Launch} {L : Nat} {xs : Nat → Int} {y : Nat} {Q : Option am_V → am_N → Prop} {K : Nat → List (Option am_V) → List am_V → am_N → Prop} {pc : Nat} {lv : List (Option am_V)} {st : List am_V} {μ : am_N} {off : Int} (hk : ∀ pc lv st μ, K pc lv st μ → am_AW l L xs y Q pc lv st μ) (hd : decode (am_bt y) pc = .ok (.ifCond .lt off, 3)) (ho : 0 ≤ (pc : Int) + off) (h : am_stp l L xs y Q K (pc + 3, 26, ((pc : Int) + off).toNat, 2, 0, 0, []) lv st μ) : am_AW l L xs y Q pc lv st μ := by
  simp only [am_stp] at h
  split at h
  · rename_i v r
    obtain ⟨h1, h2⟩ := am_br2_iff.mp h
    intro p e R s m args below meth c D ad ca tys B0 cells slots Qf E hret H locs ls hL hP hD hS
    refine lv_if_lt (tgt := ((pc : Int) + off).toNat) E.1 E.2.1 hd (by omega) (fun q => ?_) (fun q => ?_)
    · exact hk _ _ _ _ (h1 (am_c_lt.mp q)) p e R s m args below meth c D ad ca tys B0 cells slots Qf E hret H locs ls hL hP hD hS
    · exact hk _ _ _ _ (h2 (am_n_lt.mp q)) p e R s m args below meth c D ad ca tys B0 cells slots Qf E hret H locs ls hL hP hD hS
  · exact h.elim
theorem am_s_icmp_lt {l : Launch} {L : Nat} {xs : Nat → Int} {y : Nat} {Q : Option am_V → am_N → Prop} {K : Nat → List (Option am_V) → List am_V → am_N → Prop} {pc : Nat} {lv : List (Option am_V)} {st : List am_V} {μ : am_N} {off : Int} (hk : ∀ pc lv st μ, K pc lv st μ → am_AW l L xs y Q pc lv st μ) (hd : decode (am_bt y) pc = .ok (.if_icmp .lt off, 3)) (ho : 0 ≤ (pc : Int) + off) (h : am_stp l L xs y Q K (pc + 3, 27, ((pc : Int) + off).toNat, 2, 0, 0, []) lv st μ) : am_AW l L xs y Q pc lv st μ := by
  simp only [am_stp] at h
  split at h
  · rename_i v u r
    obtain ⟨h1, h2⟩ := am_br2_iff.mp h
    intro p e R s m args below meth c D ad ca tys B0 cells slots Qf E hret H locs ls hL hP hD hS
    refine lv_icmp_lt (tgt := ((pc : Int) + off).toNat) E.1 E.2.1 hd (by omega) (fun q => ?_) (fun q => ?_)
    · exact hk _ _ _ _ (h1 (am_c2_lt.mp q)) p e R s m args below meth c D ad ca tys B0 cells slots Qf E hret H locs ls hL hP hD hS
    · exact hk _ _ _ _ (h2 (am_n2_lt.mp q)) p e R s m args below meth c D ad ca tys B0 cells slots Qf E hret H locs ls hL hP hD hS
  · exact h.elim
theorem am_s_if_ge {l : Launch} {L : Nat} {xs : Nat → Int} {y : Nat} {Q : Option am_V → am_N → Prop} {K : Nat → List (Option am_V) → List am_V → am_N → Prop} {pc : Nat} {lv : List (Option am_V)} {st : List am_V} {μ : am_N} {off : Int} (hk : ∀ pc lv st μ, K pc lv st μ → am_AW l L xs y Q pc lv st μ) (hd : decode (am_bt y) pc = .ok (.ifCond .ge off, 3)) (ho : 0 ≤ (pc : Int) + off) (h : am_stp l L xs y Q K (pc + 3, 26, ((pc : Int) + off).toNat, 3, 0, 0, []) lv st μ) : am_AW l L xs y Q pc lv st μ := by
  simp only [am_stp] at h
  split at h
  · rename_i v r
    obtain ⟨h1, h2⟩ := am_br2_iff.mp h
    intro p e R s m args below meth c D ad ca tys B0 cells slots Qf E hret H locs ls hL hP hD hS
    refine lv_if_ge (tgt := ((pc : Int) + off).toNat) E.1 E.2.1 hd (by omega) (fun q => ?_) (fun q => ?_)
    · exact hk _ _ _ _ (h1 (am_c_ge.mp q)) p e R s m args below meth c D ad ca tys B0 cells slots Qf E hret H locs ls hL hP hD hS
    · exact hk _ _ _ _ (h2 (am_n_ge.mp q)) p e R s m args below meth c D ad ca tys B0 cells slots Qf E hret H locs ls hL hP hD hS
  · exact h.elim
theorem am_s_icmp_ge {l : Launch} {L : Nat} {xs : Nat → Int} {y : Nat} {Q : Option am_V → am_N → Prop} {K : Nat → List (Option am_V) → List am_V → am_N → Prop} {pc : Nat} {lv : List (Option am_V)} {st : List am_V} {μ : am_N} {off : Int} (hk : ∀ pc lv st μ, K pc lv st μ → am_AW l L xs y Q pc lv st μ) (hd : decode (am_bt y) pc = .ok (.if_icmp .ge off, 3)) (ho : 0 ≤ (pc : Int) + off) (h : am_stp l L xs y Q K (pc + 3, 27, ((pc : Int) + off).toNat, 3, 0, 0, []) lv st μ) : am_AW l L xs y Q pc lv st μ := by
  simp only [am_stp] at h
  split at h
  · rename_i v u r
    obtain ⟨h1, h2⟩ := am_br2_iff.mp h
    intro p e R s m args below meth c D ad ca tys B0 cells slots Qf E hret H locs ls hL hP hD hS
    refine lv_icmp_ge (tgt := ((pc : Int) + off).toNat) E.1 E.2.1 hd (by omega) (fun q => ?_) (fun q => ?_)
    · exact hk _ _ _ _ (h1 (am_c2_ge.mp q)) p e R s m args below meth c D ad ca tys B0 cells slots Qf E hret H locs ls hL hP hD hS
    · exact hk _ _ _ _ (h2 (am_n2_ge.mp q)) p e R s m args below meth c D ad ca tys B0 cells slots Qf E hret H locs ls hL hP hD hS
  · exact h.elim
theorem am_s_if_gt {l : Launch} {L : Nat} {xs : Nat → Int} {y : Nat} {Q : Option am_V → am_N → Prop} {K : Nat → List (Option am_V) → List am_V → am_N → Prop} {pc : Nat} {lv : List (Option am_V)} {st : List am_V} {μ : am_N} {off : Int} (hk : ∀ pc lv st μ, K pc lv st μ → am_AW l L xs y Q pc lv st μ) (hd : decode (am_bt y) pc = .ok (.ifCond .gt off, 3)) (ho : 0 ≤ (pc : Int) + off) (h : am_stp l L xs y Q K (pc + 3, 26, ((pc : Int) + off).toNat, 4, 0, 0, []) lv st μ) : am_AW l L xs y Q pc lv st μ := by
  simp only [am_stp] at h
  split at h
  · rename_i v r
    obtain ⟨h1, h2⟩ := am_br2_iff.mp h
    intro p e R s m args below meth c D ad ca tys B0 cells slots Qf E hret H locs ls hL hP hD hS
    refine lv_if_gt (tgt := ((pc : Int) + off).toNat) E.1 E.2.1 hd (by omega) (fun q => ?_) (fun q => ?_)
    · exact hk _ _ _ _ (h1 (am_c_gt.mp q)) p e R s m args below meth c D ad ca tys B0 cells slots Qf E hret H locs ls hL hP hD hS
    · exact hk _ _ _ _ (h2 (am_n_gt.mp q)) p e R s m args below meth c D ad ca tys B0 cells slots Qf E hret H locs ls hL hP hD hS
  · exact h.elim
theorem am_s_icmp_gt {l : Launch} {L : Nat} {xs : Nat → Int} {y : Nat} {Q : Option am_V → am_N → Prop} {K : Nat → List (Option am_V) → List am_V → am_N → Prop} {pc : Nat} {lv : List (Option am_V)} {st : List am_V} {μ : am_N} {off : Int} (hk : ∀ pc lv st μ, K pc lv st μ → am_AW l L xs y Q pc lv st μ) (hd : decode (am_bt y) pc = .ok (.if_icmp .gt off, 3)) (ho : 0 ≤ (pc : Int) + off) (h : am_stp l L xs y Q K (pc + 3, 27, ((pc : Int) + off).toNat, 4, 0, 0, []) lv st μ) : am_AW l L xs y Q pc lv st μ := by
  simp only [am_stp] at h
  split at h
  · rename_i v u r
    obtain ⟨h1, h2⟩ := am_br2_iff.mp h
    intro p e R s m args below meth c D ad ca tys B0 cells slots Qf E hret H locs ls hL hP hD hS
    refine lv_icmp_gt (tgt := ((pc : Int) + off).toNat) E.1 E.2.1 hd (by omega) (fun q => ?_) (fun q => ?_)
    · exact hk _ _ _ _ (h1 (am_c2_gt.mp q)) p e R s m args below meth c D ad ca tys B0 cells slots Qf E hret H locs ls hL hP hD hS
    · exact hk _ _ _ _ (h2 (am_n2_gt.mp q)) p e R s m args below meth c D ad ca tys B0 cells slots Qf E hret H locs ls hL hP hD hS
  · exact h.elim
theorem am_s_if_le {l : Launch} {L : Nat} {xs : Nat → Int} {y : Nat} {Q : Option am_V → am_N → Prop} {K : Nat → List (Option am_V) → List am_V → am_N → Prop} {pc : Nat} {lv : List (Option am_V)} {st : List am_V} {μ : am_N} {off : Int} (hk : ∀ pc lv st μ, K pc lv st μ → am_AW l L xs y Q pc lv st μ) (hd : decode (am_bt y) pc = .ok (.ifCond .le off, 3)) (ho : 0 ≤ (pc : Int) + off) (h : am_stp l L xs y Q K (pc + 3, 26, ((pc : Int) + off).toNat, 5, 0, 0, []) lv st μ) : am_AW l L xs y Q pc lv st μ := by
  simp only [am_stp] at h
  split at h
  · rename_i v r
    obtain ⟨h1, h2⟩ := am_br2_iff.mp h
    intro p e R s m args below meth c D ad ca tys B0 cells slots Qf E hret H locs ls hL hP hD hS
    refine lv_if_le (tgt := ((pc : Int) + off).toNat) E.1 E.2.1 hd (by omega) (fun q => ?_) (fun q => ?_)
    · exact hk _ _ _ _ (h1 (am_c_le.mp q)) p e R s m args below meth c D ad ca tys B0 cells slots Qf E hret H locs ls hL hP hD hS
    · exact hk _ _ _ _ (h2 (am_n_le.mp q)) p e R s m args below meth c D ad ca tys B0 cells slots Qf E hret H locs ls hL hP hD hS
  · exact h.elim
theorem am_s_icmp_le {l : Launch} {L : Nat} {xs : Nat → Int} {y : Nat} {Q : Option am_V → am_N → Prop} {K : Nat → List (Option am_V) → List am_V → am_N → Prop} {pc : Nat} {lv : List (Option am_V)} {st : List am_V} {μ : am_N} {off : Int} (hk : ∀ pc lv st μ, K pc lv st μ → am_AW l L xs y Q pc lv st μ) (hd : decode (am_bt y) pc = .ok (.if_icmp .le off, 3)) (ho : 0 ≤ (pc : Int) + off) (h : am_stp l L xs y Q K (pc + 3, 27, ((pc : Int) + off).toNat, 5, 0, 0, []) lv st μ) : am_AW l L xs y Q pc lv st μ := by
  simp only [am_stp] at h
  split at h
  · rename_i v u r
    obtain ⟨h1, h2⟩ := am_br2_iff.mp h
    intro p e R s m args below meth c D ad ca tys B0 cells slots Qf E hret H locs ls hL hP hD hS
    refine lv_icmp_le (tgt := ((pc : Int) + off).toNat) E.1 E.2.1 hd (by omega) (fun q => ?_) (fun q => ?_)
    · exact hk _ _ _ _ (h1 (am_c2_le.mp q)) p e R s m args below meth c D ad ca tys B0 cells slots Qf E hret H locs ls hL hP hD hS
    · exact hk _ _ _ _ (h2 (am_n2_le.mp q)) p e R s m args below meth c D ad ca tys B0 cells slots Qf E hret H locs ls hL hP hD hS
  · exact h.elim
theorem am_s_pop {l : Launch} {L : Nat} {xs : Nat → Int} {y : Nat} {Q : Option am_V → am_N → Prop} {K : Nat → List (Option am_V) → List am_V → am_N → Prop} {pc : Nat} {lv : List (Option am_V)} {st : List am_V} {μ : am_N}  (hk : ∀ pc lv st μ, K pc lv st μ → am_AW l L xs y Q pc lv st μ) (hd : decode (am_bt y) pc = .ok (.pop, 1)) (h : am_stp l L xs y Q K (pc + 1, 28, 0, 0, 0, 0, []) lv st μ) : am_AW l L xs y Q pc lv st μ := by
  simp only [am_stp] at h
  split at h
  · intro p e R s m args below meth c D ad ca tys B0 cells slots Qf E hret H locs ls hL hP hD hS
    exact lv_pop E.1 E.2.1 hd rfl (hk _ _ _ _ h p e R s m args below meth c D ad ca tys B0 cells slots Qf E hret H locs ls hL hP hD hS)
  · exact h.elim
theorem am_s_pop2 {l : Launch} {L : Nat} {xs : Nat → Int} {y : Nat} {Q : Option am_V → am_N → Prop} {K : Nat → List (Option am_V) → List am_V → am_N → Prop} {pc : Nat} {lv : List (Option am_V)} {st : List am_V} {μ : am_N}  (hk : ∀ pc lv st μ, K pc lv st μ → am_AW l L xs y Q pc lv st μ) (hd : decode (am_bt y) pc = .ok (.pop2, 1)) (h : am_stp l L xs y Q K (pc + 1, 29, 0, 0, 0, 0, []) lv st μ) : am_AW l L xs y Q pc lv st μ := by
  simp only [am_stp] at h
  split at h
  · intro p e R s m args below meth c D ad ca tys B0 cells slots Qf E hret H locs ls hL hP hD hS
    exact lv_pop2_2 E.1 E.2.1 hd rfl (hk _ _ _ _ h p e R s m args below meth c D ad ca tys B0 cells slots Qf E hret H locs ls hL hP hD hS)
  · exact h.elim
theorem am_s_dup {l : Launch} {L : Nat} {xs : Nat → Int} {y : Nat} {Q : Option am_V → am_N → Prop} {K : Nat → List (Option am_V) → List am_V → am_N → Prop} {pc : Nat} {lv : List (Option am_V)} {st : List am_V} {μ : am_N}  (hk : ∀ pc lv st μ, K pc lv st μ → am_AW l L xs y Q pc lv st μ) (hd : decode (am_bt y) pc = .ok (.dup, 1)) (h : am_stp l L xs y Q K (pc + 1, 30, 0, 0, 0, 0, []) lv st μ) : am_AW l L xs y Q pc lv st μ := by
  simp only [am_stp] at h
  split at h
  · intro p e R s m args below meth c D ad ca tys B0 cells slots Qf E hret H locs ls hL hP hD hS
    exact lv_dup E.1 E.2.1 hd rfl (hk _ _ _ _ h p e R s m args below meth c D ad ca tys B0 cells slots Qf E hret H locs ls hL hP hD hS)
  · intro p e R s m args below meth c D ad ca tys B0 cells slots Qf E hret H locs ls hL hP hD hS
    exact lv_dup E.1 E.2.1 hd rfl (hk _ _ _ _ h p e R s m args below meth c D ad ca tys B0 cells slots Qf E hret H locs ls hL hP hD hS)
  · exact h.elim
theorem am_s_dup2 {l : Launch} {L : Nat} {xs : Nat → Int} {y : Nat} {Q : Option am_V → am_N → Prop} {K : Nat → List (Option am_V) → List am_V → am_N → Prop} {pc : Nat} {lv : List (Option am_V)} {st : List am_V} {μ : am_N}  (hk : ∀ pc lv st μ, K pc lv st μ → am_AW l L xs y Q pc lv st μ) (hd : decode (am_bt y) pc = .ok (.dup2, 1)) (h : am_stp l L xs y Q K (pc + 1, 31, 0, 0, 0, 0, []) lv st μ) : am_AW l L xs y Q pc lv st μ := by
  simp only [am_stp] at h
  split at h
  · intro p e R s m args below meth c D ad ca tys B0 cells slots Qf E hret H locs ls hL hP hD hS
    exact lv_dup2_11 E.1 E.2.1 hd rfl rfl (hk _ _ _ _ h p e R s m args below meth c D ad ca tys B0 cells slots Qf E hret H locs ls hL hP hD hS)
  · exact h.elim
theorem am_s_dup_x1 {l : Launch} {L : Nat} {xs : Nat → Int} {y : Nat} {Q : Option am_V → am_N → Prop} {K : Nat → List (Option am_V) → List am_V → am_N → Prop} {pc : Nat} {lv : List (Option am_V)} {st : List am_V} {μ : am_N}  (hk : ∀ pc lv st μ, K pc lv st μ → am_AW l L xs y Q pc lv st μ) (hd : decode (am_bt y) pc = .ok (.dup_x1, 1)) (h : am_stp l L xs y Q K (pc + 1, 32, 0, 0, 0, 0, []) lv st μ) : am_AW l L xs y Q pc lv st μ := by
  simp only [am_stp] at h
  split at h
  · intro p e R s m args below meth c D ad ca tys B0 cells slots Qf E hret H locs ls hL hP hD hS
    exact lv_dup_x1 E.1 E.2.1 hd rfl rfl (hk _ _ _ _ h p e R s m args below meth c D ad ca tys B0 cells slots Qf E hret H locs ls hL hP hD hS)
  · exact h.elim
theorem am_s_mmax {l : Launch} {L : Nat} {xs : Nat → Int} {y : Nat} {Q : Option am_V → am_N → Prop} {K : Nat → List (Option am_V) → List am_V → am_N → Prop} {pc : Nat} {lv : List (Option am_V)} {st : List am_V} {μ : am_N} {k : Nat} (hl1 : 1 ≤ am_fr y) (hl2 : 21 ≤ am_lo y) (hk : ∀ pc lv st μ, K pc lv st μ → am_AW l L xs y Q pc lv st μ) (hd : decode (am_bt y) pc = .ok (.invokestatic k, 3)) (hf : (am_ow y, k, 0) ∈ am_ma) (h : am_stp l L xs y Q K (pc + 3, 46, 0, 0, 0, 0, []) lv st μ) : am_AW l L xs y Q pc lv st μ := by
  simp only [am_stp] at h
  split at h
  · rename_i v u r
    obtain ⟨h1, h⟩ := am_ifb h
    have h1 := Nat.le_of_ble_eq_true h1
    intro p e R s m args below meth c D ad ca tys B0 cells slots Qf E hret H locs ls hL hP hD hS
    obtain ⟨e1, e2, e3, e4, e5, e6, e7, e8, e9, e10, e11, e12, e13⟩ := id E
    have kk : W p l e R s m args below meth c H locs cells slots Qf (F0 m (pc + 3) ls (.int (Int32.ofInt _) :: r.map (am_rv ad))) := hk _ _ _ _ h p e R s m args below meth c D ad ca tys B0 cells slots Qf E hret H locs ls hL hP hD hS
    refine va_mmax e1 e2 (e3.trans hL.1.symm) e4 (e5 _ (am_ma_in _ hf)) (e5 _ (am_mw_in _ (List.mem_of_getElem? (i := 0) rfl))) (e5 _ (am_mw_in _ (List.mem_of_getElem? (i := 6) rfl))) (e5 _ (am_mw_in _ (List.mem_of_getElem? (i := 1) rfl))) (by omega) (by rw [am_cats]; omega) e11 e12 hd ?_
    simp only [am_lt]
    split at kk
    · rename_i hc
      rw [if_pos hc]; exact kk
    · rename_i hc
      rw [if_neg hc]; exact kk
  · exact h.elim
theorem am_s_mmin {l : Launch} {L : Nat} {xs : Nat → Int} {y : Nat} {Q : Option am_V → am_N → Prop} {K : Nat → List (Option am_V) → List am_V → am_N → Prop} {pc : Nat} {lv : List (Option am_V)} {st : List am_V} {μ : am_N} {k : Nat} (hl1 : 1 ≤ am_fr y) (hl2 : 21 ≤ am_lo y) (hk : ∀ pc lv st μ, K pc lv st μ → am_AW l L xs y Q pc lv st μ) (hd : decode (am_bt y) pc = .ok (.invokestatic k, 3)) (hf : (am_ow y, k, 1) ∈ am_ma) (h : am_stp l L xs y Q K (pc + 3, 47, 0, 0, 0, 0, []) lv st μ) : am_AW l L xs y Q pc lv st μ := by
  simp only [am_stp] at h
  split at h
  · rename_i v u r
    obtain ⟨h1, h⟩ := am_ifb h
    have h1 := Nat.le_of_ble_eq_true h1
    intro p e R s m args below meth c D ad ca tys B0 cells slots Qf E hret H locs ls hL hP hD hS
    obtain ⟨e1, e2, e3, e4, e5, e6, e7, e8, e9, e10, e11, e12, e13⟩ := id E
    have kk : W p l e R s m args below meth c H locs cells slots Qf (F0 m (pc + 3) ls (.int (Int32.ofInt _) :: r.map (am_rv ad))) := hk _ _ _ _ h p e R s m args below meth c D ad ca tys B0 cells slots Qf E hret H locs ls hL hP hD hS
    refine va_mmin e1 e2 (e3.trans hL.1.symm) e4 (e5 _ (am_ma_in _ hf)) (e5 _ (am_mw_in _ (List.mem_of_getElem? (i := 2) rfl))) (e5 _ (am_mw_in _ (List.mem_of_getElem? (i := 6) rfl))) (e5 _ (am_mw_in _ (List.mem_of_getElem? (i := 3) rfl))) (by omega) (by rw [am_cats]; omega) e11 e12 hd ?_
    simp only [am_lt]
    split at kk
    · rename_i hc
      rw [if_pos hc]; exact kk
    · rename_i hc
      rw [if_neg hc]; exact kk
  · exact h.elim
theorem am_s_mabs {l : Launch} {L : Nat} {xs : Nat → Int} {y : Nat} {Q : Option am_V → am_N → Prop} {K : Nat → List (Option am_V) → List am_V → am_N → Prop} {pc : Nat} {lv : List (Option am_V)} {st : List am_V} {μ : am_N} {k : Nat} (hl1 : 1 ≤ am_fr y) (hl2 : 21 ≤ am_lo y) (hk : ∀ pc lv st μ, K pc lv st μ → am_AW l L xs y Q pc lv st μ) (hd : decode (am_bt y) pc = .ok (.invokestatic k, 3)) (hf : (am_ow y, k, 2) ∈ am_ma) (h : am_stp l L xs y Q K (pc + 3, 48, 0, 0, 0, 0, []) lv st μ) : am_AW l L xs y Q pc lv st μ := by
  simp only [am_stp] at h
  split at h
  · rename_i u r
    obtain ⟨h1, h⟩ := am_ifb h
    have h1 := Nat.le_of_ble_eq_true h1
    intro p e R s m args below meth c D ad ca tys B0 cells slots Qf E hret H locs ls hL hP hD hS
    obtain ⟨e1, e2, e3, e4, e5, e6, e7, e8, e9, e10, e11, e12, e13⟩ := id E
    have kk : W p l e R s m args below meth c H locs cells slots Qf (F0 m (pc + 3) ls (.int (Int32.ofInt _) :: r.map (am_rv ad))) := hk _ _ _ _ h p e R s m args below meth c D ad ca tys B0 cells slots Qf E hret H locs ls hL hP hD hS
    refine va_mabs e1 e2 (e3.trans hL.1.symm) e4 (e5 _ (am_ma_in _ hf)) (e5 _ (am_mw_in _ (List.mem_of_getElem? (i := 4) rfl))) (e5 _ (am_mw_in _ (List.mem_of_getElem? (i := 6) rfl))) (e5 _ (am_mw_in _ (List.mem_of_getElem? (i := 5) rfl))) (by omega) (by rw [am_cats]; omega) e11 e12 hd ?_
    rw [← am_0]
    simp only [am_le, am_c0]
    split at kk
    · rename_i hc
      rw [if_pos hc]; exact kk
    · rename_i hc
      rw [if_neg hc, ← Int32.ofInt_sub]; exact kk
  · exact h.elim
theorem am_s_return {l : Launch} {L : Nat} {xs : Nat → Int} {y : Nat} {Q : Option am_V → am_N → Prop} {K : Nat → List (Option am_V) → List am_V → am_N → Prop} {pc : Nat} {lv : List (Option am_V)} {st : List am_V} {μ : am_N}  (hk : ∀ pc lv st μ, K pc lv st μ → am_AW l L xs y Q pc lv st μ) (hd : decode (am_bt y) pc = .ok (.return_, 1)) (hr : am_re y = none) (h : am_stp l L xs y Q K (0, 42, 0, 0, 0, 0, []) lv st μ) : am_AW l L xs y Q pc lv st μ := by
  simp only [am_stp] at h
  split at h
  · intro p e R s m args below meth c D ad ca tys B0 cells slots Qf E hret H locs ls hL hP hD hS
    exact hret none μ H locs pc ls h.2 hP hD hS ⟨hd, hr⟩
  · exact h.elim
theorem am_s_ireturn {l : Launch} {L : Nat} {xs : Nat → Int} {y : Nat} {Q : Option am_V → am_N → Prop} {K : Nat → List (Option am_V) → List am_V → am_N → Prop} {pc : Nat} {lv : List (Option am_V)} {st : List am_V} {μ : am_N}  (hk : ∀ pc lv st μ, K pc lv st μ → am_AW l L xs y Q pc lv st μ) (hd : decode (am_bt y) pc = .ok (.ireturn, 1)) (hr : am_re y = some .int) (h : am_stp l L xs y Q K (0, 43, 0, 0, 0, 0, []) lv st μ) : am_AW l L xs y Q pc lv st μ := by
  simp only [am_stp] at h
  split at h
  · rename_i v
    intro p e R s m args below meth c D ad ca tys B0 cells slots Qf E hret H locs ls hL hP hD hS
    exact hret (some (.inl v)) μ H locs pc ls h.2 hP hD hS ⟨hd, Or.inl hr⟩
  · exact h.elim
theorem am_s_ireturnz {l : Launch} {L : Nat} {xs : Nat → Int} {y : Nat} {Q : Option am_V → am_N → Prop} {K : Nat → List (Option am_V) → List am_V → am_N → Prop} {pc : Nat} {lv : List (Option am_V)} {st : List am_V} {μ : am_N}  (hk : ∀ pc lv st μ, K pc lv st μ → am_AW l L xs y Q pc lv st μ) (hd : decode (am_bt y) pc = .ok (.ireturn, 1)) (hr : am_re y = some .boolean) (h : am_stp l L xs y Q K (0, 43, 0, 0, 1, 0, []) lv st μ) : am_AW l L xs y Q pc lv st μ := by
  simp only [am_stp] at h
  split at h
  · rename_i v
    intro p e R s m args below meth c D ad ca tys B0 cells slots Qf E hret H locs ls hL hP hD hS
    exact hret (some (.inl v)) μ H locs pc ls h.2 hP hD hS ⟨hd, Or.inr ⟨hr, h.1⟩⟩
  · exact h.elim
theorem am_s_lreturn {l : Launch} {L : Nat} {xs : Nat → Int} {y : Nat} {Q : Option am_V → am_N → Prop} {K : Nat → List (Option am_V) → List am_V → am_N → Prop} {pc : Nat} {lv : List (Option am_V)} {st : List am_V} {μ : am_N}  (hk : ∀ pc lv st μ, K pc lv st μ → am_AW l L xs y Q pc lv st μ) (hd : decode (am_bt y) pc = .ok (.lreturn, 1)) (hr : am_re y = some .long) (h : am_stp l L xs y Q K (0, 44, 0, 0, 0, 0, []) lv st μ) : am_AW l L xs y Q pc lv st μ := by
  simp only [am_stp] at h
  split at h
  · rename_i v
    intro p e R s m args below meth c D ad ca tys B0 cells slots Qf E hret H locs ls hL hP hD hS
    exact hret (some (.inr (.inl v))) μ H locs pc ls h.2 hP hD hS ⟨hd, hr⟩
  · exact h.elim
theorem am_s_table {l : Launch} {L : Nat} {xs : Nat → Int} {y : Nat} {Q : Option am_V → am_N → Prop} {K : Nat → List (Option am_V) → List am_V → am_N → Prop} {pc : Nat} {lv : List (Option am_V)} {st : List am_V} {μ : am_N} {d lo hi : Int} {offs : Array Int} {len : Nat} (hk : ∀ pc lv st μ, K pc lv st μ → am_AW l L xs y Q pc lv st μ) (hd : decode (am_bt y) pc = .ok (.tableswitch d lo hi offs, len)) (h0 : 0 ≤ (pc : Int) + d) (h1 : ∀ o ∈ offs.toList, 0 ≤ (pc : Int) + o) (h2 : (offs.toList.length : Int) = hi - lo + 1) (h : am_stp l L xs y Q K (0, 45, ((pc : Int) + d).toNat, 0, 0, 0, am_tb pc lo offs.toList) lv st μ) : am_AW l L xs y Q pc lv st μ := by
  simp only [am_stp] at h
  split at h
  · rename_i v r
    intro p e R s m args below meth c D ad ca tys B0 cells slots Qf E hret H locs ls hL hP hD hS
    rcases am_sw_tb h with ⟨o, ho, hK⟩ | ⟨ho, hK⟩
    · have hlo : ¬ am_c v < lo := ho.1
      have ho2 := ho.2
      have hmem : o ∈ offs.toList := List.mem_of_getElem? ho2
      have hlt : (am_c v - lo).toNat < offs.toList.length := (List.getElem?_eq_some_iff.mp ho2).1
      exact lv_tableIn (tgt := ((pc : Int) + o).toNat) E.1 E.2.1 hd (by rw [am_toInt]; exact hlo) (by rw [am_toInt]; omega) (by rw [am_toInt, ← Array.getElem?_toList]; exact ho2) (by have := h1 o hmem; omega) (hk _ _ _ _ hK p e R s m args below meth c D ad ca tys B0 cells slots Qf E hret H locs ls hL hP hD hS)
    · exact lv_tableOut (tgt := ((pc : Int) + d).toNat) E.1 E.2.1 hd (by rw [am_toInt]; rcases ho with q | q; exact Or.inl q; exact Or.inr (by omega)) (by omega) (hk _ _ _ _ hK p e R s m args below meth c D ad ca tys B0 cells slots Qf E hret H locs ls hL hP hD hS)
  · exact h.elim
theorem am_s_lookup {l : Launch} {L : Nat} {xs : Nat → Int} {y : Nat} {Q : Option am_V → am_N → Prop} {K : Nat → List (Option am_V) → List am_V → am_N → Prop} {pc : Nat} {lv : List (Option am_V)} {st : List am_V} {μ : am_N} {d : Int} {ps : Array (Int × Int)} {len : Nat} (hk : ∀ pc lv st μ, K pc lv st μ → am_AW l L xs y Q pc lv st μ) (hd : decode (am_bt y) pc = .ok (.lookupswitch d ps, len)) (h0 : 0 ≤ (pc : Int) + d) (h1 : ∀ o ∈ ps.toList, 0 ≤ (pc : Int) + o.2) (h2 : (ps.toList.zip (ps.toList.drop 1)).all (fun (a, next) => a.1 < next.1) = true) (h : am_stp l L xs y Q K (0, 45, ((pc : Int) + d).toNat, 0, 0, 0, ps.toList.map (fun o => (o.1, ((pc : Int) + o.2).toNat))) lv st μ) : am_AW l L xs y Q pc lv st μ := by
  simp only [am_stp] at h
  split at h
  · rename_i v r
    intro p e R s m args below meth c D ad ca tys B0 cells slots Qf E hret H locs ls hL hP hD hS
    obtain ⟨hK, hn⟩ := am_sw_lk h0 h1 h
    exact lv_lookup (tgt := ((pc : Int) + Op.lookupswitch.offset ps.toList d (am_c v)).toNat) E.1 E.2.1 hd h2 (by rw [am_toInt]) (by omega) (hk _ _ _ _ hK p e R s m args below meth c D ad ca tys B0 cells slots Qf E hret H locs ls hL hP hD hS)
  · exact h.elim
theorem am_s_invv {l : Launch} {L : Nat} {xs : Nat → Int} {y : Nat} {Q : Option am_V → am_N → Prop} {K : Nat → List (Option am_V) → List am_V → am_N → Prop} {pc : Nat} {lv : List (Option am_V)} {st : List am_V} {μ : am_N} {k z : Nat} (hk : ∀ pc lv st μ, K pc lv st μ → am_AW l L xs y Q pc lv st μ) (hd : decode (am_bt y) pc = .ok (.invokevirtual k, 3)) (hf : (am_ow y, k, z) ∈ am_ca) (h0 : 0 < z) (h1 : z < am_ny) (h2 : am_fr z + 1 ≤ am_fr y) (h3 : 19 + am_ml z + am_lo z ≤ am_lo y) (h4 : am_st z = false) (h : am_stp l L xs y Q K (pc + 3, 40, z, (am_na z), (am_ow z + 2), 0, []) lv st μ) : am_AW l L xs y Q pc lv st μ := by
  simp only [am_stp] at h
  split at h
  · rename_i b as has
    obtain ⟨g0, -, h⟩ := am_ifb h
    obtain ⟨g1, g0⟩ := am_bb g0
    obtain ⟨g2, g3⟩ := am_bb g0
    have g1 := Nat.eq_of_beq_eq_true g1
    have g2 := Nat.le_of_ble_eq_true g2
    have g3 := Nat.le_of_ble_eq_true g3
    intro p e R s m args below meth c D ad ca tys B0 cells slots Qf E hret H locs ls hL hP hD hS
    obtain ⟨e1, e2, e3, e4, e5, e6, e7, e8, e9, e10, e11, e12, e13⟩ := id E
    obtain ⟨fs, hfs⟩ := am_tag_ok g1
    obtain ⟨m1, m2, m3, m4, m5, m6⟩ := am_md_ok h0 h1
    have hlen : as.length + 1 = am_na z := by
      have q := congrArg List.length has
      rw [List.length_reverse, List.length_take] at q
      simp only [List.length_cons] at q
      omega
    have hst : st.map (am_rv ad) = ((as.map (am_rv ad)).reverse ++ .ref (ad b) :: (st.drop (am_na z)).map (am_rv ad)) := by
      have q1 : st.take (am_na z) = as.reverse ++ [.inr (.inr b)] := by rw [← List.reverse_reverse (st.take (am_na z)), has, List.reverse_cons]
      have q2 : st = (as.reverse ++ [.inr (.inr b)]) ++ st.drop (am_na z) := by rw [← q1, List.take_append_drop]
      refine (congrArg (List.map (am_rv ad)) q2).trans ?_
      rw [List.map_append, List.map_append, List.map_reverse, List.append_assoc]
      rfl
    have cw : CallW R s args (am_cn (am_ow y)) (am_cn (am_ow z)) k (am_md z).1 (am_bt z) (am_ml z) (am_re z) (am_w z) (am_rm z) 0 0 as.length :=
      ⟨callB_of (Ts := am_big) as.length e5 (am_goodw h0 h1) rfl rfl rfl (e5 _ m5) (e5 _ (am_ca_in _ hf)) ⟨m2.1, m2.2, by rw [m3, h4]; simp only [Bool.false_eq_true, if_false, Option.some.injEq]; omega⟩ ⟨Nat.le_trans h2 e9, by show 8 + (am_ml z + 11) + am_lo z ≤ R.locals; omega⟩, e5 _ (m4.1 h4), by rw [← m1]; exact e5 _ (m4.2 h4)⟩
    rw [hst]
    refine am_callW (va_runV (As := as.map (am_rv ad)) (rest := (st.drop (am_na z)).map (am_rv ad)) ⟨e1, e2, e3, e4, e5⟩ (h D ad ca tys B0 e7) cw ⟨am_blind, am_recv m6 e6 hP hfs, fun U hU hW => ⟨rfl, by rw [hU]; exact Nat.le_trans e8 hS.1, by rw [hU]; exact hP, va_K.moved hW.alike e6, hD⟩⟩ rfl (by rw [List.length_map]) hL.1 rfl (lv_room (by rw [am_cats]; exact g3)) hd ⟨e11, e12⟩) hS (fun r μ' H1 locs1 hq hP hD hS => ?_)
    have kk := hk _ _ _ _ hq p e R s m args below meth c D ad ca tys B0 cells slots Qf E hret H1 locs1 ls hL hP hD hS
    rw [List.map_append] at kk
    have e : (am_rs r).map (am_rv ad) = (r.map (am_rv ad)).toList := by cases r <;> rfl
    rw [e] at kk
    exact kk
  · exact h.elim
theorem am_s_invs {l : Launch} {L : Nat} {xs : Nat → Int} {y : Nat} {Q : Option am_V → am_N → Prop} {K : Nat → List (Option am_V) → List am_V → am_N → Prop} {pc : Nat} {lv : List (Option am_V)} {st : List am_V} {μ : am_N} {k z : Nat} (hk : ∀ pc lv st μ, K pc lv st μ → am_AW l L xs y Q pc lv st μ) (hd : decode (am_bt y) pc = .ok (.invokestatic k, 3)) (hf : (am_ow y, k, z) ∈ am_ca) (h0 : 0 < z) (h1 : z < am_ny) (h2 : am_fr z + 1 ≤ am_fr y) (h3 : 19 + am_ml z + am_lo z ≤ am_lo y) (h4 : am_st z = true) (h5 : am_ow z = am_ow y) (h : am_stp l L xs y Q K (pc + 3, 41, z, (am_na z), 0, 0, []) lv st μ) : am_AW l L xs y Q pc lv st μ := by
  simp only [am_stp] at h
  obtain ⟨g0, -, h⟩ := am_ifb h
  obtain ⟨g2, g3⟩ := am_bb g0
  have g2 := Nat.le_of_ble_eq_true g2
  have g3 := Nat.le_of_ble_eq_true g3
  intro p e R s m args below meth c D ad ca tys B0 cells slots Qf E hret H locs ls hL hP hD hS
  obtain ⟨e1, e2, e3, e4, e5, e6, e7, e8, e9, e10, e11, e12, e13⟩ := id E
  obtain ⟨m1, m2, m3, m4, m5, m6⟩ := am_md_ok h0 h1
  have hlen : ((st.take (am_na z)).reverse.map (am_rv ad)).length = am_na z := by
    rw [List.length_map, List.length_reverse, List.length_take]; omega
  have hst : st.map (am_rv ad) = (((st.take (am_na z)).reverse.map (am_rv ad)).reverse ++ (st.drop (am_na z)).map (am_rv ad)) := by
    rw [← List.map_reverse, List.reverse_reverse, ← List.map_append, List.take_append_drop]
  have cw : CallB R s args (am_cn (am_ow y)) k (am_md z).1 (am_bt z) (am_ml z) (am_re z) (am_w z) (am_rm z) 0 0 (am_na z) ∧ (Cond.static (am_md z).1).before args s = true :=
    ⟨callB_of (Ts := am_big) (am_na z) e5 (am_goodw h0 h1) rfl rfl rfl (e5 _ m5) (e5 _ (am_ca_in _ hf)) ⟨m2.1, m2.2, by rw [m3, h4]; rfl⟩ ⟨Nat.le_trans h2 e9, by show 8 + (am_ml z + 11) + am_lo z ≤ R.locals; omega⟩, e5 _ (am_md_st h0 h1 h4)⟩
  rw [hst]
  refine am_callW (va_runS (As := (st.take (am_na z)).reverse.map (am_rv ad)) (rest := (st.drop (am_na z)).map (am_rv ad)) ⟨e1, e2, e3, e4, e5⟩ (h D ad ca tys B0 e7) cw ⟨am_blind, fun U hU hW => ⟨rfl, by rw [hU]; exact Nat.le_trans e8 hS.1, by rw [hU]; exact hP, va_K.moved hW.alike e6, hD⟩⟩ rfl hlen hL.1 rfl (lv_room (by rw [am_cats]; exact g3)) hd ⟨e11, e12⟩) hS (fun r μ' H1 locs1 hq hP hD hS => ?_)
  have kk := hk _ _ _ _ hq p e R s m args below meth c D ad ca tys B0 cells slots Qf E hret H1 locs1 ls hL hP hD hS
  rw [List.map_append] at kk
  have e : (am_rs r).map (am_rv ad) = (r.map (am_rv ad)).toList := by cases r <;> rfl
  rw [e] at kk
  exact kk

theorem am_len {i len : Nat} (h : (i == 0 || len == i) = true) (h2 : i ≠ 0) : len = i := by
  rcases Bool.or_eq_true_iff.mp h with q | q
  · exact absurd (beq_iff_eq.mp q) h2
  · exact beq_iff_eq.mp q
theorem am_find {α : Type} {l : List (Nat × Nat × α)} {a b : Nat} {f : Nat × Nat × α} (h : l.find? (fun f => Nat.beq f.1 a && Nat.beq f.2.1 b) = some f) : (a, b, f.2.2) ∈ l := by
  have h1 := List.mem_of_find?_eq_some h
  have h2 := List.find?_some h
  simp only [Bool.and_eq_true, Nat.beq_eq] at h2
  rw [← h2.1, ← h2.2]
  exact h1
theorem am_brok {pc : Nat} {off : Int} {x : am_I} {P : am_I → Prop} (h : P (am_br pc off x)) (hb : ¬ P am_bad) : 0 ≤ (pc : Int) + off ∧ P x := by
  unfold am_br at h
  split at h
  · exact ⟨by assumption, h⟩
  · exact absurd h hb
set_option maxHeartbeats 4000000 in
theorem am_stp_ok {l : Launch} {L : Nat} {xs : Nat → Int} {y : Nat} {Q : Option am_V → am_N → Prop} {K : Nat → List (Option am_V) → List am_V → am_N → Prop} {pc : Nat} {lv : List (Option am_V)} {st : List am_V} {μ : am_N} {x : am_I} (hk : ∀ pc lv st μ, K pc lv st μ → am_AW l L xs y Q pc lv st μ) (hc : am_chk y pc x = true) (h : am_stp l L xs y Q K x lv st μ) : am_AW l L xs y Q pc lv st μ := by
  unfold am_chk at hc
  split at hc
  case h_2 => cases hc
  rename_i i len hd
  obtain ⟨hlen, hx⟩ := am_bb hc
  have hx := am_ie_eq hx
  subst hx
  have bad : ¬ am_stp l L xs y Q K am_bad lv st μ := fun q => q
  cases i
  case iconst n =>
    rw [am_len hlen (by simp [am_ln])] at hd
    exact am_s_iconst hk hd h
  case bipush n =>
    rw [am_len hlen (by simp [am_ln])] at hd
    exact am_s_bipush hk hd h
  case sipush n =>
    rw [am_len hlen (by simp [am_ln])] at hd
    exact am_s_sipush hk hd h
  case lconst n =>
    rw [am_len hlen (by simp [am_ln])] at hd
    exact am_s_lconst hk hd h
  case ldc k =>
    rw [am_len hlen (by simp [am_ln])] at hd
    simp only [am_nrm] at h
    split at h
    · rename_i f hf
      exact am_s_ldc hk hd (am_find hf) h
    · exact (bad h).elim
  case ldc_w k =>
    rw [am_len hlen (by simp [am_ln])] at hd
    simp only [am_nrm] at h
    split at h
    · rename_i f hf
      exact am_s_ldc_w hk hd (am_find hf) h
    · exact (bad h).elim
  case ldc2_w k =>
    rw [am_len hlen (by simp [am_ln])] at hd
    simp only [am_nrm] at h
    split at h
    · rename_i f hf
      exact am_s_ldc2 hk hd (am_find hf) h
    · exact (bad h).elim
  case iload k =>
    rw [am_len hlen (by simp [am_ln])] at hd
    exact am_s_iload hk hd h
  case iload_n k =>
    rw [am_len hlen (by simp [am_ln])] at hd
    exact am_s_iload_n hk hd h
  case lload k =>
    rw [am_len hlen (by simp [am_ln])] at hd
    exact am_s_lload hk hd h
  case lload_n k =>
    rw [am_len hlen (by simp [am_ln])] at hd
    exact am_s_lload_n hk hd h
  case aload k =>
    rw [am_len hlen (by simp [am_ln])] at hd
    exact am_s_aload hk hd h
  case aload_n k =>
    rw [am_len hlen (by simp [am_ln])] at hd
    exact am_s_aload_n hk hd h
  case istore k =>
    rw [am_len hlen (by simp [am_ln])] at hd
    exact am_s_istore hk hd h
  case istore_n k =>
    rw [am_len hlen (by simp [am_ln])] at hd
    exact am_s_istore_n hk hd h
  case lstore k =>
    rw [am_len hlen (by simp [am_ln])] at hd
    exact am_s_lstore hk hd h
  case lstore_n k =>
    rw [am_len hlen (by simp [am_ln])] at hd
    exact am_s_lstore_n hk hd h
  case iinc k n =>
    rw [am_len hlen (by simp [am_ln])] at hd
    exact am_s_iinc hk hd h
  case getfield k =>
    rw [am_len hlen (by simp [am_ln])] at hd
    simp only [am_nrm] at h
    split at h
    · rename_i f hf
      exact am_s_getfield hk hd (am_find hf) h
    · exact (bad h).elim
  case putfield k =>
    rw [am_len hlen (by simp [am_ln])] at hd
    simp only [am_nrm] at h
    split at h
    · rename_i f hf
      split at h
      · rename_i hfin
        split at h
        · rename_i hty
          exact am_s_putfield hk hd (am_find hf) hfin hty h
        · rename_i hty
          exact am_s_putfieldz hk hd (am_find hf) hfin hty h
        · exact (bad h).elim
      · exact (bad h).elim
    · exact (bad h).elim
  case iaload =>
    rw [am_len hlen (by simp [am_ln])] at hd
    exact am_s_iaload hk hd h
  case iastore =>
    rw [am_len hlen (by simp [am_ln])] at hd
    exact am_s_iastore hk hd h
  case aaload =>
    rw [am_len hlen (by simp [am_ln])] at hd
    exact am_s_aaload hk hd h
  case arraylength =>
    rw [am_len hlen (by simp [am_ln])] at hd
    exact am_s_alen hk hd h
  case iadd =>
    rw [am_len hlen (by simp [am_ln])] at hd
    exact am_s_iadd hk hd h
  case isub =>
    rw [am_len hlen (by simp [am_ln])] at hd
    exact am_s_isub hk hd h
  case imul =>
    rw [am_len hlen (by simp [am_ln])] at hd
    exact am_s_imul hk hd h
  case idiv =>
    rw [am_len hlen (by simp [am_ln])] at hd
    exact am_s_idiv hk hd h
  case irem =>
    rw [am_len hlen (by simp [am_ln])] at hd
    exact am_s_irem hk hd h
  case iand =>
    rw [am_len hlen (by simp [am_ln])] at hd
    exact am_s_iand hk hd h
  case ior =>
    rw [am_len hlen (by simp [am_ln])] at hd
    exact am_s_ior hk hd h
  case ixor =>
    rw [am_len hlen (by simp [am_ln])] at hd
    exact am_s_ixor hk hd h
  case ishl =>
    rw [am_len hlen (by simp [am_ln])] at hd
    exact am_s_ishl hk hd h
  case ishr =>
    rw [am_len hlen (by simp [am_ln])] at hd
    exact am_s_ishr hk hd h
  case ineg =>
    rw [am_len hlen (by simp [am_ln])] at hd
    exact am_s_ineg hk hd h
  case i2l =>
    rw [am_len hlen (by simp [am_ln])] at hd
    exact am_s_i2l hk hd h
  case lcmp =>
    rw [am_len hlen (by simp [am_ln])] at hd
    exact am_s_lcmp hk hd h
  case ladd =>
    rw [am_len hlen (by simp [am_ln])] at hd
    exact am_s_ladd hk hd h
  case lsub =>
    rw [am_len hlen (by simp [am_ln])] at hd
    exact am_s_lsub hk hd h
  case lmul =>
    rw [am_len hlen (by simp [am_ln])] at hd
    exact am_s_lmul hk hd h
  case ldiv =>
    rw [am_len hlen (by simp [am_ln])] at hd
    exact am_s_ldiv hk hd h
  case lrem =>
    rw [am_len hlen (by simp [am_ln])] at hd
    exact am_s_lrem hk hd h
  case pop =>
    rw [am_len hlen (by simp [am_ln])] at hd
    exact am_s_pop hk hd h
  case pop2 =>
    rw [am_len hlen (by simp [am_ln])] at hd
    exact am_s_pop2 hk hd h
  case dup =>
    rw [am_len hlen (by simp [am_ln])] at hd
    exact am_s_dup hk hd h
  case dup2 =>
    rw [am_len hlen (by simp [am_ln])] at hd
    exact am_s_dup2 hk hd h
  case dup_x1 =>
    rw [am_len hlen (by simp [am_ln])] at hd
    exact am_s_dup_x1 hk hd h
  case goto o =>
    rw [am_len hlen (by simp [am_ln])] at hd
    obtain ⟨h0, h⟩ := am_brok (P := fun x => am_stp l L xs y Q K x lv st μ) h bad
    exact am_s_goto hk hd h0 h
  case ifCond cd o =>
    rw [am_len hlen (by simp [am_ln])] at hd
    obtain ⟨h0, h⟩ := am_brok (P := fun x => am_stp l L xs y Q K x lv st μ) h bad
    cases cd
    · exact am_s_if_eq hk hd h0 h
    · exact am_s_if_ne hk hd h0 h
    · exact am_s_if_lt hk hd h0 h
    · exact am_s_if_ge hk hd h0 h
    · exact am_s_if_gt hk hd h0 h
    · exact am_s_if_le hk hd h0 h
  case if_icmp cd o =>
    rw [am_len hlen (by simp [am_ln])] at hd
    obtain ⟨h0, h⟩ := am_brok (P := fun x => am_stp l L xs y Q K x lv st μ) h bad
    cases cd
    · exact am_s_icmp_eq hk hd h0 h
    · exact am_s_icmp_ne hk hd h0 h
    · exact am_s_icmp_lt hk hd h0 h
    · exact am_s_icmp_ge hk hd h0 h
    · exact am_s_icmp_gt hk hd h0 h
    · exact am_s_icmp_le hk hd h0 h
  case invokevirtual k =>
    rw [am_len hlen (by simp [am_ln])] at hd
    simp only [am_nrm] at h
    split at h
    · rename_i f hf
      split at h
      · rename_i hok
        simp only [am_okc, Bool.and_eq_true, decide_eq_true_eq, Bool.not_eq_true'] at hok
        exact am_s_invv hk hd (am_find hf) hok.1.1.1.1 hok.1.1.1.2 hok.1.1.2 hok.1.2 hok.2 h
      · exact (bad h).elim
    · exact (bad h).elim
  case invokestatic k =>
    rw [am_len hlen (by simp [am_ln])] at hd
    simp only [am_nrm] at h
    split at h
    · rename_i f hf
      split at h
      · rename_i hok
        simp only [am_okc, Bool.and_eq_true, decide_eq_true_eq, Nat.beq_eq] at hok
        exact am_s_invs hk hd (am_find hf) hok.1.1.1.1.1 hok.1.1.1.1.2 hok.1.1.1.2 hok.1.1.2 hok.1.2 hok.2 h
      · exact (bad h).elim
    · split at h
      · rename_i f hf
        split at h
        · rename_i hok
          simp only [Bool.and_eq_true, decide_eq_true_eq] at hok
          have hm := am_find hf
          match hq : f.2.2, hok.2 with
          | 0, _ =>
            rw [hq] at h hm
            exact am_s_mmax hok.1.1 hok.1.2 hk hd hm h
          | 1, _ =>
            rw [hq] at h hm
            exact am_s_mmin hok.1.1 hok.1.2 hk hd hm h
          | 2, _ =>
            rw [hq] at h hm
            exact am_s_mabs hok.1.1 hok.1.2 hk hd hm h
        · exact (bad h).elim
      · exact (bad h).elim
  case return_ =>
    rw [am_len hlen (by simp [am_ln])] at hd
    simp only [am_nrm] at h
    split at h
    · rename_i hr
      exact am_s_return hk hd hr h
    · exact (bad h).elim
  case ireturn =>
    rw [am_len hlen (by simp [am_ln])] at hd
    simp only [am_nrm] at h
    split at h
    · rename_i hr
      exact am_s_ireturn hk hd hr h
    · rename_i hr
      exact am_s_ireturnz hk hd hr h
    · exact (bad h).elim
  case lreturn =>
    rw [am_len hlen (by simp [am_ln])] at hd
    simp only [am_nrm] at h
    split at h
    · rename_i hr
      exact am_s_lreturn hk hd hr h
    · exact (bad h).elim
  case tableswitch d lo hi offs =>
    simp only [am_nrm] at h
    split at h
    · rename_i hok
      simp only [Bool.and_eq_true, decide_eq_true_eq, List.all_eq_true] at hok
      exact am_s_table hk hd hok.1.1 hok.1.2 hok.2 h
    · exact (bad h).elim
  case lookupswitch d ps =>
    simp only [am_nrm] at h
    split at h
    · rename_i hok
      rw [Bool.and_eq_true, Bool.and_eq_true, decide_eq_true_eq, List.all_eq_true] at hok
      exact am_s_lookup hk hd hok.1.1 (fun o ho => by simpa using hok.1.2 o ho) hok.2 h
    · exact (bad h).elim
  all_goals exact (bad h).elim
/-! from the machine's entry of a method to the abstract one; many steps in one condition -/
def am_sl (args : List am_V) : List (Option am_V) := args.flatMap (fun v => if am_cat v = 2 then [some v, none] else [some v])
def am_lv (n : Nat) (args : List am_V) : List (Option am_V) := am_sl args ++ List.replicate (n - (am_sl args).length) none
theorem am_sl_len (ad : Nat → Nat) (args : List am_V) : (lg_sl (args.map (am_rv ad))).length = (am_sl args).length := by
  induction args with
  | nil => rfl
  | cons v r ih =>
    unfold lg_sl am_sl at ih ⊢
    simp only [List.map_cons, List.flatMap_cons, List.length_append, ih, am_cat_rv]
    split <;> rfl
theorem am_sl_at (ad : Nat → Nat) : ∀ (args : List am_V) (k i : Nat) (v : am_V), (am_sl args)[i]? = some (some v) → (k + i, am_rv ad v) ∈ lv_args k (args.map (am_rv ad))
  | [], k, i, v, h => by simp [am_sl] at h
  | a :: r, k, i, v, h => by
    unfold am_sl at h
    simp only [List.map_cons, lv_args, am_cat_rv]
    rw [List.flatMap_cons] at h
    by_cases hc : am_cat a = 2
    · simp only [if_pos hc] at h ⊢
      match i, h with
      | 0, h =>
        have e : a = v := by simpa using h
        rw [e]; exact List.mem_cons_self
      | 1, h => simp at h
      | i + 2, h =>
        have q := am_sl_at ad r (k + 2) i v (by simpa [am_sl] using h)
        rw [show k + (i + 2) = k + 2 + i by omega]
        exact List.mem_cons_of_mem _ q
    · simp only [if_neg hc] at h ⊢
      match i, h with
      | 0, h =>
        have e : a = v := by simpa using h
        rw [e]; exact List.mem_cons_self
      | i + 1, h =>
        have q := am_sl_at ad r (k + 1) i v (by simpa [am_sl] using h)
        rw [show k + (i + 1) = k + 1 + i by omega]
        exact List.mem_cons_of_mem _ q
theorem am_ent {ad : Nat → Nat} {args : List am_V} {n : Nat} (hn : (am_sl args).length ≤ n) : am_L ((lg_sl (args.map (am_rv ad)) ++ List.replicate (n - (lg_sl (args.map (am_rv ad))).length) Slot.unset).toArray) n ad (am_lv n args) := by
  refine am_L.of (lv_entry (args.map (am_rv ad)) (n := n) (by rw [am_sl_len]; exact hn)) (by unfold am_lv; rw [List.length_append, List.length_replicate]; omega) fun i v hv => ?_
  unfold am_lv at hv
  by_cases hi : i < (am_sl args).length
  · rw [List.getElem?_append_left hi] at hv
    have q := am_sl_at ad args 0 i v hv
    rwa [Nat.zero_add] at q
  · rw [List.getElem?_append_right (by omega), List.getElem?_replicate] at hv
    split at hv <;> simp at hv
theorem am_Does_of {l : Launch} {y : Nat} {args : List am_V} {μ : am_N} {Q : Option am_V → am_N → Prop} (h0 : 0 < y) (h1 : y < am_ny) (hn : (am_sl args).length ≤ am_ml y) (h : am_AW l 0 (fun _ => 0) y Q 0 (am_lv (am_ml y) args) [] μ) : am_Does l y args μ Q := by
  intro D ad ca tys B0 hTY
  refine Met.ofW (cc := am_bt y) (maxL := am_ml y) (ret := am_re y) (am_md_pl h0 h1) rfl ?_
  intro p e s m aargs below meth c s₁ B hml hv
  obtain ⟨rfl, hB, hP, hK, hD⟩ := hv
  have hlocks := B.notSynchronized
  have hx := B.exec
  have hb := B.bytes
  have hr := B.returns
  have hts := atoms_spec (ws := am_w y) B.pre
  have hown : s.vm.findClass (am_md y).1.cls = some m.cls := findClass_of_methodNamed B.named
  rw [(am_md_ok h0 h1).1] at hown
  rw [lg_entry_eq]
  refine h p e (headSpec (am_w y) (am_rm y)).room s m _ below meth c D ad ca tys B0 0 0 _ ⟨hx, hb, hml, hown, fun w hw => hts w (List.mem_cons_of_mem _ hw), hK, hTY, hB, Nat.le_refl _, Nat.le_refl _, Nat.zero_le _, Nat.zero_le _, fun q => absurd q (by omega)⟩ ?_ s.heap [] _ (am_ent hn) hP hD va_S.rf
  intro r μ' H locs pc' ls hq hP hD hS hrt
  match r, hq, hrt with
  | none, hq, hrt => exact W.vret hx hb (hr.trans hrt.2) (fun t ht hW => ⟨⟨none, μ', rfl, hq, by rw [ht]; exact hP, hD⟩, hS.F ht⟩) hS.2.2 hrt.1 hlocks
  | some (.inl z), hq, hrt =>
    rcases hrt.2 with q | ⟨q, hz⟩
    · exact W.iret (v := Int32.ofInt z) hx hb (hr.trans q) (fun t ht hW => ⟨⟨some (.inl z), μ', rfl, hq, by rw [ht]; exact hP, hD⟩, hS.F ht⟩) hS.2.2 hrt.1 hlocks
    · exact W.zret (v := Int32.ofInt z) hx hb (hr.trans q) (am_nz hz) (fun t ht hW => ⟨⟨some (.inl z), μ', rfl, hq, by rw [ht]; exact hP, hD⟩, hS.F ht⟩) hS.2.2 hrt.1 hlocks
  | some (.inr (.inl z)), hq, hrt => exact W.lret (v := Int64.ofInt z) hx hb (hr.trans hrt.2) (fun t ht hW => ⟨⟨some (.inr (.inl z)), μ', rfl, hq, by rw [ht]; exact hP, hD⟩, hS.F ht⟩) hS.2.2 hrt.1 hlocks
theorem am_Does.mono {l : Launch} {y : Nat} {args : List am_V} {μ : am_N} {Q Q' : Option am_V → am_N → Prop} (h : am_Does l y args μ Q) (hq : ∀ r μ', Q r μ' → Q' r μ') : am_Does l y args μ Q' := by
  intro D ad ca tys B0 hTY p e ha hc hk s m args' below hf hfit hheap happ
  obtain ⟨t, o, h1, h2, h3, h4⟩ := h D ad ca tys B0 hTY p e ha hc hk s m args' below hf hfit hheap happ
  refine ⟨t, o, h1, h2, h3, ?_⟩
  obtain ⟨⟨⟨r, μ', e1, e2, e3⟩, e4⟩, e5⟩ := h4
  exact ⟨⟨⟨r, μ', e1, hq _ _ e2, e3⟩, e4⟩, e5⟩
def am_ok (y : Nat) (cd : Nat → am_I) : Prop := ∀ pc, (cd pc).2.1 = 99 ∨ am_chk y pc (cd pc) = true
theorem am_ok_of {y N : Nat} {cd' : Nat → am_I} (h : (List.range N).all (fun pc => Nat.beq (cd' pc).2.1 99 || am_chk y pc (cd' pc)) = true) : am_ok y (fun pc => bif Nat.blt pc N then cd' pc else am_bad) := by
  intro pc
  show (bif Nat.blt pc N then cd' pc else am_bad).2.1 = 99 ∨ am_chk y pc (bif Nat.blt pc N then cd' pc else am_bad) = true
  cases hb : Nat.blt pc N with
  | false => exact Or.inl rfl
  | true =>
    have hlt : pc < N := Nat.le_of_ble_eq_true hb
    have q := List.all_eq_true.mp h pc (List.mem_range.mpr hlt)
    rcases Bool.or_eq_true_iff.mp q with q | q
    · exact Or.inl (Nat.eq_of_beq_eq_true q)
    · exact Or.inr q
def am_wp (l : Launch) (L : Nat) (xs : Nat → Int) (y : Nat) (Q : Option am_V → am_N → Prop) (cd : Nat → am_I) (ct : Nat → Bool) : Nat → Nat → List (Option am_V) → List am_V → am_N → Prop
  | 0, pc, lv, st, μ => True ∧ am_AW l L xs y Q pc lv st μ
  | n + 1, pc, lv, st, μ => match ct pc with
    | true => True ∧ am_AW l L xs y Q pc lv st μ
    | false => am_stp l L xs y Q (am_wp l L xs y Q cd ct n) (cd pc) lv st μ
theorem am_99 {l : Launch} {L : Nat} {xs : Nat → Int} {y : Nat} {Q : Option am_V → am_N → Prop} {K : Nat → List (Option am_V) → List am_V → am_N → Prop} {lv : List (Option am_V)} {st : List am_V} {μ : am_N} {x : am_I} (hx : x.2.1 = 99) (h : am_stp l L xs y Q K x lv st μ) : False := by
  obtain ⟨nx, op, a, b, c, z, ts⟩ := x
  have e : op = 99 := hx
  subst e
  exact h
theorem am_wp_ok {l : Launch} {L : Nat} {xs : Nat → Int} {y : Nat} {Q : Option am_V → am_N → Prop} {cd : Nat → am_I} {ct : Nat → Bool} (hok : am_ok y cd) : ∀ (n pc : Nat) (lv : List (Option am_V)) (st : List am_V) (μ : am_N), am_wp l L xs y Q cd ct n pc lv st μ → am_AW l L xs y Q pc lv st μ
  | 0, _, _, _, _, h => h.2
  | n + 1, pc, lv, st, μ, h => by
    unfold am_wp at h
    cases hc : ct pc with
    | true => rw [hc] at h; exact h.2
    | false =>
      rw [hc] at h
      rcases hok pc with q | q
      · exact (am_99 q h).elim
      · exact am_stp_ok (fun pc lv st μ hk => am_wp_ok hok n pc lv st μ hk) q h
/-- from here on, by at most n steps, stopping where ct says so (not at the first) -/
theorem am_go {l : Launch} {L : Nat} {xs : Nat → Int} {y : Nat} {Q : Option am_V → am_N → Prop} {cd : Nat → am_I} {ct : Nat → Bool} {pc : Nat} {lv : List (Option am_V)} {st : List am_V} {μ : am_N} (hok : am_ok y cd) (n : Nat) (h : am_stp l L xs y Q (am_wp l L xs y Q cd ct n) (cd pc) lv st μ) : am_AW l L xs y Q pc lv st μ := by
  rcases hok pc with q | q
  · exact (am_99 q h).elim
  · exact am_stp_ok (fun pc lv st μ hk => am_wp_ok hok n pc lv st μ hk) q h
/-- what is known of Q may grow -/
theorem am_AW.mono {l : Launch} {L : Nat} {xs : Nat → Int} {y : Nat} {Q Q' : Option am_V → am_N → Prop} {pc : Nat} {lv : List (Option am_V)} {st : List am_V} {μ : am_N} (h : am_AW l L xs y Q pc lv st μ) (hq : ∀ r μ', Q r μ' → Q' r μ') : am_AW l L xs y Q' pc lv st μ :=
  fun p e R s m args below meth c D ad ca tys B0 cells slots Qf E hret => h p e R s m args below meth c D ad ca tys B0 cells slots Qf E (fun r μ' H locs pc' ls hr => hret r μ' H locs pc' ls (hq _ _ hr))
/-! a quick decoder, and that it tells what the machine reads -/
theorem rl_b {α β : Type} (r : Decoder α) (f : α → Decoder β) (B : ByteArray) (p : Nat) : (r >>= f : Decoder β) B p = Except.bind (r B p) (fun v => f v.1 B v.2) := by
  first
    | rfl
    | (show Except.bind (r B p) _ = _; cases r B p <;> rfl)
theorem rl_m {α β : Type} (g : α → β) (r : Decoder α) (B : ByteArray) (p : Nat) : (g <$> r : Decoder β) B p = Except.bind (r B p) (fun v => .ok (g v.1, v.2)) := by
  first
    | rfl
    | (show Except.bind (r B p) _ = _; cases r B p <;> rfl)
    | (cases h : r B p with
       | error e => (simp only [Functor.map, ReaderT.bind, StateT.map, bind, Except.bind, h]; done)
       | ok v => (simp only [Functor.map, ReaderT.bind, StateT.map, bind, Except.bind, h]; rfl))
theorem rl_u (B : ByteArray) (p : Nat) : (Reader.u1 : Decoder Nat) B p = if h : p < B.size then .ok ((B[p]'h).toNat, p + 1) else .error (HasTruncated.truncated p) := by
  by_cases h : p < B.size
  · rw [dif_pos h]
    first
      | (show (dite (p < B.size) _ _ : Decoder Nat) B p = _; rw [dif_pos h]; rfl)
      | (unfold Reader.u1; simp only [bind, ReaderT.bind, StateT.bind, Except.bind, read, readThe, MonadReaderOf.read, ReaderT.read, get, getThe, MonadStateOf.get, StateT.get, liftM, monadLift, MonadLift.monadLift, pure, StateT.pure, Except.pure, ReaderT.pure]; rw [dif_pos h]; rfl)
  · rw [dif_neg h]
    first
      | (show (dite (p < B.size) _ _ : Decoder Nat) B p = _; rw [dif_neg h]; rfl)
      | (unfold Reader.u1; simp only [bind, ReaderT.bind, StateT.bind, Except.bind, read, readThe, MonadReaderOf.read, ReaderT.read, get, getThe, MonadStateOf.get, StateT.get, liftM, monadLift, MonadLift.monadLift, pure, StateT.pure, Except.pure, ReaderT.pure]; rw [dif_neg h]; rfl)
theorem fr_t {l : List UInt8} {p : Nat} {x : UInt8} {r : List UInt8} (h : l.drop p = x :: r) : l.drop (p + 1) = r := by
  have hp : p < l.length := by
    by_cases q : p < l.length
    · exact q
    · rw [List.drop_eq_nil_of_le (by omega)] at h
      cases h
  rw [List.drop_eq_getElem_cons hp] at h
  exact (List.cons.inj h).2
theorem fr_u {B : ByteArray} {p : Nat} {x : UInt8} {r : List UInt8} (h : B.data.toList.drop p = x :: r) : (Reader.u1 : Decoder Nat) B p = .ok (x.toNat, p + 1) := by
  obtain ⟨⟨b⟩⟩ := B
  have h : b.drop p = x :: r := h
  have hp : p < b.length := by
    by_cases q : p < b.length
    · exact q
    · rw [List.drop_eq_nil_of_le (by omega)] at h
      cases h
  have hs : p < (ByteArray.mk ⟨b⟩).size := hp
  rw [rl_u, dif_pos hs]
  rw [List.drop_eq_getElem_cons hp] at h
  have e : b[p]'hp = x := (List.cons.inj h).1
  show Except.ok ((b[p]'hp).toNat, p + 1) = Except.ok (x.toNat, p + 1)
  rw [e]
theorem fr_b {α β : Type} {r : Decoder α} {f : α → Decoder β} {B : ByteArray} {p : Nat} {v : α} {q : Nat} (h : r B p = .ok (v, q)) : (r >>= f : Decoder β) B p = f v B q := by
  rw [rl_b, h]
  rfl
theorem fr_m {α β : Type} {g : α → β} {r : Decoder α} {B : ByteArray} {p : Nat} {v : α} {q : Nat} (h : r B p = .ok (v, q)) : (g <$> r : Decoder β) B p = .ok (g v, q) := by
  rw [rl_m, h]
  rfl
theorem fr_u2 {B : ByteArray} {p : Nat} {y z : UInt8} {r : List UInt8} (h : B.data.toList.drop p = y :: z :: r) : (Reader.u2 : Decoder Nat) B p = .ok (y.toNat * 256 + z.toNat, p + 1 + 1) := by
  show (Reader.u1 >>= fun hi => Reader.u1 >>= fun lo => pure (hi * 256 + lo) : Decoder Nat) B p = _
  rw [fr_b (fr_u h), fr_b (fr_u (fr_t h))]
  rfl
def fs_0 (i : Instr) (_ : List UInt8) : Option (Instr × Nat) := some (i, 1)
def fs_1 (g : Nat → Instr) (r : List UInt8) : Option (Instr × Nat) := match r with
  | y :: _ => some (g y.toNat, 2)
  | [] => none
def fs_2 (g : Nat → Instr) (r : List UInt8) : Option (Instr × Nat) := match r with
  | y :: z :: _ => some (g (y.toNat * 256 + z.toNat), 3)
  | _ => none
def fs_s1 (g : Int → Instr) (r : List UInt8) : Option (Instr × Nat) := match r with
  | y :: _ => some (g (Reader.signed 8 y.toNat), 2)
  | [] => none
def fs_s2 (g : Int → Instr) (r : List UInt8) : Option (Instr × Nat) := match r with
  | y :: z :: _ => some (g (Reader.signed 16 (y.toNat * 256 + z.toNat)), 3)
  | _ => none
def fs_i (r : List UInt8) : Option (Instr × Nat) := match r with
  | y :: z :: _ => some (.iinc y.toNat (Reader.signed 8 z.toNat), 3)
  | _ => none
theorem fg_1 {g : Nat → Instr} {B : ByteArray} {p : Nat} {y : UInt8} {r : List UInt8} (h : B.data.toList.drop p = y :: r) : (Reader.u1 >>= fun a => pure (g a) : Decoder Instr) B p = .ok (g y.toNat, p + 1) := by
  rw [fr_b (fr_u h)]
  rfl
theorem fg_2 {g : Nat → Instr} {B : ByteArray} {p : Nat} {y z : UInt8} {r : List UInt8} (h : B.data.toList.drop p = y :: z :: r) : (Reader.u2 >>= fun a => pure (g a) : Decoder Instr) B p = .ok (g (y.toNat * 256 + z.toNat), p + 1 + 1) := by
  rw [fr_b (fr_u2 h)]
  rfl
theorem fg_s1 {g : Int → Instr} {B : ByteArray} {p : Nat} {y : UInt8} {r : List UInt8} (h : B.data.toList.drop p = y :: r) : (Reader.s1 >>= fun a => pure (g a) : Decoder Instr) B p = .ok (g (Reader.signed 8 y.toNat), p + 1) := by
  rw [fr_b (show (Reader.s1 : Decoder Int) B p = .ok (Reader.signed 8 y.toNat, p + 1) from fr_m (fr_u h))]
  rfl
theorem fg_s2 {g : Int → Instr} {B : ByteArray} {p : Nat} {y z : UInt8} {r : List UInt8} (h : B.data.toList.drop p = y :: z :: r) : (Reader.s2 >>= fun a => pure (g a) : Decoder Instr) B p = .ok (g (Reader.signed 16 (y.toNat * 256 + z.toNat)), p + 1 + 1) := by
  rw [fr_b (show (Reader.s2 : Decoder Int) B p = .ok (Reader.signed 16 (y.toNat * 256 + z.toNat), p + 1 + 1) from fr_m (fr_u2 h))]
  rfl
theorem fg_i {B : ByteArray} {p : Nat} {y z : UInt8} {r : List UInt8} (h : B.data.toList.drop p = y :: z :: r) : (Reader.u1 >>= fun a => Reader.s1 >>= fun b => pure (.iinc a b) : Decoder Instr) B p = .ok (.iinc y.toNat (Reader.signed 8 z.toNat), p + 1 + 1) := by
  rw [fr_b (fr_u h), fr_b (show (Reader.s1 : Decoder Int) B (p + 1) = .ok (Reader.signed 8 z.toNat, p + 1 + 1) from fr_m (fr_u (fr_t h)))]
  rfl
theorem fd_if {α : Type} {b : Bool} {u v : Option α} {w : α} (h : (bif b then u else v) = some w) : (b = true ∧ u = some w) ∨ v = some w := by
  cases b
  · exact Or.inr h
  · exact Or.inl ⟨rfl, h⟩
theorem fk_42 {B : ByteArray} {pc p : Nat} {x : UInt8} {r : List UInt8} {w : Instr × Nat} (h : B.data.toList.drop p = x :: r) (e : Nat.beq x.toNat 42 = true) (hw : fs_0 (.aload_n 0) r = some w) : Decoder.instr pc B p = .ok (w.1, p + w.2) := by
  have a := fr_u h
  rw [Nat.eq_of_beq_eq_true e] at a
  obtain rfl := Option.some.inj hw
  exact (fr_b a).trans rfl
theorem fk_180 {B : ByteArray} {pc p : Nat} {x : UInt8} {r : List UInt8} {w : Instr × Nat} (h : B.data.toList.drop p = x :: r) (e : Nat.beq x.toNat 180 = true) (hw : fs_2 .getfield r = some w) : Decoder.instr pc B p = .ok (w.1, p + w.2) := by
  have a := fr_u h
  rw [Nat.eq_of_beq_eq_true e] at a
  cases r with
  | nil => cases hw
  | cons y r => cases r with
    | nil => cases hw
    | cons z r =>
      obtain rfl := Option.some.inj hw
      exact (fr_b a).trans (fg_2 (g := .getfield) (fr_t h))
theorem fk_182 {B : ByteArray} {pc p : Nat} {x : UInt8} {r : List UInt8} {w : Instr × Nat} (h : B.data.toList.drop p = x :: r) (e : Nat.beq x.toNat 182 = true) (hw : fs_2 .invokevirtual r = some w) : Decoder.instr pc B p = .ok (w.1, p + w.2) := by
  have a := fr_u h
  rw [Nat.eq_of_beq_eq_true e] at a
  cases r with
  | nil => cases hw
  | cons y r => cases r with
    | nil => cases hw
    | cons z r =>
      obtain rfl := Option.some.inj hw
      exact (fr_b a).trans (fg_2 (g := .invokevirtual) (fr_t h))
theorem fk_27 {B : ByteArray} {pc p : Nat} {x : UInt8} {r : List UInt8} {w : Instr × Nat} (h : B.data.toList.drop p = x :: r) (e : Nat.beq x.toNat 27 = true) (hw : fs_0 (.iload_n 1) r = some w) : Decoder.instr pc B p = .ok (w.1, p + w.2) := by
  have a := fr_u h
  rw [Nat.eq_of_beq_eq_true e] at a
  obtain rfl := Option.some.inj hw
  exact (fr_b a).trans rfl
theorem fk_28 {B : ByteArray} {pc p : Nat} {x : UInt8} {r : List UInt8} {w : Instr × Nat} (h : B.data.toList.drop p = x :: r) (e : Nat.beq x.toNat 28 = true) (hw : fs_0 (.iload_n 2) r = some w) : Decoder.instr pc B p = .ok (w.1, p + w.2) := by
  have a := fr_u h
  rw [Nat.eq_of_beq_eq_true e] at a
  obtain rfl := Option.some.inj hw
  exact (fr_b a).trans rfl
theorem fk_172 {B : ByteArray} {pc p : Nat} {x : UInt8} {r : List UInt8} {w : Instr × Nat} (h : B.data.toList.drop p = x :: r) (e : Nat.beq x.toNat 172 = true) (hw : fs_0 (.ireturn) r = some w) : Decoder.instr pc B p = .ok (w.1, p + w.2) := by
  have a := fr_u h
  rw [Nat.eq_of_beq_eq_true e] at a
  obtain rfl := Option.some.inj hw
  exact (fr_b a).trans rfl
theorem fk_21 {B : ByteArray} {pc p : Nat} {x : UInt8} {r : List UInt8} {w : Instr × Nat} (h : B.data.toList.drop p = x :: r) (e : Nat.beq x.toNat 21 = true) (hw : fs_1 .iload r = some w) : Decoder.instr pc B p = .ok (w.1, p + w.2) := by
  have a := fr_u h
  rw [Nat.eq_of_beq_eq_true e] at a
  cases r with
  | nil => cases hw
  | cons y r =>
    obtain rfl := Option.some.inj hw
    exact (fr_b a).trans (fg_1 (g := .iload) (fr_t h))
theorem fk_29 {B : ByteArray} {pc p : Nat} {x : UInt8} {r : List UInt8} {w : Instr × Nat} (h : B.data.toList.drop p = x :: r) (e : Nat.beq x.toNat 29 = true) (hw : fs_0 (.iload_n 3) r = some w) : Decoder.instr pc B p = .ok (w.1, p + w.2) := by
  have a := fr_u h
  rw [Nat.eq_of_beq_eq_true e] at a
  obtain rfl := Option.some.inj hw
  exact (fr_b a).trans rfl
theorem fk_167 {B : ByteArray} {pc p : Nat} {x : UInt8} {r : List UInt8} {w : Instr × Nat} (h : B.data.toList.drop p = x :: r) (e : Nat.beq x.toNat 167 = true) (hw : fs_s2 .goto r = some w) : Decoder.instr pc B p = .ok (w.1, p + w.2) := by
  have a := fr_u h
  rw [Nat.eq_of_beq_eq_true e] at a
  cases r with
  | nil => cases hw
  | cons y r => cases r with
    | nil => cases hw
    | cons z r =>
      obtain rfl := Option.some.inj hw
      exact (fr_b a).trans (fg_s2 (g := .goto) (fr_t h))
theorem fk_4 {B : ByteArray} {pc p : Nat} {x : UInt8} {r : List UInt8} {w : Instr × Nat} (h : B.data.toList.drop p = x :: r) (e : Nat.beq x.toNat 4 = true) (hw : fs_0 (.iconst 1) r = some w) : Decoder.instr pc B p = .ok (w.1, p + w.2) := by
  have a := fr_u h
  rw [Nat.eq_of_beq_eq_true e] at a
  obtain rfl := Option.some.inj hw
  exact (fr_b a).trans rfl
theorem fk_3 {B : ByteArray} {pc p : Nat} {x : UInt8} {r : List UInt8} {w : Instr × Nat} (h : B.data.toList.drop p = x :: r) (e : Nat.beq x.toNat 3 = true) (hw : fs_0 (.iconst 0) r = some w) : Decoder.instr pc B p = .ok (w.1, p + w.2) := by
  have a := fr_u h
  rw [Nat.eq_of_beq_eq_true e] at a
  obtain rfl := Option.some.inj hw
  exact (fr_b a).trans rfl
theorem fk_46 {B : ByteArray} {pc p : Nat} {x : UInt8} {r : List UInt8} {w : Instr × Nat} (h : B.data.toList.drop p = x :: r) (e : Nat.beq x.toNat 46 = true) (hw : fs_0 (.iaload) r = some w) : Decoder.instr pc B p = .ok (w.1, p + w.2) := by
  have a := fr_u h
  rw [Nat.eq_of_beq_eq_true e] at a
  obtain rfl := Option.some.inj hw
  exact (fr_b a).trans rfl
theorem fk_16 {B : ByteArray} {pc p : Nat} {x : UInt8} {r : List UInt8} {w : Instr × Nat} (h : B.data.toList.drop p = x :: r) (e : Nat.beq x.toNat 16 = true) (hw : fs_s1 .bipush r = some w) : Decoder.instr pc B p = .ok (w.1, p + w.2) := by
  have a := fr_u h
  rw [Nat.eq_of_beq_eq_true e] at a
  cases r with
  | nil => cases hw
  | cons y r =>
    obtain rfl := Option.some.inj hw
    exact (fr_b a).trans (fg_s1 (g := .bipush) (fr_t h))
theorem fk_96 {B : ByteArray} {pc p : Nat} {x : UInt8} {r : List UInt8} {w : Instr × Nat} (h : B.data.toList.drop p = x :: r) (e : Nat.beq x.toNat 96 = true) (hw : fs_0 (.iadd) r = some w) : Decoder.instr pc B p = .ok (w.1, p + w.2) := by
  have a := fr_u h
  rw [Nat.eq_of_beq_eq_true e] at a
  obtain rfl := Option.some.inj hw
  exact (fr_b a).trans rfl
theorem fk_54 {B : ByteArray} {pc p : Nat} {x : UInt8} {r : List UInt8} {w : Instr × Nat} (h : B.data.toList.drop p = x :: r) (e : Nat.beq x.toNat 54 = true) (hw : fs_1 .istore r = some w) : Decoder.instr pc B p = .ok (w.1, p + w.2) := by
  have a := fr_u h
  rw [Nat.eq_of_beq_eq_true e] at a
  cases r with
  | nil => cases hw
  | cons y r =>
    obtain rfl := Option.some.inj hw
    exact (fr_b a).trans (fg_1 (g := .istore) (fr_t h))
theorem fk_181 {B : ByteArray} {pc p : Nat} {x : UInt8} {r : List UInt8} {w : Instr × Nat} (h : B.data.toList.drop p = x :: r) (e : Nat.beq x.toNat 181 = true) (hw : fs_2 .putfield r = some w) : Decoder.instr pc B p = .ok (w.1, p + w.2) := by
  have a := fr_u h
  rw [Nat.eq_of_beq_eq_true e] at a
  cases r with
  | nil => cases hw
  | cons y r => cases r with
    | nil => cases hw
    | cons z r =>
      obtain rfl := Option.some.inj hw
      exact (fr_b a).trans (fg_2 (g := .putfield) (fr_t h))
theorem fk_162 {B : ByteArray} {pc p : Nat} {x : UInt8} {r : List UInt8} {w : Instr × Nat} (h : B.data.toList.drop p = x :: r) (e : Nat.beq x.toNat 162 = true) (hw : fs_s2 (.if_icmp .ge) r = some w) : Decoder.instr pc B p = .ok (w.1, p + w.2) := by
  have a := fr_u h
  rw [Nat.eq_of_beq_eq_true e] at a
  cases r with
  | nil => cases hw
  | cons y r => cases r with
    | nil => cases hw
    | cons z r =>
      obtain rfl := Option.some.inj hw
      exact (fr_b a).trans (fg_s2 (g := (.if_icmp .ge)) (fr_t h))
theorem fk_154 {B : ByteArray} {pc p : Nat} {x : UInt8} {r : List UInt8} {w : Instr × Nat} (h : B.data.toList.drop p = x :: r) (e : Nat.beq x.toNat 154 = true) (hw : fs_s2 (.ifCond .ne) r = some w) : Decoder.instr pc B p = .ok (w.1, p + w.2) := by
  have a := fr_u h
  rw [Nat.eq_of_beq_eq_true e] at a
  cases r with
  | nil => cases hw
  | cons y r => cases r with
    | nil => cases hw
    | cons z r =>
      obtain rfl := Option.some.inj hw
      exact (fr_b a).trans (fg_s2 (g := (.ifCond .ne)) (fr_t h))
theorem fk_132 {B : ByteArray} {pc p : Nat} {x : UInt8} {r : List UInt8} {w : Instr × Nat} (h : B.data.toList.drop p = x :: r) (e : Nat.beq x.toNat 132 = true) (hw : fs_i r = some w) : Decoder.instr pc B p = .ok (w.1, p + w.2) := by
  have a := fr_u h
  rw [Nat.eq_of_beq_eq_true e] at a
  cases r with
  | nil => cases hw
  | cons y r => cases r with
    | nil => cases hw
    | cons z r =>
      obtain rfl := Option.some.inj hw
      exact (fr_b a).trans (fg_i (fr_t h))
theorem fk_79 {B : ByteArray} {pc p : Nat} {x : UInt8} {r : List UInt8} {w : Instr × Nat} (h : B.data.toList.drop p = x :: r) (e : Nat.beq x.toNat 79 = true) (hw : fs_0 (.iastore) r = some w) : Decoder.instr pc B p = .ok (w.1, p + w.2) := by
  have a := fr_u h
  rw [Nat.eq_of_beq_eq_true e] at a
  obtain rfl := Option.some.inj hw
  exact (fr_b a).trans rfl
theorem fk_43 {B : ByteArray} {pc p : Nat} {x : UInt8} {r : List UInt8} {w : Instr × Nat} (h : B.data.toList.drop p = x :: r) (e : Nat.beq x.toNat 43 = true) (hw : fs_0 (.aload_n 1) r = some w) : Decoder.instr pc B p = .ok (w.1, p + w.2) := by
  have a := fr_u h
  rw [Nat.eq_of_beq_eq_true e] at a
  obtain rfl := Option.some.inj hw
  exact (fr_b a).trans rfl
theorem fk_5 {B : ByteArray} {pc p : Nat} {x : UInt8} {r : List UInt8} {w : Instr × Nat} (h : B.data.toList.drop p = x :: r) (e : Nat.beq x.toNat 5 = true) (hw : fs_0 (.iconst 2) r = some w) : Decoder.instr pc B p = .ok (w.1, p + w.2) := by
  have a := fr_u h
  rw [Nat.eq_of_beq_eq_true e] at a
  obtain rfl := Option.some.inj hw
  exact (fr_b a).trans rfl
theorem fk_61 {B : ByteArray} {pc p : Nat} {x : UInt8} {r : List UInt8} {w : Instr × Nat} (h : B.data.toList.drop p = x :: r) (e : Nat.beq x.toNat 61 = true) (hw : fs_0 (.istore_n 2) r = some w) : Decoder.instr pc B p = .ok (w.1, p + w.2) := by
  have a := fr_u h
  rw [Nat.eq_of_beq_eq_true e] at a
  obtain rfl := Option.some.inj hw
  exact (fr_b a).trans rfl
theorem fk_184 {B : ByteArray} {pc p : Nat} {x : UInt8} {r : List UInt8} {w : Instr × Nat} (h : B.data.toList.drop p = x :: r) (e : Nat.beq x.toNat 184 = true) (hw : fs_2 .invokestatic r = some w) : Decoder.instr pc B p = .ok (w.1, p + w.2) := by
  have a := fr_u h
  rw [Nat.eq_of_beq_eq_true e] at a
  cases r with
  | nil => cases hw
  | cons y r => cases r with
    | nil => cases hw
    | cons z r =>
      obtain rfl := Option.some.inj hw
      exact (fr_b a).trans (fg_2 (g := .invokestatic) (fr_t h))
theorem fk_153 {B : ByteArray} {pc p : Nat} {x : UInt8} {r : List UInt8} {w : Instr × Nat} (h : B.data.toList.drop p = x :: r) (e : Nat.beq x.toNat 153 = true) (hw : fs_s2 (.ifCond .eq) r = some w) : Decoder.instr pc B p = .ok (w.1, p + w.2) := by
  have a := fr_u h
  rw [Nat.eq_of_beq_eq_true e] at a
  cases r with
  | nil => cases hw
  | cons y r => cases r with
    | nil => cases hw
    | cons z r =>
      obtain rfl := Option.some.inj hw
      exact (fr_b a).trans (fg_s2 (g := (.ifCond .eq)) (fr_t h))
theorem fk_87 {B : ByteArray} {pc p : Nat} {x : UInt8} {r : List UInt8} {w : Instr × Nat} (h : B.data.toList.drop p = x :: r) (e : Nat.beq x.toNat 87 = true) (hw : fs_0 (.pop) r = some w) : Decoder.instr pc B p = .ok (w.1, p + w.2) := by
  have a := fr_u h
  rw [Nat.eq_of_beq_eq_true e] at a
  obtain rfl := Option.some.inj hw
  exact (fr_b a).trans rfl
theorem fk_60 {B : ByteArray} {pc p : Nat} {x : UInt8} {r : List UInt8} {w : Instr × Nat} (h : B.data.toList.drop p = x :: r) (e : Nat.beq x.toNat 60 = true) (hw : fs_0 (.istore_n 1) r = some w) : Decoder.instr pc B p = .ok (w.1, p + w.2) := by
  have a := fr_u h
  rw [Nat.eq_of_beq_eq_true e] at a
  obtain rfl := Option.some.inj hw
  exact (fr_b a).trans rfl
theorem fk_7 {B : ByteArray} {pc p : Nat} {x : UInt8} {r : List UInt8} {w : Instr × Nat} (h : B.data.toList.drop p = x :: r) (e : Nat.beq x.toNat 7 = true) (hw : fs_0 (.iconst 4) r = some w) : Decoder.instr pc B p = .ok (w.1, p + w.2) := by
  have a := fr_u h
  rw [Nat.eq_of_beq_eq_true e] at a
  obtain rfl := Option.some.inj hw
  exact (fr_b a).trans rfl
theorem fk_100 {B : ByteArray} {pc p : Nat} {x : UInt8} {r : List UInt8} {w : Instr × Nat} (h : B.data.toList.drop p = x :: r) (e : Nat.beq x.toNat 100 = true) (hw : fs_0 (.isub) r = some w) : Decoder.instr pc B p = .ok (w.1, p + w.2) := by
  have a := fr_u h
  rw [Nat.eq_of_beq_eq_true e] at a
  obtain rfl := Option.some.inj hw
  exact (fr_b a).trans rfl
theorem fk_160 {B : ByteArray} {pc p : Nat} {x : UInt8} {r : List UInt8} {w : Instr × Nat} (h : B.data.toList.drop p = x :: r) (e : Nat.beq x.toNat 160 = true) (hw : fs_s2 (.if_icmp .ne) r = some w) : Decoder.instr pc B p = .ok (w.1, p + w.2) := by
  have a := fr_u h
  rw [Nat.eq_of_beq_eq_true e] at a
  cases r with
  | nil => cases hw
  | cons y r => cases r with
    | nil => cases hw
    | cons z r =>
      obtain rfl := Option.some.inj hw
      exact (fr_b a).trans (fg_s2 (g := (.if_icmp .ne)) (fr_t h))
theorem fk_44 {B : ByteArray} {pc p : Nat} {x : UInt8} {r : List UInt8} {w : Instr × Nat} (h : B.data.toList.drop p = x :: r) (e : Nat.beq x.toNat 44 = true) (hw : fs_0 (.aload_n 2) r = some w) : Decoder.instr pc B p = .ok (w.1, p + w.2) := by
  have a := fr_u h
  rw [Nat.eq_of_beq_eq_true e] at a
  obtain rfl := Option.some.inj hw
  exact (fr_b a).trans rfl
theorem fk_2 {B : ByteArray} {pc p : Nat} {x : UInt8} {r : List UInt8} {w : Instr × Nat} (h : B.data.toList.drop p = x :: r) (e : Nat.beq x.toNat 2 = true) (hw : fs_0 (.iconst (-1)) r = some w) : Decoder.instr pc B p = .ok (w.1, p + w.2) := by
  have a := fr_u h
  rw [Nat.eq_of_beq_eq_true e] at a
  obtain rfl := Option.some.inj hw
  exact (fr_b a).trans rfl
theorem fk_104 {B : ByteArray} {pc p : Nat} {x : UInt8} {r : List UInt8} {w : Instr × Nat} (h : B.data.toList.drop p = x :: r) (e : Nat.beq x.toNat 104 = true) (hw : fs_0 (.imul) r = some w) : Decoder.instr pc B p = .ok (w.1, p + w.2) := by
  have a := fr_u h
  rw [Nat.eq_of_beq_eq_true e] at a
  obtain rfl := Option.some.inj hw
  exact (fr_b a).trans rfl
theorem fk_59 {B : ByteArray} {pc p : Nat} {x : UInt8} {r : List UInt8} {w : Instr × Nat} (h : B.data.toList.drop p = x :: r) (e : Nat.beq x.toNat 59 = true) (hw : fs_0 (.istore_n 0) r = some w) : Decoder.instr pc B p = .ok (w.1, p + w.2) := by
  have a := fr_u h
  rw [Nat.eq_of_beq_eq_true e] at a
  obtain rfl := Option.some.inj hw
  exact (fr_b a).trans rfl
theorem fk_6 {B : ByteArray} {pc p : Nat} {x : UInt8} {r : List UInt8} {w : Instr × Nat} (h : B.data.toList.drop p = x :: r) (e : Nat.beq x.toNat 6 = true) (hw : fs_0 (.iconst 3) r = some w) : Decoder.instr pc B p = .ok (w.1, p + w.2) := by
  have a := fr_u h
  rw [Nat.eq_of_beq_eq_true e] at a
  obtain rfl := Option.some.inj hw
  exact (fr_b a).trans rfl
theorem fk_89 {B : ByteArray} {pc p : Nat} {x : UInt8} {r : List UInt8} {w : Instr × Nat} (h : B.data.toList.drop p = x :: r) (e : Nat.beq x.toNat 89 = true) (hw : fs_0 (.dup) r = some w) : Decoder.instr pc B p = .ok (w.1, p + w.2) := by
  have a := fr_u h
  rw [Nat.eq_of_beq_eq_true e] at a
  obtain rfl := Option.some.inj hw
  exact (fr_b a).trans rfl
theorem fk_177 {B : ByteArray} {pc p : Nat} {x : UInt8} {r : List UInt8} {w : Instr × Nat} (h : B.data.toList.drop p = x :: r) (e : Nat.beq x.toNat 177 = true) (hw : fs_0 (.return_) r = some w) : Decoder.instr pc B p = .ok (w.1, p + w.2) := by
  have a := fr_u h
  rw [Nat.eq_of_beq_eq_true e] at a
  obtain rfl := Option.some.inj hw
  exact (fr_b a).trans rfl
theorem fk_159 {B : ByteArray} {pc p : Nat} {x : UInt8} {r : List UInt8} {w : Instr × Nat} (h : B.data.toList.drop p = x :: r) (e : Nat.beq x.toNat 159 = true) (hw : fs_s2 (.if_icmp .eq) r = some w) : Decoder.instr pc B p = .ok (w.1, p + w.2) := by
  have a := fr_u h
  rw [Nat.eq_of_beq_eq_true e] at a
  cases r with
  | nil => cases hw
  | cons y r => cases r with
    | nil => cases hw
    | cons z r =>
      obtain rfl := Option.some.inj hw
      exact (fr_b a).trans (fg_s2 (g := (.if_icmp .eq)) (fr_t h))
theorem fk_164 {B : ByteArray} {pc p : Nat} {x : UInt8} {r : List UInt8} {w : Instr × Nat} (h : B.data.toList.drop p = x :: r) (e : Nat.beq x.toNat 164 = true) (hw : fs_s2 (.if_icmp .le) r = some w) : Decoder.instr pc B p = .ok (w.1, p + w.2) := by
  have a := fr_u h
  rw [Nat.eq_of_beq_eq_true e] at a
  cases r with
  | nil => cases hw
  | cons y r => cases r with
    | nil => cases hw
    | cons z r =>
      obtain rfl := Option.some.inj hw
      exact (fr_b a).trans (fg_s2 (g := (.if_icmp .le)) (fr_t h))
theorem fk_173 {B : ByteArray} {pc p : Nat} {x : UInt8} {r : List UInt8} {w : Instr × Nat} (h : B.data.toList.drop p = x :: r) (e : Nat.beq x.toNat 173 = true) (hw : fs_0 (.lreturn) r = some w) : Decoder.instr pc B p = .ok (w.1, p + w.2) := by
  have a := fr_u h
  rw [Nat.eq_of_beq_eq_true e] at a
  obtain rfl := Option.some.inj hw
  exact (fr_b a).trans rfl
theorem fk_161 {B : ByteArray} {pc p : Nat} {x : UInt8} {r : List UInt8} {w : Instr × Nat} (h : B.data.toList.drop p = x :: r) (e : Nat.beq x.toNat 161 = true) (hw : fs_s2 (.if_icmp .lt) r = some w) : Decoder.instr pc B p = .ok (w.1, p + w.2) := by
  have a := fr_u h
  rw [Nat.eq_of_beq_eq_true e] at a
  cases r with
  | nil => cases hw
  | cons y r => cases r with
    | nil => cases hw
    | cons z r =>
      obtain rfl := Option.some.inj hw
      exact (fr_b a).trans (fg_s2 (g := (.if_icmp .lt)) (fr_t h))
theorem fk_163 {B : ByteArray} {pc p : Nat} {x : UInt8} {r : List UInt8} {w : Instr × Nat} (h : B.data.toList.drop p = x :: r) (e : Nat.beq x.toNat 163 = true) (hw : fs_s2 (.if_icmp .gt) r = some w) : Decoder.instr pc B p = .ok (w.1, p + w.2) := by
  have a := fr_u h
  rw [Nat.eq_of_beq_eq_true e] at a
  cases r with
  | nil => cases hw
  | cons y r => cases r with
    | nil => cases hw
    | cons z r =>
      obtain rfl := Option.some.inj hw
      exact (fr_b a).trans (fg_s2 (g := (.if_icmp .gt)) (fr_t h))
theorem fk_155 {B : ByteArray} {pc p : Nat} {x : UInt8} {r : List UInt8} {w : Instr × Nat} (h : B.data.toList.drop p = x :: r) (e : Nat.beq x.toNat 155 = true) (hw : fs_s2 (.ifCond .lt) r = some w) : Decoder.instr pc B p = .ok (w.1, p + w.2) := by
  have a := fr_u h
  rw [Nat.eq_of_beq_eq_true e] at a
  cases r with
  | nil => cases hw
  | cons y r => cases r with
    | nil => cases hw
    | cons z r =>
      obtain rfl := Option.some.inj hw
      exact (fr_b a).trans (fg_s2 (g := (.ifCond .lt)) (fr_t h))
theorem fk_108 {B : ByteArray} {pc p : Nat} {x : UInt8} {r : List UInt8} {w : Instr × Nat} (h : B.data.toList.drop p = x :: r) (e : Nat.beq x.toNat 108 = true) (hw : fs_0 (.idiv) r = some w) : Decoder.instr pc B p = .ok (w.1, p + w.2) := by
  have a := fr_u h
  rw [Nat.eq_of_beq_eq_true e] at a
  obtain rfl := Option.some.inj hw
  exact (fr_b a).trans rfl
theorem fk_156 {B : ByteArray} {pc p : Nat} {x : UInt8} {r : List UInt8} {w : Instr × Nat} (h : B.data.toList.drop p = x :: r) (e : Nat.beq x.toNat 156 = true) (hw : fs_s2 (.ifCond .ge) r = some w) : Decoder.instr pc B p = .ok (w.1, p + w.2) := by
  have a := fr_u h
  rw [Nat.eq_of_beq_eq_true e] at a
  cases r with
  | nil => cases hw
  | cons y r => cases r with
    | nil => cases hw
    | cons z r =>
      obtain rfl := Option.some.inj hw
      exact (fr_b a).trans (fg_s2 (g := (.ifCond .ge)) (fr_t h))
theorem fk_17 {B : ByteArray} {pc p : Nat} {x : UInt8} {r : List UInt8} {w : Instr × Nat} (h : B.data.toList.drop p = x :: r) (e : Nat.beq x.toNat 17 = true) (hw : fs_s2 .sipush r = some w) : Decoder.instr pc B p = .ok (w.1, p + w.2) := by
  have a := fr_u h
  rw [Nat.eq_of_beq_eq_true e] at a
  cases r with
  | nil => cases hw
  | cons y r => cases r with
    | nil => cases hw
    | cons z r =>
      obtain rfl := Option.some.inj hw
      exact (fr_b a).trans (fg_s2 (g := .sipush) (fr_t h))
theorem fk_133 {B : ByteArray} {pc p : Nat} {x : UInt8} {r : List UInt8} {w : Instr × Nat} (h : B.data.toList.drop p = x :: r) (e : Nat.beq x.toNat 133 = true) (hw : fs_0 (.i2l) r = some w) : Decoder.instr pc B p = .ok (w.1, p + w.2) := by
  have a := fr_u h
  rw [Nat.eq_of_beq_eq_true e] at a
  obtain rfl := Option.some.inj hw
  exact (fr_b a).trans rfl
theorem fk_26 {B : ByteArray} {pc p : Nat} {x : UInt8} {r : List UInt8} {w : Instr × Nat} (h : B.data.toList.drop p = x :: r) (e : Nat.beq x.toNat 26 = true) (hw : fs_0 (.iload_n 0) r = some w) : Decoder.instr pc B p = .ok (w.1, p + w.2) := by
  have a := fr_u h
  rw [Nat.eq_of_beq_eq_true e] at a
  obtain rfl := Option.some.inj hw
  exact (fr_b a).trans rfl
theorem fk_8 {B : ByteArray} {pc p : Nat} {x : UInt8} {r : List UInt8} {w : Instr × Nat} (h : B.data.toList.drop p = x :: r) (e : Nat.beq x.toNat 8 = true) (hw : fs_0 (.iconst 5) r = some w) : Decoder.instr pc B p = .ok (w.1, p + w.2) := by
  have a := fr_u h
  rw [Nat.eq_of_beq_eq_true e] at a
  obtain rfl := Option.some.inj hw
  exact (fr_b a).trans rfl
theorem fk_112 {B : ByteArray} {pc p : Nat} {x : UInt8} {r : List UInt8} {w : Instr × Nat} (h : B.data.toList.drop p = x :: r) (e : Nat.beq x.toNat 112 = true) (hw : fs_0 (.irem) r = some w) : Decoder.instr pc B p = .ok (w.1, p + w.2) := by
  have a := fr_u h
  rw [Nat.eq_of_beq_eq_true e] at a
  obtain rfl := Option.some.inj hw
  exact (fr_b a).trans rfl
theorem fk_22 {B : ByteArray} {pc p : Nat} {x : UInt8} {r : List UInt8} {w : Instr × Nat} (h : B.data.toList.drop p = x :: r) (e : Nat.beq x.toNat 22 = true) (hw : fs_1 .lload r = some w) : Decoder.instr pc B p = .ok (w.1, p + w.2) := by
  have a := fr_u h
  rw [Nat.eq_of_beq_eq_true e] at a
  cases r with
  | nil => cases hw
  | cons y r =>
    obtain rfl := Option.some.inj hw
    exact (fr_b a).trans (fg_1 (g := .lload) (fr_t h))
theorem fk_158 {B : ByteArray} {pc p : Nat} {x : UInt8} {r : List UInt8} {w : Instr × Nat} (h : B.data.toList.drop p = x :: r) (e : Nat.beq x.toNat 158 = true) (hw : fs_s2 (.ifCond .le) r = some w) : Decoder.instr pc B p = .ok (w.1, p + w.2) := by
  have a := fr_u h
  rw [Nat.eq_of_beq_eq_true e] at a
  cases r with
  | nil => cases hw
  | cons y r => cases r with
    | nil => cases hw
    | cons z r =>
      obtain rfl := Option.some.inj hw
      exact (fr_b a).trans (fg_s2 (g := (.ifCond .le)) (fr_t h))
theorem fk_55 {B : ByteArray} {pc p : Nat} {x : UInt8} {r : List UInt8} {w : Instr × Nat} (h : B.data.toList.drop p = x :: r) (e : Nat.beq x.toNat 55 = true) (hw : fs_1 .lstore r = some w) : Decoder.instr pc B p = .ok (w.1, p + w.2) := by
  have a := fr_u h
  rw [Nat.eq_of_beq_eq_true e] at a
  cases r with
  | nil => cases hw
  | cons y r =>
    obtain rfl := Option.some.inj hw
    exact (fr_b a).trans (fg_1 (g := .lstore) (fr_t h))
theorem fk_120 {B : ByteArray} {pc p : Nat} {x : UInt8} {r : List UInt8} {w : Instr × Nat} (h : B.data.toList.drop p = x :: r) (e : Nat.beq x.toNat 120 = true) (hw : fs_0 (.ishl) r = some w) : Decoder.instr pc B p = .ok (w.1, p + w.2) := by
  have a := fr_u h
  rw [Nat.eq_of_beq_eq_true e] at a
  obtain rfl := Option.some.inj hw
  exact (fr_b a).trans rfl
theorem fk_116 {B : ByteArray} {pc p : Nat} {x : UInt8} {r : List UInt8} {w : Instr × Nat} (h : B.data.toList.drop p = x :: r) (e : Nat.beq x.toNat 116 = true) (hw : fs_0 (.ineg) r = some w) : Decoder.instr pc B p = .ok (w.1, p + w.2) := by
  have a := fr_u h
  rw [Nat.eq_of_beq_eq_true e] at a
  obtain rfl := Option.some.inj hw
  exact (fr_b a).trans rfl
theorem fk_88 {B : ByteArray} {pc p : Nat} {x : UInt8} {r : List UInt8} {w : Instr × Nat} (h : B.data.toList.drop p = x :: r) (e : Nat.beq x.toNat 88 = true) (hw : fs_0 (.pop2) r = some w) : Decoder.instr pc B p = .ok (w.1, p + w.2) := by
  have a := fr_u h
  rw [Nat.eq_of_beq_eq_true e] at a
  obtain rfl := Option.some.inj hw
  exact (fr_b a).trans rfl
theorem fk_50 {B : ByteArray} {pc p : Nat} {x : UInt8} {r : List UInt8} {w : Instr × Nat} (h : B.data.toList.drop p = x :: r) (e : Nat.beq x.toNat 50 = true) (hw : fs_0 (.aaload) r = some w) : Decoder.instr pc B p = .ok (w.1, p + w.2) := by
  have a := fr_u h
  rw [Nat.eq_of_beq_eq_true e] at a
  obtain rfl := Option.some.inj hw
  exact (fr_b a).trans rfl
theorem fk_190 {B : ByteArray} {pc p : Nat} {x : UInt8} {r : List UInt8} {w : Instr × Nat} (h : B.data.toList.drop p = x :: r) (e : Nat.beq x.toNat 190 = true) (hw : fs_0 (.arraylength) r = some w) : Decoder.instr pc B p = .ok (w.1, p + w.2) := by
  have a := fr_u h
  rw [Nat.eq_of_beq_eq_true e] at a
  obtain rfl := Option.some.inj hw
  exact (fr_b a).trans rfl
theorem fk_126 {B : ByteArray} {pc p : Nat} {x : UInt8} {r : List UInt8} {w : Instr × Nat} (h : B.data.toList.drop p = x :: r) (e : Nat.beq x.toNat 126 = true) (hw : fs_0 (.iand) r = some w) : Decoder.instr pc B p = .ok (w.1, p + w.2) := by
  have a := fr_u h
  rw [Nat.eq_of_beq_eq_true e] at a
  obtain rfl := Option.some.inj hw
  exact (fr_b a).trans rfl
theorem fk_20 {B : ByteArray} {pc p : Nat} {x : UInt8} {r : List UInt8} {w : Instr × Nat} (h : B.data.toList.drop p = x :: r) (e : Nat.beq x.toNat 20 = true) (hw : fs_2 .ldc2_w r = some w) : Decoder.instr pc B p = .ok (w.1, p + w.2) := by
  have a := fr_u h
  rw [Nat.eq_of_beq_eq_true e] at a
  cases r with
  | nil => cases hw
  | cons y r => cases r with
    | nil => cases hw
    | cons z r =>
      obtain rfl := Option.some.inj hw
      exact (fr_b a).trans (fg_2 (g := .ldc2_w) (fr_t h))
theorem fk_130 {B : ByteArray} {pc p : Nat} {x : UInt8} {r : List UInt8} {w : Instr × Nat} (h : B.data.toList.drop p = x :: r) (e : Nat.beq x.toNat 130 = true) (hw : fs_0 (.ixor) r = some w) : Decoder.instr pc B p = .ok (w.1, p + w.2) := by
  have a := fr_u h
  rw [Nat.eq_of_beq_eq_true e] at a
  obtain rfl := Option.some.inj hw
  exact (fr_b a).trans rfl
theorem fk_122 {B : ByteArray} {pc p : Nat} {x : UInt8} {r : List UInt8} {w : Instr × Nat} (h : B.data.toList.drop p = x :: r) (e : Nat.beq x.toNat 122 = true) (hw : fs_0 (.ishr) r = some w) : Decoder.instr pc B p = .ok (w.1, p + w.2) := by
  have a := fr_u h
  rw [Nat.eq_of_beq_eq_true e] at a
  obtain rfl := Option.some.inj hw
  exact (fr_b a).trans rfl
theorem fk_92 {B : ByteArray} {pc p : Nat} {x : UInt8} {r : List UInt8} {w : Instr × Nat} (h : B.data.toList.drop p = x :: r) (e : Nat.beq x.toNat 92 = true) (hw : fs_0 (.dup2) r = some w) : Decoder.instr pc B p = .ok (w.1, p + w.2) := by
  have a := fr_u h
  rw [Nat.eq_of_beq_eq_true e] at a
  obtain rfl := Option.some.inj hw
  exact (fr_b a).trans rfl
theorem fk_128 {B : ByteArray} {pc p : Nat} {x : UInt8} {r : List UInt8} {w : Instr × Nat} (h : B.data.toList.drop p = x :: r) (e : Nat.beq x.toNat 128 = true) (hw : fs_0 (.ior) r = some w) : Decoder.instr pc B p = .ok (w.1, p + w.2) := by
  have a := fr_u h
  rw [Nat.eq_of_beq_eq_true e] at a
  obtain rfl := Option.some.inj hw
  exact (fr_b a).trans rfl
theorem fk_9 {B : ByteArray} {pc p : Nat} {x : UInt8} {r : List UInt8} {w : Instr × Nat} (h : B.data.toList.drop p = x :: r) (e : Nat.beq x.toNat 9 = true) (hw : fs_0 (.lconst 0) r = some w) : Decoder.instr pc B p = .ok (w.1, p + w.2) := by
  have a := fr_u h
  rw [Nat.eq_of_beq_eq_true e] at a
  obtain rfl := Option.some.inj hw
  exact (fr_b a).trans rfl
theorem fk_10 {B : ByteArray} {pc p : Nat} {x : UInt8} {r : List UInt8} {w : Instr × Nat} (h : B.data.toList.drop p = x :: r) (e : Nat.beq x.toNat 10 = true) (hw : fs_0 (.lconst 1) r = some w) : Decoder.instr pc B p = .ok (w.1, p + w.2) := by
  have a := fr_u h
  rw [Nat.eq_of_beq_eq_true e] at a
  obtain rfl := Option.some.inj hw
  exact (fr_b a).trans rfl
theorem fk_18 {B : ByteArray} {pc p : Nat} {x : UInt8} {r : List UInt8} {w : Instr × Nat} (h : B.data.toList.drop p = x :: r) (e : Nat.beq x.toNat 18 = true) (hw : fs_1 .ldc r = some w) : Decoder.instr pc B p = .ok (w.1, p + w.2) := by
  have a := fr_u h
  rw [Nat.eq_of_beq_eq_true e] at a
  cases r with
  | nil => cases hw
  | cons y r =>
    obtain rfl := Option.some.inj hw
    exact (fr_b a).trans (fg_1 (g := .ldc) (fr_t h))
theorem fk_19 {B : ByteArray} {pc p : Nat} {x : UInt8} {r : List UInt8} {w : Instr × Nat} (h : B.data.toList.drop p = x :: r) (e : Nat.beq x.toNat 19 = true) (hw : fs_2 .ldc_w r = some w) : Decoder.instr pc B p = .ok (w.1, p + w.2) := by
  have a := fr_u h
  rw [Nat.eq_of_beq_eq_true e] at a
  cases r with
  | nil => cases hw
  | cons y r => cases r with
    | nil => cases hw
    | cons z r =>
      obtain rfl := Option.some.inj hw
      exact (fr_b a).trans (fg_2 (g := .ldc_w) (fr_t h))
theorem fk_25 {B : ByteArray} {pc p : Nat} {x : UInt8} {r : List UInt8} {w : Instr × Nat} (h : B.data.toList.drop p = x :: r) (e : Nat.beq x.toNat 25 = true) (hw : fs_1 .aload r = some w) : Decoder.instr pc B p = .ok (w.1, p + w.2) := by
  have a := fr_u h
  rw [Nat.eq_of_beq_eq_true e] at a
  cases r with
  | nil => cases hw
  | cons y r =>
    obtain rfl := Option.some.inj hw
    exact (fr_b a).trans (fg_1 (g := .aload) (fr_t h))
theorem fk_30 {B : ByteArray} {pc p : Nat} {x : UInt8} {r : List UInt8} {w : Instr × Nat} (h : B.data.toList.drop p = x :: r) (e : Nat.beq x.toNat 30 = true) (hw : fs_0 (.lload_n 0) r = some w) : Decoder.instr pc B p = .ok (w.1, p + w.2) := by
  have a := fr_u h
  rw [Nat.eq_of_beq_eq_true e] at a
  obtain rfl := Option.some.inj hw
  exact (fr_b a).trans rfl
theorem fk_31 {B : ByteArray} {pc p : Nat} {x : UInt8} {r : List UInt8} {w : Instr × Nat} (h : B.data.toList.drop p = x :: r) (e : Nat.beq x.toNat 31 = true) (hw : fs_0 (.lload_n 1) r = some w) : Decoder.instr pc B p = .ok (w.1, p + w.2) := by
  have a := fr_u h
  rw [Nat.eq_of_beq_eq_true e] at a
  obtain rfl := Option.some.inj hw
  exact (fr_b a).trans rfl
theorem fk_32 {B : ByteArray} {pc p : Nat} {x : UInt8} {r : List UInt8} {w : Instr × Nat} (h : B.data.toList.drop p = x :: r) (e : Nat.beq x.toNat 32 = true) (hw : fs_0 (.lload_n 2) r = some w) : Decoder.instr pc B p = .ok (w.1, p + w.2) := by
  have a := fr_u h
  rw [Nat.eq_of_beq_eq_true e] at a
  obtain rfl := Option.some.inj hw
  exact (fr_b a).trans rfl
theorem fk_33 {B : ByteArray} {pc p : Nat} {x : UInt8} {r : List UInt8} {w : Instr × Nat} (h : B.data.toList.drop p = x :: r) (e : Nat.beq x.toNat 33 = true) (hw : fs_0 (.lload_n 3) r = some w) : Decoder.instr pc B p = .ok (w.1, p + w.2) := by
  have a := fr_u h
  rw [Nat.eq_of_beq_eq_true e] at a
  obtain rfl := Option.some.inj hw
  exact (fr_b a).trans rfl
theorem fk_45 {B : ByteArray} {pc p : Nat} {x : UInt8} {r : List UInt8} {w : Instr × Nat} (h : B.data.toList.drop p = x :: r) (e : Nat.beq x.toNat 45 = true) (hw : fs_0 (.aload_n 3) r = some w) : Decoder.instr pc B p = .ok (w.1, p + w.2) := by
  have a := fr_u h
  rw [Nat.eq_of_beq_eq_true e] at a
  obtain rfl := Option.some.inj hw
  exact (fr_b a).trans rfl
theorem fk_58 {B : ByteArray} {pc p : Nat} {x : UInt8} {r : List UInt8} {w : Instr × Nat} (h : B.data.toList.drop p = x :: r) (e : Nat.beq x.toNat 58 = true) (hw : fs_1 .astore r = some w) : Decoder.instr pc B p = .ok (w.1, p + w.2) := by
  have a := fr_u h
  rw [Nat.eq_of_beq_eq_true e] at a
  cases r with
  | nil => cases hw
  | cons y r =>
    obtain rfl := Option.some.inj hw
    exact (fr_b a).trans (fg_1 (g := .astore) (fr_t h))
theorem fk_62 {B : ByteArray} {pc p : Nat} {x : UInt8} {r : List UInt8} {w : Instr × Nat} (h : B.data.toList.drop p = x :: r) (e : Nat.beq x.toNat 62 = true) (hw : fs_0 (.istore_n 3) r = some w) : Decoder.instr pc B p = .ok (w.1, p + w.2) := by
  have a := fr_u h
  rw [Nat.eq_of_beq_eq_true e] at a
  obtain rfl := Option.some.inj hw
  exact (fr_b a).trans rfl
theorem fk_63 {B : ByteArray} {pc p : Nat} {x : UInt8} {r : List UInt8} {w : Instr × Nat} (h : B.data.toList.drop p = x :: r) (e : Nat.beq x.toNat 63 = true) (hw : fs_0 (.lstore_n 0) r = some w) : Decoder.instr pc B p = .ok (w.1, p + w.2) := by
  have a := fr_u h
  rw [Nat.eq_of_beq_eq_true e] at a
  obtain rfl := Option.some.inj hw
  exact (fr_b a).trans rfl
theorem fk_64 {B : ByteArray} {pc p : Nat} {x : UInt8} {r : List UInt8} {w : Instr × Nat} (h : B.data.toList.drop p = x :: r) (e : Nat.beq x.toNat 64 = true) (hw : fs_0 (.lstore_n 1) r = some w) : Decoder.instr pc B p = .ok (w.1, p + w.2) := by
  have a := fr_u h
  rw [Nat.eq_of_beq_eq_true e] at a
  obtain rfl := Option.some.inj hw
  exact (fr_b a).trans rfl
theorem fk_65 {B : ByteArray} {pc p : Nat} {x : UInt8} {r : List UInt8} {w : Instr × Nat} (h : B.data.toList.drop p = x :: r) (e : Nat.beq x.toNat 65 = true) (hw : fs_0 (.lstore_n 2) r = some w) : Decoder.instr pc B p = .ok (w.1, p + w.2) := by
  have a := fr_u h
  rw [Nat.eq_of_beq_eq_true e] at a
  obtain rfl := Option.some.inj hw
  exact (fr_b a).trans rfl
theorem fk_66 {B : ByteArray} {pc p : Nat} {x : UInt8} {r : List UInt8} {w : Instr × Nat} (h : B.data.toList.drop p = x :: r) (e : Nat.beq x.toNat 66 = true) (hw : fs_0 (.lstore_n 3) r = some w) : Decoder.instr pc B p = .ok (w.1, p + w.2) := by
  have a := fr_u h
  rw [Nat.eq_of_beq_eq_true e] at a
  obtain rfl := Option.some.inj hw
  exact (fr_b a).trans rfl
theorem fk_75 {B : ByteArray} {pc p : Nat} {x : UInt8} {r : List UInt8} {w : Instr × Nat} (h : B.data.toList.drop p = x :: r) (e : Nat.beq x.toNat 75 = true) (hw : fs_0 (.astore_n 0) r = some w) : Decoder.instr pc B p = .ok (w.1, p + w.2) := by
  have a := fr_u h
  rw [Nat.eq_of_beq_eq_true e] at a
  obtain rfl := Option.some.inj hw
  exact (fr_b a).trans rfl
theorem fk_76 {B : ByteArray} {pc p : Nat} {x : UInt8} {r : List UInt8} {w : Instr × Nat} (h : B.data.toList.drop p = x :: r) (e : Nat.beq x.toNat 76 = true) (hw : fs_0 (.astore_n 1) r = some w) : Decoder.instr pc B p = .ok (w.1, p + w.2) := by
  have a := fr_u h
  rw [Nat.eq_of_beq_eq_true e] at a
  obtain rfl := Option.some.inj hw
  exact (fr_b a).trans rfl
theorem fk_77 {B : ByteArray} {pc p : Nat} {x : UInt8} {r : List UInt8} {w : Instr × Nat} (h : B.data.toList.drop p = x :: r) (e : Nat.beq x.toNat 77 = true) (hw : fs_0 (.astore_n 2) r = some w) : Decoder.instr pc B p = .ok (w.1, p + w.2) := by
  have a := fr_u h
  rw [Nat.eq_of_beq_eq_true e] at a
  obtain rfl := Option.some.inj hw
  exact (fr_b a).trans rfl
theorem fk_78 {B : ByteArray} {pc p : Nat} {x : UInt8} {r : List UInt8} {w : Instr × Nat} (h : B.data.toList.drop p = x :: r) (e : Nat.beq x.toNat 78 = true) (hw : fs_0 (.astore_n 3) r = some w) : Decoder.instr pc B p = .ok (w.1, p + w.2) := by
  have a := fr_u h
  rw [Nat.eq_of_beq_eq_true e] at a
  obtain rfl := Option.some.inj hw
  exact (fr_b a).trans rfl
theorem fk_90 {B : ByteArray} {pc p : Nat} {x : UInt8} {r : List UInt8} {w : Instr × Nat} (h : B.data.toList.drop p = x :: r) (e : Nat.beq x.toNat 90 = true) (hw : fs_0 (.dup_x1) r = some w) : Decoder.instr pc B p = .ok (w.1, p + w.2) := by
  have a := fr_u h
  rw [Nat.eq_of_beq_eq_true e] at a
  obtain rfl := Option.some.inj hw
  exact (fr_b a).trans rfl
theorem fk_97 {B : ByteArray} {pc p : Nat} {x : UInt8} {r : List UInt8} {w : Instr × Nat} (h : B.data.toList.drop p = x :: r) (e : Nat.beq x.toNat 97 = true) (hw : fs_0 (.ladd) r = some w) : Decoder.instr pc B p = .ok (w.1, p + w.2) := by
  have a := fr_u h
  rw [Nat.eq_of_beq_eq_true e] at a
  obtain rfl := Option.some.inj hw
  exact (fr_b a).trans rfl
theorem fk_101 {B : ByteArray} {pc p : Nat} {x : UInt8} {r : List UInt8} {w : Instr × Nat} (h : B.data.toList.drop p = x :: r) (e : Nat.beq x.toNat 101 = true) (hw : fs_0 (.lsub) r = some w) : Decoder.instr pc B p = .ok (w.1, p + w.2) := by
  have a := fr_u h
  rw [Nat.eq_of_beq_eq_true e] at a
  obtain rfl := Option.some.inj hw
  exact (fr_b a).trans rfl
theorem fk_105 {B : ByteArray} {pc p : Nat} {x : UInt8} {r : List UInt8} {w : Instr × Nat} (h : B.data.toList.drop p = x :: r) (e : Nat.beq x.toNat 105 = true) (hw : fs_0 (.lmul) r = some w) : Decoder.instr pc B p = .ok (w.1, p + w.2) := by
  have a := fr_u h
  rw [Nat.eq_of_beq_eq_true e] at a
  obtain rfl := Option.some.inj hw
  exact (fr_b a).trans rfl
theorem fk_109 {B : ByteArray} {pc p : Nat} {x : UInt8} {r : List UInt8} {w : Instr × Nat} (h : B.data.toList.drop p = x :: r) (e : Nat.beq x.toNat 109 = true) (hw : fs_0 (.ldiv) r = some w) : Decoder.instr pc B p = .ok (w.1, p + w.2) := by
  have a := fr_u h
  rw [Nat.eq_of_beq_eq_true e] at a
  obtain rfl := Option.some.inj hw
  exact (fr_b a).trans rfl
theorem fk_113 {B : ByteArray} {pc p : Nat} {x : UInt8} {r : List UInt8} {w : Instr × Nat} (h : B.data.toList.drop p = x :: r) (e : Nat.beq x.toNat 113 = true) (hw : fs_0 (.lrem) r = some w) : Decoder.instr pc B p = .ok (w.1, p + w.2) := by
  have a := fr_u h
  rw [Nat.eq_of_beq_eq_true e] at a
  obtain rfl := Option.some.inj hw
  exact (fr_b a).trans rfl
theorem fk_148 {B : ByteArray} {pc p : Nat} {x : UInt8} {r : List UInt8} {w : Instr × Nat} (h : B.data.toList.drop p = x :: r) (e : Nat.beq x.toNat 148 = true) (hw : fs_0 (.lcmp) r = some w) : Decoder.instr pc B p = .ok (w.1, p + w.2) := by
  have a := fr_u h
  rw [Nat.eq_of_beq_eq_true e] at a
  obtain rfl := Option.some.inj hw
  exact (fr_b a).trans rfl
theorem fk_157 {B : ByteArray} {pc p : Nat} {x : UInt8} {r : List UInt8} {w : Instr × Nat} (h : B.data.toList.drop p = x :: r) (e : Nat.beq x.toNat 157 = true) (hw : fs_s2 (.ifCond .gt) r = some w) : Decoder.instr pc B p = .ok (w.1, p + w.2) := by
  have a := fr_u h
  rw [Nat.eq_of_beq_eq_true e] at a
  cases r with
  | nil => cases hw
  | cons y r => cases r with
    | nil => cases hw
    | cons z r =>
      obtain rfl := Option.some.inj hw
      exact (fr_b a).trans (fg_s2 (g := (.ifCond .gt)) (fr_t h))
def fd_c (op : Nat) (r : List UInt8) : Option (Instr × Nat) :=
  bif Nat.beq op 42 then fs_0 (.aload_n 0) r else
  bif Nat.beq op 180 then fs_2 .getfield r else
  bif Nat.beq op 182 then fs_2 .invokevirtual r else
  bif Nat.beq op 27 then fs_0 (.iload_n 1) r else
  bif Nat.beq op 28 then fs_0 (.iload_n 2) r else
  bif Nat.beq op 172 then fs_0 (.ireturn) r else
  bif Nat.beq op 21 then fs_1 .iload r else
  bif Nat.beq op 29 then fs_0 (.iload_n 3) r else
  bif Nat.beq op 167 then fs_s2 .goto r else
  bif Nat.beq op 4 then fs_0 (.iconst 1) r else
  bif Nat.beq op 3 then fs_0 (.iconst 0) r else
  bif Nat.beq op 46 then fs_0 (.iaload) r else
  bif Nat.beq op 16 then fs_s1 .bipush r else
  bif Nat.beq op 96 then fs_0 (.iadd) r else
  bif Nat.beq op 54 then fs_1 .istore r else
  bif Nat.beq op 181 then fs_2 .putfield r else
  bif Nat.beq op 162 then fs_s2 (.if_icmp .ge) r else
  bif Nat.beq op 154 then fs_s2 (.ifCond .ne) r else
  bif Nat.beq op 132 then fs_i r else
  bif Nat.beq op 79 then fs_0 (.iastore) r else
  bif Nat.beq op 43 then fs_0 (.aload_n 1) r else
  bif Nat.beq op 5 then fs_0 (.iconst 2) r else
  bif Nat.beq op 61 then fs_0 (.istore_n 2) r else
  bif Nat.beq op 184 then fs_2 .invokestatic r else
  bif Nat.beq op 153 then fs_s2 (.ifCond .eq) r else
  bif Nat.beq op 87 then fs_0 (.pop) r else
  bif Nat.beq op 60 then fs_0 (.istore_n 1) r else
  bif Nat.beq op 7 then fs_0 (.iconst 4) r else
  bif Nat.beq op 100 then fs_0 (.isub) r else
  bif Nat.beq op 160 then fs_s2 (.if_icmp .ne) r else
  bif Nat.beq op 44 then fs_0 (.aload_n 2) r else
  bif Nat.beq op 2 then fs_0 (.iconst (-1)) r else
  bif Nat.beq op 104 then fs_0 (.imul) r else
  bif Nat.beq op 59 then fs_0 (.istore_n 0) r else
  bif Nat.beq op 6 then fs_0 (.iconst 3) r else
  bif Nat.beq op 89 then fs_0 (.dup) r else
  bif Nat.beq op 177 then fs_0 (.return_) r else
  bif Nat.beq op 159 then fs_s2 (.if_icmp .eq) r else
  bif Nat.beq op 164 then fs_s2 (.if_icmp .le) r else
  bif Nat.beq op 173 then fs_0 (.lreturn) r else
  bif Nat.beq op 161 then fs_s2 (.if_icmp .lt) r else
  bif Nat.beq op 163 then fs_s2 (.if_icmp .gt) r else
  bif Nat.beq op 155 then fs_s2 (.ifCond .lt) r else
  bif Nat.beq op 108 then fs_0 (.idiv) r else
  bif Nat.beq op 156 then fs_s2 (.ifCond .ge) r else
  bif Nat.beq op 17 then fs_s2 .sipush r else
  bif Nat.beq op 133 then fs_0 (.i2l) r else
  bif Nat.beq op 26 then fs_0 (.iload_n 0) r else
  bif Nat.beq op 8 then fs_0 (.iconst 5) r else
  bif Nat.beq op 112 then fs_0 (.irem) r else
  bif Nat.beq op 22 then fs_1 .lload r else
  bif Nat.beq op 158 then fs_s2 (.ifCond .le) r else
  bif Nat.beq op 55 then fs_1 .lstore r else
  bif Nat.beq op 120 then fs_0 (.ishl) r else
  bif Nat.beq op 116 then fs_0 (.ineg) r else
  bif Nat.beq op 88 then fs_0 (.pop2) r else
  bif Nat.beq op 50 then fs_0 (.aaload) r else
  bif Nat.beq op 190 then fs_0 (.arraylength) r else
  bif Nat.beq op 126 then fs_0 (.iand) r else
  bif Nat.beq op 20 then fs_2 .ldc2_w r else
  bif Nat.beq op 130 then fs_0 (.ixor) r else
  bif Nat.beq op 122 then fs_0 (.ishr) r else
  bif Nat.beq op 92 then fs_0 (.dup2) r else
  bif Nat.beq op 128 then fs_0 (.ior) r else
  bif Nat.beq op 9 then fs_0 (.lconst 0) r else
  bif Nat.beq op 10 then fs_0 (.lconst 1) r else
  bif Nat.beq op 18 then fs_1 .ldc r else
  bif Nat.beq op 19 then fs_2 .ldc_w r else
  bif Nat.beq op 25 then fs_1 .aload r else
  bif Nat.beq op 30 then fs_0 (.lload_n 0) r else
  bif Nat.beq op 31 then fs_0 (.lload_n 1) r else
  bif Nat.beq op 32 then fs_0 (.lload_n 2) r else
  bif Nat.beq op 33 then fs_0 (.lload_n 3) r else
  bif Nat.beq op 45 then fs_0 (.aload_n 3) r else
  bif Nat.beq op 58 then fs_1 .astore r else
  bif Nat.beq op 62 then fs_0 (.istore_n 3) r else
  bif Nat.beq op 63 then fs_0 (.lstore_n 0) r else
  bif Nat.beq op 64 then fs_0 (.lstore_n 1) r else
  bif Nat.beq op 65 then fs_0 (.lstore_n 2) r else
  bif Nat.beq op 66 then fs_0 (.lstore_n 3) r else
  bif Nat.beq op 75 then fs_0 (.astore_n 0) r else
  bif Nat.beq op 76 then fs_0 (.astore_n 1) r else
  bif Nat.beq op 77 then fs_0 (.astore_n 2) r else
  bif Nat.beq op 78 then fs_0 (.astore_n 3) r else
  bif Nat.beq op 90 then fs_0 (.dup_x1) r else
  bif Nat.beq op 97 then fs_0 (.ladd) r else
  bif Nat.beq op 101 then fs_0 (.lsub) r else
  bif Nat.beq op 105 then fs_0 (.lmul) r else
  bif Nat.beq op 109 then fs_0 (.ldiv) r else
  bif Nat.beq op 113 then fs_0 (.lrem) r else
  bif Nat.beq op 148 then fs_0 (.lcmp) r else
  bif Nat.beq op 157 then fs_s2 (.ifCond .gt) r else
  none
theorem fd_ok {B : ByteArray} {pc p : Nat} {x : UInt8} {r : List UInt8} {w : Instr × Nat} (h : B.data.toList.drop p = x :: r) (hw : fd_c x.toNat r = some w) : Decoder.instr pc B p = .ok (w.1, p + w.2) := by
  unfold fd_c at hw
  rcases fd_if hw with ⟨e, q⟩ | hw
  · exact fk_42 h e q
  rcases fd_if hw with ⟨e, q⟩ | hw
  · exact fk_180 h e q
  rcases fd_if hw with ⟨e, q⟩ | hw
  · exact fk_182 h e q
  rcases fd_if hw with ⟨e, q⟩ | hw
  · exact fk_27 h e q
  rcases fd_if hw with ⟨e, q⟩ | hw
  · exact fk_28 h e q
  rcases fd_if hw with ⟨e, q⟩ | hw
  · exact fk_172 h e q
  rcases fd_if hw with ⟨e, q⟩ | hw
  · exact fk_21 h e q
  rcases fd_if hw with ⟨e, q⟩ | hw
  · exact fk_29 h e q
  rcases fd_if hw with ⟨e, q⟩ | hw
  · exact fk_167 h e q
  rcases fd_if hw with ⟨e, q⟩ | hw
  · exact fk_4 h e q
  rcases fd_if hw with ⟨e, q⟩ | hw
  · exact fk_3 h e q
  rcases fd_if hw with ⟨e, q⟩ | hw
  · exact fk_46 h e q
  rcases fd_if hw with ⟨e, q⟩ | hw
  · exact fk_16 h e q
  rcases fd_if hw with ⟨e, q⟩ | hw
  · exact fk_96 h e q
  rcases fd_if hw with ⟨e, q⟩ | hw
  · exact fk_54 h e q
  rcases fd_if hw with ⟨e, q⟩ | hw
  · exact fk_181 h e q
  rcases fd_if hw with ⟨e, q⟩ | hw
  · exact fk_162 h e q
  rcases fd_if hw with ⟨e, q⟩ | hw
  · exact fk_154 h e q
  rcases fd_if hw with ⟨e, q⟩ | hw
  · exact fk_132 h e q
  rcases fd_if hw with ⟨e, q⟩ | hw
  · exact fk_79 h e q
  rcases fd_if hw with ⟨e, q⟩ | hw
  · exact fk_43 h e q
  rcases fd_if hw with ⟨e, q⟩ | hw
  · exact fk_5 h e q
  rcases fd_if hw with ⟨e, q⟩ | hw
  · exact fk_61 h e q
  rcases fd_if hw with ⟨e, q⟩ | hw
  · exact fk_184 h e q
  rcases fd_if hw with ⟨e, q⟩ | hw
  · exact fk_153 h e q
  rcases fd_if hw with ⟨e, q⟩ | hw
  · exact fk_87 h e q
  rcases fd_if hw with ⟨e, q⟩ | hw
  · exact fk_60 h e q
  rcases fd_if hw with ⟨e, q⟩ | hw
  · exact fk_7 h e q
  rcases fd_if hw with ⟨e, q⟩ | hw
  · exact fk_100 h e q
  rcases fd_if hw with ⟨e, q⟩ | hw
  · exact fk_160 h e q
  rcases fd_if hw with ⟨e, q⟩ | hw
  · exact fk_44 h e q
  rcases fd_if hw with ⟨e, q⟩ | hw
  · exact fk_2 h e q
  rcases fd_if hw with ⟨e, q⟩ | hw
  · exact fk_104 h e q
  rcases fd_if hw with ⟨e, q⟩ | hw
  · exact fk_59 h e q
  rcases fd_if hw with ⟨e, q⟩ | hw
  · exact fk_6 h e q
  rcases fd_if hw with ⟨e, q⟩ | hw
  · exact fk_89 h e q
  rcases fd_if hw with ⟨e, q⟩ | hw
  · exact fk_177 h e q
  rcases fd_if hw with ⟨e, q⟩ | hw
  · exact fk_159 h e q
  rcases fd_if hw with ⟨e, q⟩ | hw
  · exact fk_164 h e q
  rcases fd_if hw with ⟨e, q⟩ | hw
  · exact fk_173 h e q
  rcases fd_if hw with ⟨e, q⟩ | hw
  · exact fk_161 h e q
  rcases fd_if hw with ⟨e, q⟩ | hw
  · exact fk_163 h e q
  rcases fd_if hw with ⟨e, q⟩ | hw
  · exact fk_155 h e q
  rcases fd_if hw with ⟨e, q⟩ | hw
  · exact fk_108 h e q
  rcases fd_if hw with ⟨e, q⟩ | hw
  · exact fk_156 h e q
  rcases fd_if hw with ⟨e, q⟩ | hw
  · exact fk_17 h e q
  rcases fd_if hw with ⟨e, q⟩ | hw
  · exact fk_133 h e q
  rcases fd_if hw with ⟨e, q⟩ | hw
  · exact fk_26 h e q
  rcases fd_if hw with ⟨e, q⟩ | hw
  · exact fk_8 h e q
  rcases fd_if hw with ⟨e, q⟩ | hw
  · exact fk_112 h e q
  rcases fd_if hw with ⟨e, q⟩ | hw
  · exact fk_22 h e q
  rcases fd_if hw with ⟨e, q⟩ | hw
  · exact fk_158 h e q
  rcases fd_if hw with ⟨e, q⟩ | hw
  · exact fk_55 h e q
  rcases fd_if hw with ⟨e, q⟩ | hw
  · exact fk_120 h e q
  rcases fd_if hw with ⟨e, q⟩ | hw
  · exact fk_116 h e q
  rcases fd_if hw with ⟨e, q⟩ | hw
  · exact fk_88 h e q
  rcases fd_if hw with ⟨e, q⟩ | hw
  · exact fk_50 h e q
  rcases fd_if hw with ⟨e, q⟩ | hw
  · exact fk_190 h e q
  rcases fd_if hw with ⟨e, q⟩ | hw
  · exact fk_126 h e q
  rcases fd_if hw with ⟨e, q⟩ | hw
  · exact fk_20 h e q
  rcases fd_if hw with ⟨e, q⟩ | hw
  · exact fk_130 h e q
  rcases fd_if hw with ⟨e, q⟩ | hw
  · exact fk_122 h e q
  rcases fd_if hw with ⟨e, q⟩ | hw
  · exact fk_92 h e q
  rcases fd_if hw with ⟨e, q⟩ | hw
  · exact fk_128 h e q
  rcases fd_if hw with ⟨e, q⟩ | hw
  · exact fk_9 h e q
  rcases fd_if hw with ⟨e, q⟩ | hw
  · exact fk_10 h e q
  rcases fd_if hw with ⟨e, q⟩ | hw
  · exact fk_18 h e q
  rcases fd_if hw with ⟨e, q⟩ | hw
  · exact fk_19 h e q
  rcases fd_if hw with ⟨e, q⟩ | hw
  · exact fk_25 h e q
  rcases fd_if hw with ⟨e, q⟩ | hw
  · exact fk_30 h e q
  rcases fd_if hw with ⟨e, q⟩ | hw
  · exact fk_31 h e q
  rcases fd_if hw with ⟨e, q⟩ | hw
  · exact fk_32 h e q
  rcases fd_if hw with ⟨e, q⟩ | hw
  · exact fk_33 h e q
  rcases fd_if hw with ⟨e, q⟩ | hw
  · exact fk_45 h e q
  rcases fd_if hw with ⟨e, q⟩ | hw
  · exact fk_58 h e q
  rcases fd_if hw with ⟨e, q⟩ | hw
  · exact fk_62 h e q
  rcases fd_if hw with ⟨e, q⟩ | hw
  · exact fk_63 h e q
  rcases fd_if hw with ⟨e, q⟩ | hw
  · exact fk_64 h e q
  rcases fd_if hw with ⟨e, q⟩ | hw
  · exact fk_65 h e q
  rcases fd_if hw with ⟨e, q⟩ | hw
  · exact fk_66 h e q
  rcases fd_if hw with ⟨e, q⟩ | hw
  · exact fk_75 h e q
  rcases fd_if hw with ⟨e, q⟩ | hw
  · exact fk_76 h e q
  rcases fd_if hw with ⟨e, q⟩ | hw
  · exact fk_77 h e q
  rcases fd_if hw with ⟨e, q⟩ | hw
  · exact fk_78 h e q
  rcases fd_if hw with ⟨e, q⟩ | hw
  · exact fk_90 h e q
  rcases fd_if hw with ⟨e, q⟩ | hw
  · exact fk_97 h e q
  rcases fd_if hw with ⟨e, q⟩ | hw
  · exact fk_101 h e q
  rcases fd_if hw with ⟨e, q⟩ | hw
  · exact fk_105 h e q
  rcases fd_if hw with ⟨e, q⟩ | hw
  · exact fk_109 h e q
  rcases fd_if hw with ⟨e, q⟩ | hw
  · exact fk_113 h e q
  rcases fd_if hw with ⟨e, q⟩ | hw
  · exact fk_148 h e q
  rcases fd_if hw with ⟨e, q⟩ | hw
  · exact fk_157 h e q
  cases hw
theorem fd_de {B : ByteArray} {pc : Nat} {x : UInt8} {r : List UInt8} {w : Instr × Nat} (h : B.data.toList.drop pc = x :: r) (hw : fd_c x.toNat r = some w) : decode B pc = .ok (w.1, w.2) := by
  have d1 : decode B pc = Except.bind (Decoder.instr pc B pc) (fun v => .ok (v.1, v.2 - pc)) := rfl
  rw [d1, fd_ok h hw]
  show Except.ok (w.1, pc + w.2 - pc) = Except.ok (w.1, w.2)
  rw [Nat.add_sub_cancel_left]
def am_s1 (y : Nat) (x : am_I) (pc : Nat) (o : Option (Instr × Nat)) : Bool := match o with
  | some (i, n) => (am_ln i == 0 || n == am_ln i) && am_ie (am_nrm y pc i) x
  | none => am_chk y pc x
def am_sc (y : Nat) (cd : Nat → am_I) : Nat → List UInt8 → Nat → Bool
  | 0, _, _ => true
  | f + 1, b, pc => match b with
    | [] => true
    | x :: r => (Nat.beq (cd pc).2.1 99 || am_s1 y (cd pc) pc (fd_c x.toNat r)) && am_sc y cd f r (pc + 1)
theorem am_s1_ok {y pc : Nat} {x : UInt8} {r : List UInt8} {c : am_I} (h : (am_bt y).data.toList.drop pc = x :: r) (q : am_s1 y c pc (fd_c x.toNat r) = true) : am_chk y pc c = true := by
  cases e : fd_c x.toNat r with
  | none => rw [e] at q; exact q
  | some w =>
    rw [e] at q
    unfold am_chk
    rw [fd_de h e]
    exact q
theorem am_sc_ok {y : Nat} {cd : Nat → am_I} : ∀ (f : Nat) (b : List UInt8) (pc : Nat), (am_bt y).data.toList.drop pc = b → am_sc y cd f b pc = true → ∀ j, pc ≤ j → j < pc + f → j < pc + b.length → (cd j).2.1 = 99 ∨ am_chk y j (cd j) = true
  | 0, b, pc, _, _, j, h1, h2, _ => absurd h2 (by omega)
  | f + 1, [], pc, _, _, j, h1, _, h3 => absurd h3 (by simp only [List.length_nil]; omega)
  | f + 1, x :: r, pc, hb, h, j, h1, h2, h3 => by
    have hh : ((Nat.beq (cd pc).2.1 99 || am_s1 y (cd pc) pc (fd_c x.toNat r)) && am_sc y cd f r (pc + 1)) = true := h
    rw [Bool.and_eq_true] at hh
    by_cases e : j = pc
    · subst e
      rcases Bool.or_eq_true_iff.mp hh.1 with q | q
      · exact Or.inl (Nat.eq_of_beq_eq_true q)
      · exact Or.inr (am_s1_ok hb q)
    · rw [List.length_cons] at h3
      exact am_sc_ok f r (pc + 1) (fr_t hb) hh.2 j (by omega) (by omega) (by omega)
def am_byl (y : Nat) : List UInt8 := (am_bt y).data.toList
theorem am_ok_ofF {y N : Nat} {cd' : Nat → am_I} (h : (Nat.ble N (am_byl y).length && am_sc y cd' N (am_byl y) 0) = true) : am_ok y (fun pc => bif Nat.blt pc N then cd' pc else am_bad) := by
  intro pc
  show (bif Nat.blt pc N then cd' pc else am_bad).2.1 = 99 ∨ am_chk y pc (bif Nat.blt pc N then cd' pc else am_bad) = true
  rw [Bool.and_eq_true] at h
  have hl := Nat.le_of_ble_eq_true h.1
  cases hb : Nat.blt pc N with
  | false => exact Or.inl rfl
  | true =>
    have hlt : pc < N := Nat.le_of_ble_eq_true hb
    exact am_sc_ok N (am_byl y) 0 rfl h.2 pc (Nat.zero_le _) (by omega) (by omega)
/-- a piece of a method: m bytes from byte n on -/
theorem am_pc {y n m : Nat} {cd' : Nat → am_I} (h : (Nat.ble (n + m) (am_byl y).length && am_sc y cd' m (List.drop n (am_byl y)) n) = true) : ∀ pc, n ≤ pc → pc < n + m → (cd' pc).2.1 = 99 ∨ am_chk y pc (cd' pc) = true := by
  intro pc h1 h2
  rw [Bool.and_eq_true] at h
  have hl := Nat.le_of_ble_eq_true h.1
  refine am_sc_ok m (List.drop n (am_byl y)) n rfl h.2 pc h1 h2 ?_
  rw [List.length_drop]
  omega
theorem am_ok_all {y N : Nat} {cd' : Nat → am_I} (h : ∀ pc, pc < N → (cd' pc).2.1 = 99 ∨ am_chk y pc (cd' pc) = true) : am_ok y (fun pc => bif Nat.blt pc N then cd' pc else am_bad) := by
  intro pc
  show (bif Nat.blt pc N then cd' pc else am_bad).2.1 = 99 ∨ am_chk y pc (bif Nat.blt pc N then cd' pc else am_bad) = true
  cases hb : Nat.blt pc N with
  | false => exact Or.inl rfl
  | true => exact h pc (Nat.le_of_ble_eq_true hb)
