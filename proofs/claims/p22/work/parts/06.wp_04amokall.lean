theorem fd_de {B : ByteArray} {pc : Nat} {x : UInt8} {r : List UInt8} {w : Instr × Nat} (h : B.data.toList.drop pc = x :: r) (hw : fd_c x.toNat r = some w) : decode B pc = .ok (w.1, w.2) := by
  have d1 : decode B pc = Except.bind (Decoder.instr pc B pc) (fun v => .ok (v.1, v.2 - pc)) := rfl
  rw [d1, fd_ok h hw]
  show Except.ok (w.1, pc + w.2 - pc) = Except.ok (w.1, w.2)
  rw [Nat.add_sub_cancel_left]
def am_s1 (y : Nat) (x : am_I) (pc : Nat) (o : Option (Instr × Nat)) : Bool := match o with
  | some (i, n) => (am_ln i == 0 || n == am_ln i) && am_ie (am_nrm y pc i) x
  | none => am_chk y pc x
def am_sc (y : Nat) (cd : Nat → am_I) : Nat → List UInt8 → Nat → Bool
  | 0, _, _ => true
  | f + 1, b, pc => match b with
    | [] => true
    | x :: r => (Nat.beq (cd pc).2.1 99 || am_s1 y (cd pc) pc (fd_c x.toNat r)) && am_sc y cd f r (pc + 1)
theorem am_s1_ok {y pc : Nat} {x : UInt8} {r : List UInt8} {c : am_I} (h : (am_bt y).data.toList.drop pc = x :: r) (q : am_s1 y c pc (fd_c x.toNat r) = true) : am_chk y pc c = true := by
  cases e : fd_c x.toNat r with
  | none => rw [e] at q; exact q
  | some w =>
    rw [e] at q
    unfold am_chk
    rw [fd_de h e]
    exact q
theorem am_sc_ok {y : Nat} {cd : Nat → am_I} : ∀ (f : Nat) (b : List UInt8) (pc : Nat), (am_bt y).data.toList.drop pc = b → am_sc y cd f b pc = true → ∀ j, pc ≤ j → j < pc + f → j < pc + b.length → (cd j).2.1 = 99 ∨ am_chk y j (cd j) = true
  | 0, b, pc, _, _, j, h1, h2, _ => absurd h2 (by omega)
  | f + 1, [], pc, _, _, j, h1, _, h3 => absurd h3 (by simp only [List.length_nil]; omega)
  | f + 1, x :: r, pc, hb, h, j, h1, h2, h3 => by
    have hh : ((Nat.beq (cd pc).2.1 99 || am_s1 y (cd pc) pc (fd_c x.toNat r)) && am_sc y cd f r (pc + 1)) = true := h
    rw [Bool.and_eq_true] at hh
    by_cases e : j = pc
    · subst e
      rcases Bool.or_eq_true_iff.mp hh.1 with q | q
      · exact Or.inl (Nat.eq_of_beq_eq_true q)
      · exact Or.inr (am_s1_ok hb q)
    · rw [List.length_cons] at h3
      exact am_sc_ok f r (pc + 1) (fr_t hb) hh.2 j (by omega) (by omega) (by omega)
def am_byl (y : Nat) : List UInt8 := (am_bt y).data.toList
theorem am_ok_ofF {y N : Nat} {cd' : Nat → am_I} (h : (Nat.ble N (am_byl y).length && am_sc y cd' N (am_byl y) 0) = true) : am_ok y (fun pc => bif Nat.blt pc N then cd' pc else am_bad) := by
  intro pc
  show (bif Nat.blt pc N then cd' pc else am_bad).2.1 = 99 ∨ am_chk y pc (bif Nat.blt pc N then cd' pc else am_bad) = true
  rw [Bool.and_eq_true] at h
  have hl := Nat.le_of_ble_eq_true h.1
  cases hb : Nat.blt pc N with
  | false => exact Or.inl rfl
  | true =>
    have hlt : pc < N := Nat.le_of_ble_eq_true hb
    exact am_sc_ok N (am_byl y) 0 rfl h.2 pc (Nat.zero_le _) (by omega) (by omega)
/-- a piece of a method: m bytes from byte n on -/
theorem am_pc {y n m : Nat} {cd' : Nat → am_I} (h : (Nat.ble (n + m) (am_byl y).length && am_sc y cd' m (List.drop n (am_byl y)) n) = true) : ∀ pc, n ≤ pc → pc < n + m → (cd' pc).2.1 = 99 ∨ am_chk y pc (cd' pc) = true := by
  intro pc h1 h2
  rw [Bool.and_eq_true] at h
  have hl := Nat.le_of_ble_eq_true h.1
  refine am_sc_ok m (List.drop n (am_byl y)) n rfl h.2 pc h1 h2 ?_
  rw [List.length_drop]
  omega
theorem am_ok_all {y N : Nat} {cd' : Nat → am_I} (h : ∀ pc, pc < N → (cd' pc).2.1 = 99 ∨ am_chk y pc (cd' pc) = true) : am_ok y (fun pc => bif Nat.blt pc N then cd' pc else am_bad) := by
  intro pc
  show (bif Nat.blt pc N then cd' pc else am_bad).2.1 = 99 ∨ am_chk y pc (bif Nat.blt pc N then cd' pc else am_bad) = true
  cases hb : Nat.blt pc N with
  | false => exact Or.inl rfl
  | true => exact h pc (Nat.le_of_ble_eq_true hb)
