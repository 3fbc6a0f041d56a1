/-! CHECKS of the tables, part 4: instructions and the rest (printed by wip/whole/gen_chk3.py) -/
def exIn (x : Nat) (E : String) : Bool := decide ((x, E) ∈ exL)
def thrB (i pc x : Nat) : Bool := Nat.beq (clsT i) 1 && ((hhT i).isEmpty && (decide (decode (cT i) (pc + 3) = .ok (.dup, 1)) && (match decode (cT i) (pc + 4) with
  | .ok (.ldc sx, 2) => decide (sx ∈ exStr) && (decide (decode (cT i) (pc + 6) = .ok (.invokespecial (x + 4), 3)) && decide (decode (cT i) (pc + 9) = .ok (.athrow, 1)))
  | .ok (.ldc_w sx, 3) => decide (sx ∈ exStr) && (decide (decode (cT i) (pc + 7) = .ok (.invokespecial (x + 4), 3)) && decide (decode (cT i) (pc + 10) = .ok (.athrow, 1)))
  | _ => false)))
def chkI (i pc : Nat) : Instr → Bool
  | .dstore_n _ => false
  | .invokevirtual x => match rmT (clsT i) x with
    | some r => Nat.beq r.1 0
    | none => true
  | .invokestatic x => match rmT (clsT i) x with
    | some r => Nat.beq r.1 1 || (Nat.beq r.1 5 || (Nat.beq r.1 6 || Nat.beq r.1 7))
    | none => true
  | .invokespecial x => match rmT (clsT i) x with
    | some r => Nat.beq r.1 2 || (Nat.beq r.1 3 || Nat.beq r.1 4)
    | none => true
  | .new x => match rcT (clsT i) x with
    | some _ => true
    | none => match reT (clsT i) x with
      | some E => exIn x E && thrB i pc x
      | none => true
  | _ => true
def chkD (i pc : Nat) : Bool := match insT i pc with
  | none => true
  | some q => decide (decode (cT i) pc = .ok q) && ((Nat.beq (lenI q.1) 0 || Nat.beq (lenI q.1) q.2) && chkI i pc q.1)
noncomputable def chkDD (i : Nat) : Bool := allB (lenT i) (chkD i)
theorem chkL_all : ∀ j, j < 3040 → chkD 0 j = true := sorry
theorem chkDD_all : ∀ j, 0 < j → j < 331 → chkDD j = true := sorry
theorem ins_lt {i pc : Nat} {q : Instr × Nat} (h : insT i pc = some q) : pc < lenT i := by
  unfold insT at h
  cases h1 : Nat.blt pc (lenT i) with
  | false => rw [h1] at h; cases h
  | true => exact Nat.le_of_ble_eq_true h1
theorem len_lt {i : Nat} (h : 331 ≤ i) : lenT i = 0 := by
  have e : ∀ c : Nat, c < 331 → Nat.beq i c = false := by
    intro c hc
    cases h9 : Nat.beq i c with
    | false => rfl
    | true => have := Nat.eq_of_beq_eq_true h9; omega
  have e2 : ∀ c : Nat, c < 331 → Nat.ble c i = true := fun c hc => Nat.ble_eq_true_of_le (by omega)
  unfold lenT
  repeat (first | rw [e2 _ (by decide)] | rw [e _ (by decide)] | simp only [cond_true, cond_false])
theorem chkD_ok {i pc : Nat} {ins : Instr} {len : Nat} (h : insT i pc = some (ins, len)) : decode (cT i) pc = .ok (ins, len) ∧ (lenI ins = 0 ∨ lenI ins = len) ∧ chkI i pc ins = true := by
  have hpc := ins_lt h
  have hi : i < 331 := by
    rcases Nat.lt_or_ge i 331 with h1 | h1
    · exact h1
    · rw [len_lt h1] at hpc; omega
  have h2 : chkD i pc = true := by
    rcases Nat.eq_zero_or_pos i with h0 | h0
    · subst h0
      refine chkL_all pc (Nat.lt_of_lt_of_le hpc (by decide))
    · exact allB_ok (chkDD_all i h0 hi) pc hpc
  unfold chkD at h2
  rw [h] at h2
  simp only [Bool.and_eq_true, Bool.or_eq_true] at h2
  obtain ⟨a, b, c⟩ := h2
  refine ⟨of_decide_eq_true a, ?_, c⟩
  rcases b with b | b
  · exact Or.inl (Nat.eq_of_beq_eq_true b)
  · exact Or.inr (Nat.eq_of_beq_eq_true b)
