/-! TABLES of bits: sets of less than ten. -/
def pcn (V : Nat) : Nat := cnt (fun j => V.testBit j) 10
def fgN (q V : Nat) : Nat := 2 ^ q * (V / 2 ^ (q + 1)) + V % 2 ^ q
def clN (q V : Nat) : Nat := V &&& (1023 ^^^ 2 ^ q)
theorem bt_bcI : ∀ V, V < 1024 → bcI (nI V) = nI (pcn V) := by decide +kernel
theorem bt_btI : ∀ V, V < 1024 → btI (nI V) = nI (pcn V) := by decide +kernel
theorem bt_ush : ∀ V, V < 1024 → ∀ j, j < 10 → ((ush (nI V) (nI j) &&& 1) == 1) = V.testBit j := by decide +kernel
theorem bt_shr : ∀ V, V < 1024 → ∀ j, j < 10 → (((nI V >>> (nI j &&& 31)) &&& 1) == 1) = V.testBit j := by decide +kernel
theorem bt_shv : ∀ V, V < 1024 → ∀ j, j < 10 → ((nI V >>> (nI j &&& 31)) &&& 1) = if V.testBit j = true then 1 else 0 := by decide +kernel
theorem bt_or : ∀ V, V < 1024 → ∀ j, j < 10 → nI V ||| one j = nI (V ||| 2 ^ j) := by decide +kernel
theorem bt_cl : ∀ V, V < 1024 → ∀ j, j < 10 → nI V &&& (one j ^^^ (-1)) = nI (clN j V) := by decide +kernel
theorem bt_fg : ∀ V, V < 1024 → ∀ q, q < 10 → fgv q (nI V) = nI (fgN q V) := by decide +kernel
theorem bt_orl {V j : Nat} (h : V < 1024) (hj : j < 10) : V ||| 2 ^ j < 1024 := Nat.or_lt_two_pow (n := 10) h (Nat.pow_lt_pow_right (by decide) hj)
theorem bt_cll {V j : Nat} (h : V < 1024) : clN j V < 1024 := Nat.lt_of_le_of_lt Nat.and_le_left h
theorem bt_fgl {V q : Nat} (h : V < 1024) : fgN q V < 1024 := by
  refine Nat.lt_of_le_of_lt ?_ h
  unfold fgN
  have h1 : 2 ^ (q + 1) * (V / 2 ^ (q + 1)) + V % 2 ^ (q + 1) = V := Nat.div_add_mod ..
  have h2 : V % 2 ^ q ≤ V % 2 ^ (q + 1) := by
    have := Nat.mod_mod_of_dvd V (Nat.pow_dvd_pow 2 (Nat.le_succ q))
    rw [← this]; exact Nat.mod_le ..
  have h3 : 2 ^ q * (V / 2 ^ (q + 1)) ≤ 2 ^ (q + 1) * (V / 2 ^ (q + 1)) := Nat.mul_le_mul_right _ (Nat.pow_le_pow_right (by decide) (Nat.le_succ q))
  omega
theorem bt_orb (V q j : Nat) : (V ||| 2 ^ q).testBit j = (V.testBit j || decide (q = j)) := by
  rw [Nat.testBit_or, Nat.testBit_two_pow]
theorem bt_1023 : ∀ j, j < 10 → Nat.testBit 1023 j = true := by decide +kernel
theorem bt_clb (V q j : Nat) (hj : j < 10) : (clN q V).testBit j = (V.testBit j && !decide (q = j)) := by
  unfold clN
  rw [Nat.testBit_and, Nat.testBit_xor, Nat.testBit_two_pow, bt_1023 j hj]
  cases decide (q = j) <;> simp
theorem bt_fgb (V q j : Nat) : (fgN q V).testBit j = V.testBit (if j < q then j else j + 1) := by
  unfold fgN
  rw [Nat.testBit_two_pow_mul_add _ (Nat.mod_lt _ (Nat.two_pow_pos q))]
  by_cases h : j < q
  · rw [if_pos h, if_pos h, Nat.testBit_mod_two_pow, decide_eq_true h, Bool.true_and]
  · rw [if_neg h, if_neg h, Nat.testBit_div_two_pow]
    congr 1; omega
