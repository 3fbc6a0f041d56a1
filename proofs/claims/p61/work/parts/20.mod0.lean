/-! THE MODEL'S METHODS over the picture, part 0: slots and posts. -/
def su (s : Nat → Int32) (i : Nat) (v : Int32) : Nat → Int32 := fun j => if j = i then v else s j
theorem su_eq (s : Nat → Int32) (i : Nat) (v : Int32) : su s i v i = v := if_pos rfl
theorem su_ne {s : Nat → Int32} {i j : Nat} {v : Int32} (h : j ≠ i) : su s i v j = s j := if_neg h
theorem ud_us1 (D : Bd) (s : Nat → Int32) (i : Nat) (v : Int32) : ud (us D 1 s) 1 i v = us D 1 (su s i v) := by
  unfold ud; rw [us_us, us_eq]; rfl
theorem ud_us0 (D : Bd) (s : Nat → Int32) (i : Nat) (v : Int32) : ud (us D 1 s) 0 i v = us (ud D 0 i v) 1 s := by
  unfold ud; rw [us_comm (by omega), us_ne (by omega)]
theorem ud_usn {D : Bd} {s : Nat → Int32} {c i : Nat} {v : Int32} (h : c ≠ 1) : ud (us D 1 s) c i v = us (ud D c i v) 1 s := by
  unfold ud; rw [us_comm (Ne.symm h), us_ne h]
theorem us_1 {D : Bd} {s X : Nat → Int32} {c : Nat} (h : c ≠ 1) : us (us D 1 s) c X = us (us D c X) 1 s := us_comm (Ne.symm h)
theorem ix6 (a : Nat) : 3 + 6 * nI a = nI (3 + 6 * a) := by
  unfold nI; rw [Int32.ofNat_add, Int32.ofNat_mul]; rfl
theorem ix5 (a : Nat) : 63 + 5 * nI a = nI (63 + 5 * a) := by
  unfold nI; rw [Int32.ofNat_add, Int32.ofNat_mul]; rfl
theorem nI_p0 (x : Nat) : nI x + 0 = nI x := Int32.add_zero _
theorem nI_p2 (x : Nat) : nI x + 2 = nI (x + 2) := nI_add x 2
theorem nI_p3 (x : Nat) : nI x + 3 = nI (x + 3) := nI_add x 3
theorem nI_p4 (x : Nat) : nI x + 4 = nI (x + 4) := nI_add x 4
theorem nI_p5 (x : Nat) : nI x + 5 = nI (x + 5) := nI_add x 5
def sl (s : Nat → Int32) (a w : Nat) : Int32 := s (3 + 6 * a + w)
def po (s : Nat → Int32) (q w : Nat) : Int32 := s (63 + 5 * q + w)
def las (p : Nat → Bool) : Nat → Option Nat
  | 0 => none
  | n + 1 => if p n = true then some n else las p n
theorem las_t {p : Nat → Bool} {i : Nat} (h : p i = true) : las p (i + 1) = some i := if_pos h
theorem las_f {p : Nat → Bool} {i : Nat} (h : p i = false) : las p (i + 1) = las p i := by rw [las, h]; rfl
theorem las_lt {p : Nat → Bool} : ∀ {n i : Nat}, las p n = some i → i < n ∧ p i = true := by
  intro n
  induction n with
  | zero => intro i h; cases h
  | succ n ih =>
    intro i h
    rw [las] at h
    split at h
    · cases h; exact ⟨by omega, by assumption⟩
    · have := ih h; exact ⟨by omega, this.2⟩
def uM (s : Nat → Int32) (a : Nat) : Bool := !(decide (sl s a 0 ≤ 0))
def idM (s : Nat → Int32) (a : Nat) : Int32 := sl s a 0 - 1
def soP (s : Nat → Int32) (x : Int32) (a : Nat) : Bool := !(decide (x < 0)) && (sl s a 0 == x + 1)
def soM (s : Nat → Int32) (x : Int32) : Option Nat := las (soP s x) 10
def fwM (s : Nat → Int32) (p a : Nat) : Option Nat := las (fun q => po s q 4 == nI (a + 1)) p
def wM (s : Nat → Int32) (p a : Nat) : Bool := uM s a && (fwM s p a).isNone
def btI (x : Int32) : Int32 := sm (fun k => (x >>> (nI k &&& 31)) &&& 1) 10
def ptM (s : Nat → Int32) (a : Nat) : Int32 := sl s a 2 - sl s a 3 + 10 * btI (sl s a 5)
def beM (s : Nat → Int32) (a c : Nat) : Bool := decide (0 < ptM s a - ptM s c) || (decide (ptM s a - ptM s c = 0) && !(decide (idM s c ≤ idM s a)))
def prM (s : Nat → Int32) (q t : Nat) : Bool := decide (0 < po s q 3 - po s t 3) || (decide (po s q 3 - po s t 3 = 0) && decide (q < t))
def ftM (s : Nat → Int32) (a q : Nat) : Bool := ((po s q 0 == 42) || (po s q 0 == sl s a 1)) && ((!decide (sl s a 2 < po s q 1)) && !decide (po s q 2 < sl s a 3))
theorem not_neg {i : Nat} (h : i < 2 ^ 31) : ¬ nI i < 0 := nI_pos h
section
variable {G : Glb} {A n r p u : Nat} {H : Hp} {m : Mm} {D : Bd} {s : Nat → Int32}
theorem ten_le {i : Nat} (hi : i < 10) : ¬ (10 : Int32) ≤ nI i := by rw [show (10 : Int32) = nI 10 from rfl, nI_leI (by omega) (by omega)]; omega
theorem ten_10 : (10 : Int32) ≤ nI 10 := by decide
theorem fw_lt {a q : Nat} (h : fwM s p a = some q) : q < p ∧ po s q 4 = nI (a + 1) := by
  have := las_lt h
  exact ⟨this.1, by simpa using this.2⟩
theorem oI_lt {o : Option Nat} (h : ∀ i, o = some i → i < 2 ^ 31) : (oI o < 0) ↔ o = none := by
  cases o with
  | none => simp [oI]
  | some i => simp only [oI, reduceCtorEq, iff_false]; exact nI_pos (h i rfl)
end
