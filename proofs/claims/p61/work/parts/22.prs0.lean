/-! THE MODEL'S READER of commands over the picture. -/
def pm (D : Bd) (st : PS) : Bd := us (ud (ud (ud D 0 11 (nI st.1)) 0 12 st.2.1) 0 16 (nI st.2.2.1)) 7 st.2.2.2
theorem pm_11 (D : Bd) (st : PS) : pm D st 0 11 = nI st.1 := by unfold pm; rw [us_ne (by omega), ud_ni (by omega), ud_ni (by omega), ud_eq]
theorem pm_12 (D : Bd) (st : PS) : pm D st 0 12 = st.2.1 := by unfold pm; rw [us_ne (by omega), ud_ni (by omega), ud_eq]
theorem pm_16 (D : Bd) (st : PS) : pm D st 0 16 = nI st.2.2.1 := by unfold pm; rw [us_ne (by omega), ud_eq]
theorem pm_7 (D : Bd) (st : PS) : pm D st 7 = st.2.2.2 := by unfold pm; rw [us_eq]
theorem pm_f {D : Bd} {st : PS} {i : Nat} (h4 : i ≠ 11) (h5 : i ≠ 12) (h7 : i ≠ 16) : pm D st 0 i = D 0 i := by unfold pm; rw [us_ne (by omega), ud_ni h7, ud_ni h5, ud_ni h4]
theorem pm_o {D : Bd} {st : PS} {c : Nat} (h : c ≠ 0) (h2 : c ≠ 7) : pm D st c = D c := by unfold pm; rw [us_ne h2, ud_nc h, ud_nc h, ud_nc h]
theorem pm_w11 (D : Bd) (st : PS) (b : Nat) : ud (pm D st) 0 11 (nI b) = pm D (b, st.2) := by
  unfold pm; rw [us_ud (by omega), ud_cm (by omega), ud_cm (j := 11) (by omega), ud_uu]
theorem pm_w12 (D : Bd) (st : PS) (b : Int32) : ud (pm D st) 0 12 b = pm D (st.1, b, st.2.2) := by
  unfold pm; rw [us_ud (by omega), ud_cm (by omega), ud_uu]
theorem pm_w16 (D : Bd) (st : PS) (b : Nat) : ud (pm D st) 0 16 (nI b) = pm D (st.1, st.2.1, b, st.2.2.2) := by
  unfold pm; rw [us_ud (by omega), ud_uu]
theorem pm_w7 (D : Bd) (st : PS) (i : Nat) (v : Int32) : ud (pm D st) 7 i v = pm D (st.1, st.2.1, st.2.2.1, fun j => if j = i then v else st.2.2.2 j) := by
  show us (pm D st) 7 (fun j => if j = i then v else pm D st 7 j) = _
  rw [pm_7]
  unfold pm; rw [us_us]
def cM (D : Bd) : Nat → Int32 := fun i => vp_nar .char (D 6 i)
def bh (T : Nat → Int32) (N p : Nat) : Int32 := if N ≤ p then -1 else T p
def mkS (T : Nat → Int32) (N : Nat) : List Nat → PS → PS
  | [], st => st
  | w :: l, st => if st.2.1 = 0 then (if bh T N st.1 = nI w then mkS T N l (st.1 + 1, 0, st.2.2) else (st.1, 1, st.2.2)) else st
def isD (T : Nat → Int32) (N : Nat) (st : PS) : Bool := decide (st.2.1 = 0) && inR (bh T N st.1) 48 57
def rdN (T : Nat → Int32) (N : Nat) : Nat → Int32 → Nat → Int32 × Nat
  | 0, v, p => (v, p)
  | k + 1, v, p => if inR (bh T N p) 48 57 = true then rdN T N k (10 * v + T p - 48) (p + 1) else (v, p)
def nmR (T : Nat → Int32) (N x : Nat) (st : PS) : Int32 × PS := if isD T N st = true then ((rdN T N x 0 st.1).1, (rdN T N x 0 st.1).2, 0, st.2.2) else (0, st.1, 1, st.2.2)
def shR (T : Nat → Int32) (N : Nat) (any : Bool) (st : PS) : PS := if st.2.1 = 0 ∧ (shp (bh T N st.1) || (any && (bh T N st.1 == 42))) = true then (st.1 + 1, 0, st.2.2) else (st.1, 1, st.2.2)
theorem bh_d {T : Nat → Int32} {N p : Nat} (h : inR (bh T N p) 48 57 = true) : p < N ∧ bh T N p = T p := by
  unfold bh at h ⊢
  by_cases h2 : N ≤ p
  · rw [if_pos h2] at h; exact absurd h (by decide)
  · exact ⟨by omega, if_neg h2⟩
theorem ft1 : fits .boolean (.int 1) = true := by decide
theorem ft0 : fits .boolean (.int 0) = true := by decide
section
variable {G : Glb} {A n r N : Nat} {H : Hp} {m : Mm} {D : Bd} {st : PS} {s : Nat → Int32}
end
