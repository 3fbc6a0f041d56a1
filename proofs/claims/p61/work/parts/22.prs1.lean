/-! THE MODEL'S READER of commands, part 2: one command. -/
def wrd : Nat → List Nat
  | 248 => [100, 105, 115, 109, 105, 115, 115, 32]
  | 250 => [100, 97, 121]
  | 259 => [97, 112, 112, 108, 121, 32]
  | 265 => [47]
  | 267 => [112, 111, 115, 116, 32]
  | 269 => [61]
  | 271 => [108, 101, 97, 118, 101, 32]
  | 273 => [99, 108, 111, 115, 101, 32]
  | 275 => [104, 105, 114, 101, 32]
  | 277 => [60]
  | 279 => [114, 101, 102, 101, 114, 32]
  | 281 => [62]
  | 283 => [109, 97, 116, 99, 104]
  | _ => []
def wds : List Nat := [248, 250, 259, 265, 267, 269, 271, 273, 275, 277, 279, 281, 283]
def stC (o : Nat) (v : Int32) (st : PS) : PS := (st.1, st.2.1, st.2.2.1, fun j => if j = o then v else st.2.2.2 j)
def nmW (T : Nat → Int32) (N x o : Nat) (st : PS) : PS := stC o (nmR T N x st).1 (nmR T N x st).2
def shW (T : Nat → Int32) (N : Nat) (any : Bool) (o : Nat) (st : PS) : PS := stC o (bh T N st.1) (shR T N any st)
def rcK (T : Nat → Int32) (N c : Nat) (k : Int32) (st : PS) : PS :=
  if k = 105 then nmW T N 1 (5 * c + 2) (mkS T N (wrd (if bh T N st.1 = 100 then 248 else 250)) st)
  else if k = 97 then nmW T N 3 (5 * c + 3) (mkS T N (wrd 265) (nmW T N 3 (5 * c + 2) (shW T N false (5 * c + 1) (mkS T N (wrd 259) st))))
  else if k = 112 then nmW T N 3 (5 * c + 4) (mkS T N (wrd 269) (nmW T N 3 (5 * c + 3) (mkS T N (wrd 265) (nmW T N 3 (5 * c + 2) (shW T N true (5 * c + 1) (mkS T N (wrd 267) st))))))
  else if k = 108 then nmW T N 3 (5 * c + 2) (mkS T N (wrd 271) st)
  else if k = 99 then nmW T N 1 (5 * c + 2) (mkS T N (wrd 273) st)
  else if k = 104 then nmW T N 3 (5 * c + 3) (mkS T N (wrd 277) (nmW T N 1 (5 * c + 2) (mkS T N (wrd 275) st)))
  else if k = 114 then nmW T N 3 (5 * c + 3) (mkS T N (wrd 281) (nmW T N 3 (5 * c + 2) (mkS T N (wrd 279) st)))
  else if k = 109 then mkS T N (wrd 283) st
  else mkS T N (wrd 250) st
def rck (T : Nat → Int32) (N p : Nat) : Int32 := if bh T N p = 100 ∧ bh T N (p + 1) = 105 then 105 else bh T N p
def rc (T : Nat → Int32) (N : Nat) (st : PS) : PS := if st.2.1 = 0 then rcK T N st.2.2.1 (rck T N st.1) (stC (5 * st.2.2.1) (rck T N st.1) (st.1, st.2.1, st.2.2.1 + 1, st.2.2.2)) else st
theorem bh_pos {T : Nat → Int32} {N p : Nat} {x : Int32} (h : bh T N p = x) (hx : ¬ x = -1) : p < N := by
  refine Classical.byContradiction fun hh => ?_
  have h1 : bh T N p = -1 := if_pos (by omega)
  exact hx (h.symm.trans h1)
theorem mkS_le {T : Nat → Int32} {N : Nat} : ∀ (l : List Nat) (st : PS), (∀ w, w ∈ l → w < 128) → st.1 ≤ N → (mkS T N l st).1 ≤ N := by
  intro l
  induction l with
  | nil => intro st _ h; exact h
  | cons w l ih =>
    intro st hw h
    rw [mkS]
    by_cases h1 : st.2.1 = 0
    · rw [if_pos h1]
      by_cases h2 : bh T N st.1 = nI w
      · rw [if_pos h2]
        have := bh_pos h2 (nI_nm1 (by have := hw w List.mem_cons_self; omega))
        exact ih _ (fun w h => hw w (List.mem_cons_of_mem _ h)) (by show st.1 + 1 ≤ N; omega)
      · rw [if_neg h2]; exact h
    · rw [if_neg h1]; exact h
theorem mkS_c {T : Nat → Int32} {N : Nat} : ∀ (l : List Nat) (st : PS), (mkS T N l st).2.2 = st.2.2 := by
  intro l
  induction l with
  | nil => intro st; rfl
  | cons w l ih =>
    intro st
    rw [mkS]
    by_cases h1 : st.2.1 = 0
    · rw [if_pos h1]
      by_cases h2 : bh T N st.1 = nI w
      · rw [if_pos h2, ih]
      · rw [if_neg h2]
    · rw [if_neg h1]
theorem rdN_le {T : Nat → Int32} {N : Nat} : ∀ (k : Nat) (v : Int32) (p : Nat), p ≤ N → (rdN T N k v p).2 ≤ N := by
  intro k
  induction k with
  | zero => intro v p h; exact h
  | succ k ih =>
    intro v p h
    rw [rdN]
    split
    · rename_i h1; exact ih _ _ (bh_d h1).1
    · exact h
theorem nmR_le {T : Nat → Int32} {N x : Nat} {st : PS} (h : st.1 ≤ N) : (nmR T N x st).2.1 ≤ N := by
  unfold nmR; split
  · exact rdN_le _ _ _ h
  · exact h
theorem shR_le {T : Nat → Int32} {N : Nat} {any : Bool} {st : PS} (h : st.1 ≤ N) : (shR T N any st).1 ≤ N := by
  unfold shR; split
  · rename_i h1
    refine Classical.byContradiction fun hh => ?_
    have hb : bh T N st.1 = -1 := if_pos (by
      have : ¬ st.1 + 1 ≤ N := hh
      omega)
    rw [hb] at h1
    cases any <;> exact absurd h1.2 (by decide)
  · exact h
theorem nmW_le {T : Nat → Int32} {N x o : Nat} {st : PS} (h : st.1 ≤ N) : (nmW T N x o st).1 ≤ N := nmR_le h
theorem shW_le {T : Nat → Int32} {N o : Nat} {any : Bool} {st : PS} (h : st.1 ≤ N) : (shW T N any o st).1 ≤ N := shR_le h
theorem wrd_lt {i : Nat} (h : i ∈ wds) : ∀ w, w ∈ wrd i → w < 128 := by
  have : ∀ i, i ∈ wds → (wrd i).all (fun w => decide (w < 128)) = true := by decide +kernel
  have := List.all_eq_true.mp (this i h)
  intro w hw; exact of_decide_eq_true (this w hw)
theorem mkW_le {T : Nat → Int32} {N i : Nat} {st : PS} (hi : i ∈ wds) (h : st.1 ≤ N) : (mkS T N (wrd i) st).1 ≤ N := mkS_le _ _ (wrd_lt hi) h
section
variable {G : Glb} {A n r N : Nat} {H : Hp} {m : Mm} {D : Bd} {st : PS} {s : Nat → Int32}
theorem pm_stC (D : Bd) (st : PS) (o : Nat) (v : Int32) : ud (pm D st) 7 o v = pm D (stC o v st) := pm_w7 ..
end
