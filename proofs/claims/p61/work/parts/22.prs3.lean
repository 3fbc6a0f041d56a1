/-! THE MODEL'S READER of commands, part 4: the whole text. -/
def rcL (T : Nat → Int32) (N : Nat) : Nat → PS → PS
  | 0, st => st
  | k + 1, st => if st.2.1 = 0 ∧ bh T N st.1 = 59 then rcL T N k (rc T N (st.1 + 1, st.2)) else st
def pz (T : Nat → Int32) (N : Nat) (C : Nat → Int32) : PS := rcL T N N (rc T N (0, 0, 0, C))
theorem mkS_0 {T : Nat → Int32} {N : Nat} : ∀ {l : List Nat} {st : PS}, (mkS T N l st).2.1 = 0 → st.2.1 = 0 ∧ (mkS T N l st).1 = st.1 + l.length := by
  intro l
  induction l with
  | nil => intro st h; exact ⟨h, rfl⟩
  | cons w l ih =>
    intro st h
    rw [mkS] at h ⊢
    by_cases h1 : st.2.1 = 0
    · rw [if_pos h1] at h ⊢
      by_cases h2 : bh T N st.1 = nI w
      · rw [if_pos h2] at h ⊢
        have := (ih h).2
        refine ⟨h1, ?_⟩
        rw [this, List.length_cons]; show st.1 + 1 + l.length = _; omega
      · rw [if_neg h2] at h; exact absurd h (show ¬ (1 : Int32) = 0 by decide)
    · rw [if_neg h1] at h; exact absurd h h1
theorem mkS_ge {T : Nat → Int32} {N : Nat} : ∀ (l : List Nat) (st : PS), st.1 ≤ (mkS T N l st).1 := by
  intro l
  induction l with
  | nil => intro st; exact Nat.le_refl _
  | cons w l ih =>
    intro st
    rw [mkS]
    by_cases h1 : st.2.1 = 0
    · rw [if_pos h1]
      by_cases h2 : bh T N st.1 = nI w
      · rw [if_pos h2]; exact Nat.le_trans (Nat.le_succ _) (ih (st.1 + 1, 0, st.2.2))
      · rw [if_neg h2]; exact Nat.le_refl _
    · rw [if_neg h1]; exact Nat.le_refl _
theorem rdN_ge {T : Nat → Int32} {N : Nat} : ∀ (k : Nat) (v : Int32) (p : Nat), p ≤ (rdN T N k v p).2 := by
  intro k
  induction k with
  | zero => intro v p; exact Nat.le_refl _
  | succ k ih =>
    intro v p
    rw [rdN]
    split
    · exact Nat.le_trans (Nat.le_succ _) (ih _ _)
    · exact Nat.le_refl _
theorem nmW_ge {T : Nat → Int32} {N x o : Nat} {st : PS} : st.1 ≤ (nmW T N x o st).1 := by
  show st.1 ≤ (nmR T N x st).2.1
  unfold nmR; split
  · exact rdN_ge _ _ _
  · exact Nat.le_refl _
theorem nmW_0 {T : Nat → Int32} {N x o : Nat} {st : PS} (h : (nmW T N x o st).2.1 = 0) : st.2.1 = 0 := by
  have h' : (nmR T N x st).2.2.1 = 0 := h
  unfold nmR at h'
  by_cases hd : isD T N st = true
  · unfold isD at hd; rw [Bool.and_eq_true] at hd; exact of_decide_eq_true hd.1
  · rw [if_neg hd] at h'; exact absurd h' (show ¬ (1 : Int32) = 0 by decide)
theorem shW_ge {T : Nat → Int32} {N o : Nat} {any : Bool} {st : PS} : st.1 ≤ (shW T N any o st).1 := by
  show st.1 ≤ (shR T N any st).1
  unfold shR; split
  · exact Nat.le_succ _
  · exact Nat.le_refl _
theorem shW_0 {T : Nat → Int32} {N o : Nat} {any : Bool} {st : PS} (h : (shW T N any o st).2.1 = 0) : st.2.1 = 0 := by
  have h' : (shR T N any st).2.1 = 0 := h
  unfold shR at h'
  by_cases hd : st.2.1 = 0 ∧ (shp (bh T N st.1) || (any && (bh T N st.1 == 42))) = true
  · exact hd.1
  · rw [if_neg hd] at h'; exact absurd h' (show ¬ (1 : Int32) = 0 by decide)
theorem nmW_c {T : Nat → Int32} {N x o : Nat} {st : PS} : (nmW T N x o st).2.2.1 = st.2.2.1 := by
  show (nmR T N x st).2.2.2.1 = _
  unfold nmR; split <;> rfl
theorem shW_c {T : Nat → Int32} {N o : Nat} {any : Bool} {st : PS} : (shW T N any o st).2.2.1 = st.2.2.1 := by
  show (shR T N any st).2.2.1 = _
  unfold shR; split <;> rfl
theorem mkS_c1 {T : Nat → Int32} {N : Nat} {l : List Nat} {st : PS} : (mkS T N l st).2.2.1 = st.2.2.1 := by rw [mkS_c]
/-- a command: no step back, one more, three letters and more where it is read -/
theorem rcK_all {T : Nat → Int32} {N c : Nat} {k : Int32} {st : PS} (hp : st.1 ≤ N) : (rcK T N c k st).1 ≤ N ∧ st.1 ≤ (rcK T N c k st).1 ∧ (rcK T N c k st).2.2.1 = st.2.2.1 ∧ ((rcK T N c k st).2.1 = 0 → st.1 + 3 ≤ (rcK T N c k st).1) := by
  have W : ∀ {i : Nat}, i ∈ wds → ∀ (st : PS), st.1 ≤ N → (mkS T N (wrd i) st).1 ≤ N := fun hi st h => mkW_le hi h
  unfold rcK
  split
  · have hi : (if bh T N st.1 = 100 then 248 else 250) ∈ wds := by split <;> decide
    have hl : 3 ≤ (wrd (if bh T N st.1 = 100 then 248 else 250)).length := by split <;> decide
    refine ⟨nmW_le (W hi _ hp), Nat.le_trans (mkS_ge ..) nmW_ge, by rw [nmW_c, mkS_c1], fun h => ?_⟩
    have := mkS_0 (nmW_0 h)
    exact Nat.le_trans (by omega) nmW_ge
  split
  · have e1 := W (i := 259) (by decide) _ hp
    have e2 := shW_le (T := T) (any := false) (o := 5 * c + 1) e1
    have e3 := nmW_le (T := T) (x := 3) (o := 5 * c + 2) e2
    have e4 := W (i := 265) (by decide) _ e3
    refine ⟨nmW_le e4, Nat.le_trans (mkS_ge ..) (Nat.le_trans shW_ge (Nat.le_trans nmW_ge (Nat.le_trans (mkS_ge ..) nmW_ge))), by rw [nmW_c, mkS_c1, nmW_c, shW_c, mkS_c1], fun h => ?_⟩
    have := mkS_0 (shW_0 (nmW_0 (mkS_0 (nmW_0 h)).1))
    have hl : 3 ≤ (wrd 259).length := by decide
    exact Nat.le_trans (by omega) (Nat.le_trans shW_ge (Nat.le_trans nmW_ge (Nat.le_trans (mkS_ge ..) nmW_ge)))
  split
  · have e1 := W (i := 267) (by decide) _ hp
    have e2 := shW_le (T := T) (any := true) (o := 5 * c + 1) e1
    have e3 := nmW_le (T := T) (x := 3) (o := 5 * c + 2) e2
    have e4 := W (i := 265) (by decide) _ e3
    have e5 := nmW_le (T := T) (x := 3) (o := 5 * c + 3) e4
    have e6 := W (i := 269) (by decide) _ e5
    refine ⟨nmW_le e6, Nat.le_trans (mkS_ge ..) (Nat.le_trans shW_ge (Nat.le_trans nmW_ge (Nat.le_trans (mkS_ge ..) (Nat.le_trans nmW_ge (Nat.le_trans (mkS_ge ..) nmW_ge))))), by rw [nmW_c, mkS_c1, nmW_c, mkS_c1, nmW_c, shW_c, mkS_c1], fun h => ?_⟩
    have := mkS_0 (shW_0 (nmW_0 (mkS_0 (nmW_0 (mkS_0 (nmW_0 h)).1)).1))
    have hl : 3 ≤ (wrd 267).length := by decide
    exact Nat.le_trans (by omega) (Nat.le_trans shW_ge (Nat.le_trans nmW_ge (Nat.le_trans (mkS_ge ..) (Nat.le_trans nmW_ge (Nat.le_trans (mkS_ge ..) nmW_ge)))))
  split
  · refine ⟨nmW_le (W (i := 271) (by decide) _ hp), Nat.le_trans (mkS_ge ..) nmW_ge, by rw [nmW_c, mkS_c1], fun h => ?_⟩
    have := mkS_0 (nmW_0 h)
    have hl : 3 ≤ (wrd 271).length := by decide
    exact Nat.le_trans (by omega) nmW_ge
  split
  · refine ⟨nmW_le (W (i := 273) (by decide) _ hp), Nat.le_trans (mkS_ge ..) nmW_ge, by rw [nmW_c, mkS_c1], fun h => ?_⟩
    have := mkS_0 (nmW_0 h)
    have hl : 3 ≤ (wrd 273).length := by decide
    exact Nat.le_trans (by omega) nmW_ge
  split
  · have e1 := W (i := 275) (by decide) _ hp
    have e2 := nmW_le (T := T) (x := 1) (o := 5 * c + 2) e1
    have e3 := W (i := 277) (by decide) _ e2
    refine ⟨nmW_le e3, Nat.le_trans (mkS_ge ..) (Nat.le_trans nmW_ge (Nat.le_trans (mkS_ge ..) nmW_ge)), by rw [nmW_c, mkS_c1, nmW_c, mkS_c1], fun h => ?_⟩
    have := mkS_0 (nmW_0 (mkS_0 (nmW_0 h)).1)
    have hl : 3 ≤ (wrd 275).length := by decide
    exact Nat.le_trans (by omega) (Nat.le_trans nmW_ge (Nat.le_trans (mkS_ge ..) nmW_ge))
  split
  · have e1 := W (i := 279) (by decide) _ hp
    have e2 := nmW_le (T := T) (x := 3) (o := 5 * c + 2) e1
    have e3 := W (i := 281) (by decide) _ e2
    refine ⟨nmW_le e3, Nat.le_trans (mkS_ge ..) (Nat.le_trans nmW_ge (Nat.le_trans (mkS_ge ..) nmW_ge)), by rw [nmW_c, mkS_c1, nmW_c, mkS_c1], fun h => ?_⟩
    have := mkS_0 (nmW_0 (mkS_0 (nmW_0 h)).1)
    have hl : 3 ≤ (wrd 279).length := by decide
    exact Nat.le_trans (by omega) (Nat.le_trans nmW_ge (Nat.le_trans (mkS_ge ..) nmW_ge))
  split
  · refine ⟨W (i := 283) (by decide) _ hp, mkS_ge .., mkS_c1, fun h => ?_⟩
    have := mkS_0 h
    have hl : 3 ≤ (wrd 283).length := by decide
    omega
  · refine ⟨W (i := 250) (by decide) _ hp, mkS_ge .., mkS_c1, fun h => ?_⟩
    have := mkS_0 h
    have hl : 3 ≤ (wrd 250).length := by decide
    omega
theorem rc_all {T : Nat → Int32} {N : Nat} {st : PS} (hp : st.1 ≤ N) (h0 : st.2.1 = 0) : (rc T N st).1 ≤ N ∧ st.1 ≤ (rc T N st).1 ∧ (rc T N st).2.2.1 = st.2.2.1 + 1 ∧ ((rc T N st).2.1 = 0 → st.1 + 3 ≤ (rc T N st).1) := by
  unfold rc
  rw [if_pos h0]
  exact rcK_all (st := stC (5 * st.2.2.1) (rck T N st.1) (st.1, st.2.1, st.2.2.1 + 1, st.2.2.2)) hp
section
variable {G : Glb} {A n r N u : Nat} {H : Hp} {m : Mm} {D : Bd} {st : PS} {s : Nat → Int32}
end
