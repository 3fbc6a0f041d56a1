/-! THE MODEL'S READER of commands, part 4: the whole text. -/
def rcL (T : Nat → Int32) (N : Nat) : Nat → PS → PS
  | 0, st => st
  | k + 1, st => if st.2.1 = 0 ∧ bh T N st.1 = 59 then rcL T N k (rc T N (st.1 + 1, st.2)) else st
def pz (T : Nat → Int32) (N : Nat) (C : Nat → Int32) : PS := rcL T N N (rc T N (0, 0, 0, C))
theorem mkS_0 {T : Nat → Int32} {N : Nat} : ∀ {l : List Nat} {st : PS}, (mkS T N l st).2.1 = 0 → st.2.1 = 0 ∧ (mkS T N l st).1 = st.1 + l.length := by
  intro l
  induction l with
  | nil => intro st h; exact ⟨h, rfl⟩
  | cons w l ih =>
    intro st h
    rw [mkS] at h ⊢
    by_cases h1 : st.2.1 = 0
    · rw [if_pos h1] at h ⊢
      by_cases h2 : bh T N st.1 = nI w
      · rw [if_pos h2] at h ⊢
        have := (ih h).2
        refine ⟨h1, ?_⟩
        rw [this, List.length_cons]; show st.1 + 1 + l.length = _; omega
      · rw [if_neg h2] at h; exact absurd h (show ¬ (1 : Int32) = 0 by decide)
    · rw [if_neg h1] at h; exact absurd h h1
theorem mkS_ge {T : Nat → Int32} {N : Nat} : ∀ (l : List Nat) (st : PS), st.1 ≤ (mkS T N l st).1 := by
  intro l
  induction l with
  | nil => intro st; exact Nat.le_refl _
  | cons w l ih =>
    intro st
    rw [mkS]
    by_cases h1 : st.2.1 = 0
    · rw [if_pos h1]
      by_cases h2 : bh T N st.1 = nI w
      · rw [if_pos h2]; exact Nat.le_trans (Nat.le_succ _) (ih (st.1 + 1, 0, st.2.2))
      · rw [if_neg h2]; exact Nat.le_refl _
    · rw [if_neg h1]; exact Nat.le_refl _
theorem rdN_ge {T : Nat → Int32} {N : Nat} : ∀ (k : Nat) (v : Int32) (p : Nat), p ≤ (rdN T N k v p).2 := by
  intro k
  induction k with
  | zero => intro v p; exact Nat.le_refl _
  | succ k ih =>
    intro v p
    rw [rdN]
    split
    · exact Nat.le_trans (Nat.le_succ _) (ih _ _)
    · exact Nat.le_refl _
theorem nmW_ge {T : Nat → Int32} {N x o : Nat} {st : PS} : st.1 ≤ (nmW T N x o st).1 := by
  show st.1 ≤ (nmR T N x st).2.1
  unfold nmR; split
  · exact rdN_ge _ _ _
  · exact Nat.le_refl _
theorem nmW_0 {T : Nat → Int32} {N x o : Nat} {st : PS} (h : (nmW T N x o st).2.1 = 0) : st.2.1 = 0 := by
  have h' : (nmR T N x st).2.2.1 = 0 := h
  unfold nmR at h'
  by_cases hd : isD T N st = true
  · unfold isD at hd; rw [Bool.and_eq_true] at hd; exact of_decide_eq_true hd.1
  · rw [if_neg hd] at h'; exact absurd h' (show ¬ (1 : Int32) = 0 by decide)
theorem shW_ge {T : Nat → Int32} {N o : Nat} {any : Bool} {st : PS} : st.1 ≤ (shW T N any o st).1 := by
  show st.1 ≤ (shR T N any st).1
  unfold shR; split
  · exact Nat.le_succ _
  · exact Nat.le_refl _
theorem shW_0 {T : Nat → Int32} {N o : Nat} {any : Bool} {st : PS} (h : (shW T N any o st).2.1 = 0) : st.2.1 = 0 := by
  have h' : (shR T N any st).2.1 = 0 := h
  unfold shR at h'
  by_cases hd : st.2.1 = 0 ∧ (shp (bh T N st.1) || (any && (bh T N st.1 == 42))) = true
  · exact hd.1
  · rw [if_neg hd] at h'; exact absurd h' (show ¬ (1 : Int32) = 0 by decide)
theorem nmW_c {T : Nat → Int32} {N x o : Nat} {st : PS} : (nmW T N x o st).2.2.1 = st.2.2.1 := by
  show (nmR T N x st).2.2.2.1 = _
  unfold nmR; split <;> rfl
theorem shW_c {T : Nat → Int32} {N o : Nat} {any : Bool} {st : PS} : (shW T N any o st).2.2.1 = st.2.2.1 := by
  show (shR T N any st).2.2.1 = _
  unfold shR; split <;> rfl
theorem mkS_c1 {T : Nat → Int32} {N : Nat} {l : List Nat} {st : PS} : (mkS T N l st).2.2.1 = st.2.2.1 := by rw [mkS_c]
/-- a command: no step back, one more, three letters and more where it is read -/
theorem rcK_all {T : Nat → Int32} {N c : Nat} {k : Int32} {st : PS} (hp : st.1 ≤ N) : (rcK T N c k st).1 ≤ N ∧ st.1 ≤ (rcK T N c k st).1 ∧ (rcK T N c k st).2.2.1 = st.2.2.1 ∧ ((rcK T N c k st).2.1 = 0 → st.1 + 3 ≤ (rcK T N c k st).1) := by
  have W : ∀ {i : Nat}, i ∈ wds → ∀ (st : PS), st.1 ≤ N → (mkS T N (wrd i) st).1 ≤ N := fun hi st h => mkW_le hi h
  unfold rcK
  split
  · have hi : (if bh T N st.1 = 100 then 248 else 250) ∈ wds := by split <;> decide
    have hl : 3 ≤ (wrd (if bh T N st.1 = 100 then 248 else 250)).length := by split <;> decide
    refine ⟨nmW_le (W hi _ hp), Nat.le_trans (mkS_ge ..) nmW_ge, by rw [nmW_c, mkS_c1], fun h => ?_⟩
    have := mkS_0 (nmW_0 h)
    exact Nat.le_trans (by omega) nmW_ge
  split
  · have e1 := W (i := 259) (by decide) _ hp
    have e2 := shW_le (T := T) (any := false) (o := 5 * c + 1) e1
    have e3 := nmW_le (T := T) (x := 3) (o := 5 * c + 2) e2
    have e4 := W (i := 265) (by decide) _ e3
    refine ⟨nmW_le e4, Nat.le_trans (mkS_ge ..) (Nat.le_trans shW_ge (Nat.le_trans nmW_ge (Nat.le_trans (mkS_ge ..) nmW_ge))), by rw [nmW_c, mkS_c1, nmW_c, shW_c, mkS_c1], fun h => ?_⟩
    have := mkS_0 (shW_0 (nmW_0 (mkS_0 (nmW_0 h)).1))
    have hl : 3 ≤ (wrd 259).length := by decide
    exact Nat.le_trans (by omega) (Nat.le_trans shW_ge (Nat.le_trans nmW_ge (Nat.le_trans (mkS_ge ..) nmW_ge)))
  split
  · have e1 := W (i := 267) (by decide) _ hp
    have e2 := shW_le (T := T) (any := true) (o := 5 * c + 1) e1
    have e3 := nmW_le (T := T) (x := 3) (o := 5 * c + 2) e2
    have e4 := W (i := 265) (by decide) _ e3
    have e5 := nmW_le (T := T) (x := 3) (o := 5 * c + 3) e4
    have e6 := W (i := 269) (by decide) _ e5
    refine ⟨nmW_le e6, Nat.le_trans (mkS_ge ..) (Nat.le_trans shW_ge (Nat.le_trans nmW_ge (Nat.le_trans (mkS_ge ..) (Nat.le_trans nmW_ge (Nat.le_trans (mkS_ge ..) nmW_ge))))), by rw [nmW_c, mkS_c1, nmW_c, mkS_c1, nmW_c, shW_c, mkS_c1], fun h => ?_⟩
    have := mkS_0 (shW_0 (nmW_0 (mkS_0 (nmW_0 (mkS_0 (nmW_0 h)).1)).1))
    have hl : 3 ≤ (wrd 267).length := by decide
    exact Nat.le_trans (by omega) (Nat.le_trans shW_ge (Nat.le_trans nmW_ge (Nat.le_trans (mkS_ge ..) (Nat.le_trans nmW_ge (Nat.le_trans (mkS_ge ..) nmW_ge)))))
  split
  · refine ⟨nmW_le (W (i := 271) (by decide) _ hp), Nat.le_trans (mkS_ge ..) nmW_ge, by rw [nmW_c, mkS_c1], fun h => ?_⟩
    have := mkS_0 (nmW_0 h)
    have hl : 3 ≤ (wrd 271).length := by decide
    exact Nat.le_trans (by omega) nmW_ge
  split
  · refine ⟨nmW_le (W (i := 273) (by decide) _ hp), Nat.le_trans (mkS_ge ..) nmW_ge, by rw [nmW_c, mkS_c1], fun h => ?_⟩
    have := mkS_0 (nmW_0 h)
    have hl : 3 ≤ (wrd 273).length := by decide
    exact Nat.le_trans (by omega) nmW_ge
  split
  · have e1 := W (i := 275) (by decide) _ hp
    have e2 := nmW_le (T := T) (x := 1) (o := 5 * c + 2) e1
    have e3 := W (i := 277) (by decide) _ e2
    refine ⟨nmW_le e3, Nat.le_trans (mkS_ge ..) (Nat.le_trans nmW_ge (Nat.le_trans (mkS_ge ..) nmW_ge)), by rw [nmW_c, mkS_c1, nmW_c, mkS_c1], fun h => ?_⟩
    have := mkS_0 (nmW_0 (mkS_0 (nmW_0 h)).1)
    have hl : 3 ≤ (wrd 275).length := by decide
    exact Nat.le_trans (by omega) (Nat.le_trans nmW_ge (Nat.le_trans (mkS_ge ..) nmW_ge))
  split
  · have e1 := W (i := 279) (by decide) _ hp
    have e2 := nmW_le (T := T) (x := 3) (o := 5 * c + 2) e1
    have e3 := W (i := 281) (by decide) _ e2
    refine ⟨nmW_le e3, Nat.le_trans (mkS_ge ..) (Nat.le_trans nmW_ge (Nat.le_trans (mkS_ge ..) nmW_ge)), by rw [nmW_c, mkS_c1, nmW_c, mkS_c1], fun h => ?_⟩
    have := mkS_0 (nmW_0 (mkS_0 (nmW_0 h)).1)
    have hl : 3 ≤ (wrd 279).length := by decide
    exact Nat.le_trans (by omega) (Nat.le_trans nmW_ge (Nat.le_trans (mkS_ge ..) nmW_ge))
  split
  · refine ⟨W (i := 283) (by decide) _ hp, mkS_ge .., mkS_c1, fun h => ?_⟩
    have := mkS_0 h
    have hl : 3 ≤ (wrd 283).length := by decide
    omega
  · refine ⟨W (i := 250) (by decide) _ hp, mkS_ge .., mkS_c1, fun h => ?_⟩
    have := mkS_0 h
    have hl : 3 ≤ (wrd 250).length := by decide
    omega
theorem rc_all {T : Nat → Int32} {N : Nat} {st : PS} (hp : st.1 ≤ N) (h0 : st.2.1 = 0) : (rc T N st).1 ≤ N ∧ st.1 ≤ (rc T N st).1 ∧ (rc T N st).2.2.1 = st.2.2.1 + 1 ∧ ((rc T N st).2.1 = 0 → st.1 + 3 ≤ (rc T N st).1) := by
  unfold rc
  rw [if_pos h0]
  exact rcK_all (st := stC (5 * st.2.2.1) (rck T N st.1) (st.1, st.2.1, st.2.2.1 + 1, st.2.2.2)) hp
section
variable {G : Glb} {A n r N u : Nat} {H : Hp} {m : Mm} {D : Bd} {st : PS} {s : Nat → Int32}
theorem s294_19 (hg : GS G) (hw : WS G H A) (hN : D 0 10 = nI N) (hN60 : N ≤ 60) (o1 : Option Value) (d : Nat) : ∀ (t : Nat) (st : PS), st.1 ≤ N → N ≤ st.1 + t → (st.2.1 = 0 → 3 * st.2.2.1 ≤ st.1) → st.2.2.1 ≤ 20 → (rcL (cM D) N t st).1 ≤ N ∧ (rcL (cM D) N t st).2.2.1 ≤ 20 ∧ run G (d + 6) 294 19 [some (.ref (ad A 12 0)), o1] [] (S A H (sb m 12 (us (pm D st) 1 s)) n r) = run G (d + 6) 294 53 [some (.ref (ad A 12 0)), o1] [] (S A H (sb m 12 (us (pm D (rcL (cM D) N t st)) 1 s)) n r) := by
  intro t
  induction t with
  | zero =>
    intro st hp ht h3 h20
    refine ⟨hp, h20, ?_⟩
    rw [b294_19, rcL]
    by_cases hf : st.2.1 = 0
    · have hb : bh (cM D) N st.1 = -1 := if_pos (by omega)
      simp (disch := first | assumption | omega | (refine sbh ?_ ?_ <;> first | assumption | omega) | (refine sbPV ?_ ?_ <;> first | assumption | omega)) only [rcB0, ↓rfB0_0b, ↓rfB0_1b, ↓rfB0_2b, ↓wfB0_2b, rcB1, ↓rfB1_0b, ↓wfB1_0b, ↓rfB1_1b, ↓wfB1_1b, ↓rfB1_2b, ↓rfB1_3b, ↓rfB1_4b, ↓rfB1_5b, ↓rfB1_6b, ↓rfB1_7b, ↓rfB1_8b, ↓raB2b, ↓waB2b, ↓naB2b, ↓raB3b, ↓waB3b, ↓naB3b, ↓raB4b, ↓waB4b, ↓naB4b, ↓raB5b, ↓waB5b, ↓naB5b, ↓raB6b, ↓waB6b, ↓naB6b, ↓raB7b, ↓waB7b, ↓naB7b, ↓raB8b, ↓waB8b, ↓naB8b, rcB9, ↓rfB9_0b, ↓wfB9_0b, ↓rfB9_1b, ↓rfB9_2b, ↓rfB9_3b, ↓rfB9_4b, ↓raB10b, ↓waB10b, ↓naB10b, ↓raB11b, ↓waB11b, ↓naB11b, ↓raB12b, ↓waB12b, ↓naB12b, ↓raB13b, ↓waB13b, ↓naB13b, rcX0, ↓rfX0_0b, ↓rfX0_1b, ↓rfX0_2b, ↓rfX0_3b, ↓rfX0_4b, ↓wfX0_4b, ↓rfX0_5b, ↓wfX0_5b, ↓rfX0_6b, ↓rfX0_7b, ↓rfX0_8b, ↓rfX0_9b, ↓wfX0_9b, ↓rfX0_10b, ↓wfX0_10b, rcX2, ↓rfX2_0b, ↓rfX2_1b, ↓rfX2_2b, ↓rfX2_3b, ↓rfX2_4b, ↓rfX2_5b, ↓raX3b, ↓waX3b, ↓naX3b, ↓raX4b, ↓waX4b, ↓naX4b, ↓raX5b, ↓waX5b, ↓naX5b, ↓raX6b, ↓waX6b, ↓naX6b, ↓raX7b, ↓waX7b, ↓raX7L0b, ↓waX7L0b, ↓naX7b, ↓raX8b, ↓waX8b, ↓naX8b, rcX11, ↓rfX11_0b, ↓rfX11_1b, ↓wfX11_1b, ↓rfX11_2b, ↓rfX11_3b, ↓wfX11_3b, ↓rfX11_4b, ↓wfX11_4b, ↓rfX11_5b, ↓wfX11_5b, ↓rfX11_6b, ↓rfX11_7b, ↓wfX11_7b, ↓raX12b, ↓waX12b, ↓naX12b, ↓raX13b, ↓waX13b, ↓naX13b, ↓raX14b, ↓waX14b, ↓raX14L0b, ↓waX14L0b, ↓raX14L1b, ↓waX14L1b, ↓raX14L2b, ↓waX14L2b, ↓naX14b, rcM0, ↓rfM0_0b, ↓rfM0_1b, ↓rfM0_2b, ↓rfM0_3b, ↓wfM0_3b, ↓rfM0_4b, ↓rfM0_5b, ↓wfM0_5b, ↓rfM0_6b, ↓wfM0_6b, ↓rfM0_7b, ↓rfM0_8b, ↓wfM0_8b, ↓rfM0_9b, ↓rfM0_10b, ↓wfM0_10b, ↓rfM0_11b, ↓wfM0_11b, ↓rfM0_12b, ↓wfM0_12b, ↓rfM0_13b, ↓wfM0_13b, ↓rfM0_14b, ↓wfM0_14b, ↓rfM0_15b, ↓rfM0_16b, ↓wfM0_16b, ↓raM1b, ↓waM1b, ↓raM1L0b, ↓waM1L0b, ↓raM1L1b, ↓waM1L1b, ↓raM1L2b, ↓waM1L2b, ↓naM1b, ↓raM2b, ↓waM2b, ↓naM2b, ↓raM3b, ↓waM3b, ↓naM3b, ↓raM4b, ↓waM4b, ↓naM4b, ↓raM5b, ↓waM5b, ↓naM5b, ↓raM6b, ↓waM6b, ↓naM6b, ↓raM7b, ↓waM7b, ↓naM7b, ↓caB2b, ↓caB2Lb, ↓caB3b, ↓caB3Lb, ↓caB4b, ↓caB4Lb, ↓caB5b, ↓caB5Lb, ↓caB6b, ↓caB6Lb, ↓caB7b, ↓caB7Lb, ↓caB8b, ↓caB8Lb, ↓caB10b, ↓caB10Lb, ↓caB11b, ↓caB11Lb, ↓caB12b, ↓caB12Lb, ↓caB13b, ↓caB13Lb, ↓caM11b, ↓caM11Lb, ↓caM11Yb, ↓caM11Xb, ↓caM12b, ↓caM12Lb, ↓caM12Yb, ↓caM12Xb, ↓caM21b, ↓caM21Lb, ↓caM21Yb, ↓caM21Xb, ↓caM13b, ↓caM13Lb, ↓caM13Yb, ↓caM13Xb, ↓caM31b, ↓caM31Lb, ↓caM31Yb, ↓caM31Xb, ↓caM24b, ↓caM24Lb, ↓caM24Yb, ↓caM24Xb, ↓caM44b, ↓caM44Yb, ↓caM44Xb, ↓caM44Lb, ↓caM41b, ↓caM41Lb, ↓caM41Yb, ↓caM41Xb, ↓raHb, ↓raH0b, ↓waHb, ↓waH7b, Option.bind_some, cI_ok, cR_ok, cV_ok, cN_ok, cN_nu, cI_ex, cR_ex, cV_ex, gI_sm, gR_sm, sb_eq, sb_sb, wexc_S, ↓reduceIte, eq_self, vI_def, vV_def, vR_def, nI_1, true_and, and_true, ix6, ix5, nI_p0, nI_p2, nI_p3, nI_p4, nI_p5, us_eq, ud_us1, ud_us0, ud_usn, us_us, us_ne, ud_eq, ud_ni, ud_nc, pm_11, pm_12, pm_16, pm_7, pm_f, pm_o, pm_w11, pm_w12, pm_w16, pm_w7, hf, ↓s287c, hb, show ¬ (-1 : Int32) = 59 by decide]
    · simp (disch := first | assumption | omega | (refine sbh ?_ ?_ <;> first | assumption | omega) | (refine sbPV ?_ ?_ <;> first | assumption | omega)) only [rcB0, ↓rfB0_0b, ↓rfB0_1b, ↓rfB0_2b, ↓wfB0_2b, rcB1, ↓rfB1_0b, ↓wfB1_0b, ↓rfB1_1b, ↓wfB1_1b, ↓rfB1_2b, ↓rfB1_3b, ↓rfB1_4b, ↓rfB1_5b, ↓rfB1_6b, ↓rfB1_7b, ↓rfB1_8b, ↓raB2b, ↓waB2b, ↓naB2b, ↓raB3b, ↓waB3b, ↓naB3b, ↓raB4b, ↓waB4b, ↓naB4b, ↓raB5b, ↓waB5b, ↓naB5b, ↓raB6b, ↓waB6b, ↓naB6b, ↓raB7b, ↓waB7b, ↓naB7b, ↓raB8b, ↓waB8b, ↓naB8b, rcB9, ↓rfB9_0b, ↓wfB9_0b, ↓rfB9_1b, ↓rfB9_2b, ↓rfB9_3b, ↓rfB9_4b, ↓raB10b, ↓waB10b, ↓naB10b, ↓raB11b, ↓waB11b, ↓naB11b, ↓raB12b, ↓waB12b, ↓naB12b, ↓raB13b, ↓waB13b, ↓naB13b, rcX0, ↓rfX0_0b, ↓rfX0_1b, ↓rfX0_2b, ↓rfX0_3b, ↓rfX0_4b, ↓wfX0_4b, ↓rfX0_5b, ↓wfX0_5b, ↓rfX0_6b, ↓rfX0_7b, ↓rfX0_8b, ↓rfX0_9b, ↓wfX0_9b, ↓rfX0_10b, ↓wfX0_10b, rcX2, ↓rfX2_0b, ↓rfX2_1b, ↓rfX2_2b, ↓rfX2_3b, ↓rfX2_4b, ↓rfX2_5b, ↓raX3b, ↓waX3b, ↓naX3b, ↓raX4b, ↓waX4b, ↓naX4b, ↓raX5b, ↓waX5b, ↓naX5b, ↓raX6b, ↓waX6b, ↓naX6b, ↓raX7b, ↓waX7b, ↓raX7L0b, ↓waX7L0b, ↓naX7b, ↓raX8b, ↓waX8b, ↓naX8b, rcX11, ↓rfX11_0b, ↓rfX11_1b, ↓wfX11_1b, ↓rfX11_2b, ↓rfX11_3b, ↓wfX11_3b, ↓rfX11_4b, ↓wfX11_4b, ↓rfX11_5b, ↓wfX11_5b, ↓rfX11_6b, ↓rfX11_7b, ↓wfX11_7b, ↓raX12b, ↓waX12b, ↓naX12b, ↓raX13b, ↓waX13b, ↓naX13b, ↓raX14b, ↓waX14b, ↓raX14L0b, ↓waX14L0b, ↓raX14L1b, ↓waX14L1b, ↓raX14L2b, ↓waX14L2b, ↓naX14b, rcM0, ↓rfM0_0b, ↓rfM0_1b, ↓rfM0_2b, ↓rfM0_3b, ↓wfM0_3b, ↓rfM0_4b, ↓rfM0_5b, ↓wfM0_5b, ↓rfM0_6b, ↓wfM0_6b, ↓rfM0_7b, ↓rfM0_8b, ↓wfM0_8b, ↓rfM0_9b, ↓rfM0_10b, ↓wfM0_10b, ↓rfM0_11b, ↓wfM0_11b, ↓rfM0_12b, ↓wfM0_12b, ↓rfM0_13b, ↓wfM0_13b, ↓rfM0_14b, ↓wfM0_14b, ↓rfM0_15b, ↓rfM0_16b, ↓wfM0_16b, ↓raM1b, ↓waM1b, ↓raM1L0b, ↓waM1L0b, ↓raM1L1b, ↓waM1L1b, ↓raM1L2b, ↓waM1L2b, ↓naM1b, ↓raM2b, ↓waM2b, ↓naM2b, ↓raM3b, ↓waM3b, ↓naM3b, ↓raM4b, ↓waM4b, ↓naM4b, ↓raM5b, ↓waM5b, ↓naM5b, ↓raM6b, ↓waM6b, ↓naM6b, ↓raM7b, ↓waM7b, ↓naM7b, ↓caB2b, ↓caB2Lb, ↓caB3b, ↓caB3Lb, ↓caB4b, ↓caB4Lb, ↓caB5b, ↓caB5Lb, ↓caB6b, ↓caB6Lb, ↓caB7b, ↓caB7Lb, ↓caB8b, ↓caB8Lb, ↓caB10b, ↓caB10Lb, ↓caB11b, ↓caB11Lb, ↓caB12b, ↓caB12Lb, ↓caB13b, ↓caB13Lb, ↓caM11b, ↓caM11Lb, ↓caM11Yb, ↓caM11Xb, ↓caM12b, ↓caM12Lb, ↓caM12Yb, ↓caM12Xb, ↓caM21b, ↓caM21Lb, ↓caM21Yb, ↓caM21Xb, ↓caM13b, ↓caM13Lb, ↓caM13Yb, ↓caM13Xb, ↓caM31b, ↓caM31Lb, ↓caM31Yb, ↓caM31Xb, ↓caM24b, ↓caM24Lb, ↓caM24Yb, ↓caM24Xb, ↓caM44b, ↓caM44Yb, ↓caM44Xb, ↓caM44Lb, ↓caM41b, ↓caM41Lb, ↓caM41Yb, ↓caM41Xb, ↓raHb, ↓raH0b, ↓waHb, ↓waH7b, Option.bind_some, cI_ok, cR_ok, cV_ok, cN_ok, cN_nu, cI_ex, cR_ex, cV_ex, gI_sm, gR_sm, sb_eq, sb_sb, wexc_S, ↓reduceIte, eq_self, vI_def, vV_def, vR_def, nI_1, true_and, and_true, ix6, ix5, nI_p0, nI_p2, nI_p3, nI_p4, nI_p5, us_eq, ud_us1, ud_us0, ud_usn, us_us, us_ne, ud_eq, ud_ni, ud_nc, pm_11, pm_12, pm_16, pm_7, pm_f, pm_o, pm_w11, pm_w12, pm_w16, pm_w7, hf]
  | succ t ih =>
    intro st hp ht h3 h20
    rw [rcL]
    by_cases hf : st.2.1 = 0
    · by_cases hb : bh (cM D) N st.1 = 59
      · have hlt := bh_pos hb (by decide)
        rw [if_pos ⟨hf, hb⟩]
        have h3' := h3 hf
        have ra := rc_all (T := cM D) (N := N) (st := (st.1 + 1, st.2)) (by show st.1 + 1 ≤ N; omega) hf
        have i1 : st.1 + 1 ≤ (rc (cM D) N (st.1 + 1, st.2)).1 := ra.2.1
        have i2 : (rc (cM D) N (st.1 + 1, st.2)).2.2.1 = st.2.2.1 + 1 := ra.2.2.1
        have i3 : (rc (cM D) N (st.1 + 1, st.2)).2.1 = 0 → st.1 + 1 + 3 ≤ (rc (cM D) N (st.1 + 1, st.2)).1 := ra.2.2.2
        have := ih (rc (cM D) N (st.1 + 1, st.2)) ra.1 (by omega) (fun h => by have := i3 h; omega) (by omega)
        refine ⟨this.1, this.2.1, ?_⟩
        rw [← this.2.2, b294_19]
        have hs := s292 (G := G) (A := A) (n := n) (r := r) (H := H) (m := m) (s := s) (st := (st.1 + 1, st.2)) hg hw hN hN60 (by show st.1 + 1 ≤ N; omega) (by show st.2.2.1 < 59; omega) d
        simp (disch := first | assumption | omega | (refine sbh ?_ ?_ <;> first | assumption | omega) | (refine sbPV ?_ ?_ <;> first | assumption | omega)) only [rcB0, ↓rfB0_0b, ↓rfB0_1b, ↓rfB0_2b, ↓wfB0_2b, rcB1, ↓rfB1_0b, ↓wfB1_0b, ↓rfB1_1b, ↓wfB1_1b, ↓rfB1_2b, ↓rfB1_3b, ↓rfB1_4b, ↓rfB1_5b, ↓rfB1_6b, ↓rfB1_7b, ↓rfB1_8b, ↓raB2b, ↓waB2b, ↓naB2b, ↓raB3b, ↓waB3b, ↓naB3b, ↓raB4b, ↓waB4b, ↓naB4b, ↓raB5b, ↓waB5b, ↓naB5b, ↓raB6b, ↓waB6b, ↓naB6b, ↓raB7b, ↓waB7b, ↓naB7b, ↓raB8b, ↓waB8b, ↓naB8b, rcB9, ↓rfB9_0b, ↓wfB9_0b, ↓rfB9_1b, ↓rfB9_2b, ↓rfB9_3b, ↓rfB9_4b, ↓raB10b, ↓waB10b, ↓naB10b, ↓raB11b, ↓waB11b, ↓naB11b, ↓raB12b, ↓waB12b, ↓naB12b, ↓raB13b, ↓waB13b, ↓naB13b, rcX0, ↓rfX0_0b, ↓rfX0_1b, ↓rfX0_2b, ↓rfX0_3b, ↓rfX0_4b, ↓wfX0_4b, ↓rfX0_5b, ↓wfX0_5b, ↓rfX0_6b, ↓rfX0_7b, ↓rfX0_8b, ↓rfX0_9b, ↓wfX0_9b, ↓rfX0_10b, ↓wfX0_10b, rcX2, ↓rfX2_0b, ↓rfX2_1b, ↓rfX2_2b, ↓rfX2_3b, ↓rfX2_4b, ↓rfX2_5b, ↓raX3b, ↓waX3b, ↓naX3b, ↓raX4b, ↓waX4b, ↓naX4b, ↓raX5b, ↓waX5b, ↓naX5b, ↓raX6b, ↓waX6b, ↓naX6b, ↓raX7b, ↓waX7b, ↓raX7L0b, ↓waX7L0b, ↓naX7b, ↓raX8b, ↓waX8b, ↓naX8b, rcX11, ↓rfX11_0b, ↓rfX11_1b, ↓wfX11_1b, ↓rfX11_2b, ↓rfX11_3b, ↓wfX11_3b, ↓rfX11_4b, ↓wfX11_4b, ↓rfX11_5b, ↓wfX11_5b, ↓rfX11_6b, ↓rfX11_7b, ↓wfX11_7b, ↓raX12b, ↓waX12b, ↓naX12b, ↓raX13b, ↓waX13b, ↓naX13b, ↓raX14b, ↓waX14b, ↓raX14L0b, ↓waX14L0b, ↓raX14L1b, ↓waX14L1b, ↓raX14L2b, ↓waX14L2b, ↓naX14b, rcM0, ↓rfM0_0b, ↓rfM0_1b, ↓rfM0_2b, ↓rfM0_3b, ↓wfM0_3b, ↓rfM0_4b, ↓rfM0_5b, ↓wfM0_5b, ↓rfM0_6b, ↓wfM0_6b, ↓rfM0_7b, ↓rfM0_8b, ↓wfM0_8b, ↓rfM0_9b, ↓rfM0_10b, ↓wfM0_10b, ↓rfM0_11b, ↓wfM0_11b, ↓rfM0_12b, ↓wfM0_12b, ↓rfM0_13b, ↓wfM0_13b, ↓rfM0_14b, ↓wfM0_14b, ↓rfM0_15b, ↓rfM0_16b, ↓wfM0_16b, ↓raM1b, ↓waM1b, ↓raM1L0b, ↓waM1L0b, ↓raM1L1b, ↓waM1L1b, ↓raM1L2b, ↓waM1L2b, ↓naM1b, ↓raM2b, ↓waM2b, ↓naM2b, ↓raM3b, ↓waM3b, ↓naM3b, ↓raM4b, ↓waM4b, ↓naM4b, ↓raM5b, ↓waM5b, ↓naM5b, ↓raM6b, ↓waM6b, ↓naM6b, ↓raM7b, ↓waM7b, ↓naM7b, ↓caB2b, ↓caB2Lb, ↓caB3b, ↓caB3Lb, ↓caB4b, ↓caB4Lb, ↓caB5b, ↓caB5Lb, ↓caB6b, ↓caB6Lb, ↓caB7b, ↓caB7Lb, ↓caB8b, ↓caB8Lb, ↓caB10b, ↓caB10Lb, ↓caB11b, ↓caB11Lb, ↓caB12b, ↓caB12Lb, ↓caB13b, ↓caB13Lb, ↓caM11b, ↓caM11Lb, ↓caM11Yb, ↓caM11Xb, ↓caM12b, ↓caM12Lb, ↓caM12Yb, ↓caM12Xb, ↓caM21b, ↓caM21Lb, ↓caM21Yb, ↓caM21Xb, ↓caM13b, ↓caM13Lb, ↓caM13Yb, ↓caM13Xb, ↓caM31b, ↓caM31Lb, ↓caM31Yb, ↓caM31Xb, ↓caM24b, ↓caM24Lb, ↓caM24Yb, ↓caM24Xb, ↓caM44b, ↓caM44Yb, ↓caM44Xb, ↓caM44Lb, ↓caM41b, ↓caM41Lb, ↓caM41Yb, ↓caM41Xb, ↓raHb, ↓raH0b, ↓waHb, ↓waH7b, Option.bind_some, cI_ok, cR_ok, cV_ok, cN_ok, cN_nu, cI_ex, cR_ex, cV_ex, gI_sm, gR_sm, sb_eq, sb_sb, wexc_S, ↓reduceIte, eq_self, vI_def, vV_def, vR_def, nI_1, true_and, and_true, ix6, ix5, nI_p0, nI_p2, nI_p3, nI_p4, nI_p5, us_eq, ud_us1, ud_us0, ud_usn, us_us, us_ne, ud_eq, ud_ni, ud_nc, pm_11, pm_12, pm_16, pm_7, pm_f, pm_o, pm_w11, pm_w12, pm_w16, pm_w7, hf, ↓s287c, hb]
        rw [hs]; rfl
      · rw [if_neg (fun h => hb h.2)]
        refine ⟨hp, h20, ?_⟩
        rw [b294_19]
        simp (disch := first | assumption | omega | (refine sbh ?_ ?_ <;> first | assumption | omega) | (refine sbPV ?_ ?_ <;> first | assumption | omega)) only [rcB0, ↓rfB0_0b, ↓rfB0_1b, ↓rfB0_2b, ↓wfB0_2b, rcB1, ↓rfB1_0b, ↓wfB1_0b, ↓rfB1_1b, ↓wfB1_1b, ↓rfB1_2b, ↓rfB1_3b, ↓rfB1_4b, ↓rfB1_5b, ↓rfB1_6b, ↓rfB1_7b, ↓rfB1_8b, ↓raB2b, ↓waB2b, ↓naB2b, ↓raB3b, ↓waB3b, ↓naB3b, ↓raB4b, ↓waB4b, ↓naB4b, ↓raB5b, ↓waB5b, ↓naB5b, ↓raB6b, ↓waB6b, ↓naB6b, ↓raB7b, ↓waB7b, ↓naB7b, ↓raB8b, ↓waB8b, ↓naB8b, rcB9, ↓rfB9_0b, ↓wfB9_0b, ↓rfB9_1b, ↓rfB9_2b, ↓rfB9_3b, ↓rfB9_4b, ↓raB10b, ↓waB10b, ↓naB10b, ↓raB11b, ↓waB11b, ↓naB11b, ↓raB12b, ↓waB12b, ↓naB12b, ↓raB13b, ↓waB13b, ↓naB13b, rcX0, ↓rfX0_0b, ↓rfX0_1b, ↓rfX0_2b, ↓rfX0_3b, ↓rfX0_4b, ↓wfX0_4b, ↓rfX0_5b, ↓wfX0_5b, ↓rfX0_6b, ↓rfX0_7b, ↓rfX0_8b, ↓rfX0_9b, ↓wfX0_9b, ↓rfX0_10b, ↓wfX0_10b, rcX2, ↓rfX2_0b, ↓rfX2_1b, ↓rfX2_2b, ↓rfX2_3b, ↓rfX2_4b, ↓rfX2_5b, ↓raX3b, ↓waX3b, ↓naX3b, ↓raX4b, ↓waX4b, ↓naX4b, ↓raX5b, ↓waX5b, ↓naX5b, ↓raX6b, ↓waX6b, ↓naX6b, ↓raX7b, ↓waX7b, ↓raX7L0b, ↓waX7L0b, ↓naX7b, ↓raX8b, ↓waX8b, ↓naX8b, rcX11, ↓rfX11_0b, ↓rfX11_1b, ↓wfX11_1b, ↓rfX11_2b, ↓rfX11_3b, ↓wfX11_3b, ↓rfX11_4b, ↓wfX11_4b, ↓rfX11_5b, ↓wfX11_5b, ↓rfX11_6b, ↓rfX11_7b, ↓wfX11_7b, ↓raX12b, ↓waX12b, ↓naX12b, ↓raX13b, ↓waX13b, ↓naX13b, ↓raX14b, ↓waX14b, ↓raX14L0b, ↓waX14L0b, ↓raX14L1b, ↓waX14L1b, ↓raX14L2b, ↓waX14L2b, ↓naX14b, rcM0, ↓rfM0_0b, ↓rfM0_1b, ↓rfM0_2b, ↓rfM0_3b, ↓wfM0_3b, ↓rfM0_4b, ↓rfM0_5b, ↓wfM0_5b, ↓rfM0_6b, ↓wfM0_6b, ↓rfM0_7b, ↓rfM0_8b, ↓wfM0_8b, ↓rfM0_9b, ↓rfM0_10b, ↓wfM0_10b, ↓rfM0_11b, ↓wfM0_11b, ↓rfM0_12b, ↓wfM0_12b, ↓rfM0_13b, ↓wfM0_13b, ↓rfM0_14b, ↓wfM0_14b, ↓rfM0_15b, ↓rfM0_16b, ↓wfM0_16b, ↓raM1b, ↓waM1b, ↓raM1L0b, ↓waM1L0b, ↓raM1L1b, ↓waM1L1b, ↓raM1L2b, ↓waM1L2b, ↓naM1b, ↓raM2b, ↓waM2b, ↓naM2b, ↓raM3b, ↓waM3b, ↓naM3b, ↓raM4b, ↓waM4b, ↓naM4b, ↓raM5b, ↓waM5b, ↓naM5b, ↓raM6b, ↓waM6b, ↓naM6b, ↓raM7b, ↓waM7b, ↓naM7b, ↓caB2b, ↓caB2Lb, ↓caB3b, ↓caB3Lb, ↓caB4b, ↓caB4Lb, ↓caB5b, ↓caB5Lb, ↓caB6b, ↓caB6Lb, ↓caB7b, ↓caB7Lb, ↓caB8b, ↓caB8Lb, ↓caB10b, ↓caB10Lb, ↓caB11b, ↓caB11Lb, ↓caB12b, ↓caB12Lb, ↓caB13b, ↓caB13Lb, ↓caM11b, ↓caM11Lb, ↓caM11Yb, ↓caM11Xb, ↓caM12b, ↓caM12Lb, ↓caM12Yb, ↓caM12Xb, ↓caM21b, ↓caM21Lb, ↓caM21Yb, ↓caM21Xb, ↓caM13b, ↓caM13Lb, ↓caM13Yb, ↓caM13Xb, ↓caM31b, ↓caM31Lb, ↓caM31Yb, ↓caM31Xb, ↓caM24b, ↓caM24Lb, ↓caM24Yb, ↓caM24Xb, ↓caM44b, ↓caM44Yb, ↓caM44Xb, ↓caM44Lb, ↓caM41b, ↓caM41Lb, ↓caM41Yb, ↓caM41Xb, ↓raHb, ↓raH0b, ↓waHb, ↓waH7b, Option.bind_some, cI_ok, cR_ok, cV_ok, cN_ok, cN_nu, cI_ex, cR_ex, cV_ex, gI_sm, gR_sm, sb_eq, sb_sb, wexc_S, ↓reduceIte, eq_self, vI_def, vV_def, vR_def, nI_1, true_and, and_true, ix6, ix5, nI_p0, nI_p2, nI_p3, nI_p4, nI_p5, us_eq, ud_us1, ud_us0, ud_usn, us_us, us_ne, ud_eq, ud_ni, ud_nc, pm_11, pm_12, pm_16, pm_7, pm_f, pm_o, pm_w11, pm_w12, pm_w16, pm_w7, hf, ↓s287c, hb]
    · rw [if_neg (fun h => hf h.1)]
      refine ⟨hp, h20, ?_⟩
      rw [b294_19]
      simp (disch := first | assumption | omega | (refine sbh ?_ ?_ <;> first | assumption | omega) | (refine sbPV ?_ ?_ <;> first | assumption | omega)) only [rcB0, ↓rfB0_0b, ↓rfB0_1b, ↓rfB0_2b, ↓wfB0_2b, rcB1, ↓rfB1_0b, ↓wfB1_0b, ↓rfB1_1b, ↓wfB1_1b, ↓rfB1_2b, ↓rfB1_3b, ↓rfB1_4b, ↓rfB1_5b, ↓rfB1_6b, ↓rfB1_7b, ↓rfB1_8b, ↓raB2b, ↓waB2b, ↓naB2b, ↓raB3b, ↓waB3b, ↓naB3b, ↓raB4b, ↓waB4b, ↓naB4b, ↓raB5b, ↓waB5b, ↓naB5b, ↓raB6b, ↓waB6b, ↓naB6b, ↓raB7b, ↓waB7b, ↓naB7b, ↓raB8b, ↓waB8b, ↓naB8b, rcB9, ↓rfB9_0b, ↓wfB9_0b, ↓rfB9_1b, ↓rfB9_2b, ↓rfB9_3b, ↓rfB9_4b, ↓raB10b, ↓waB10b, ↓naB10b, ↓raB11b, ↓waB11b, ↓naB11b, ↓raB12b, ↓waB12b, ↓naB12b, ↓raB13b, ↓waB13b, ↓naB13b, rcX0, ↓rfX0_0b, ↓rfX0_1b, ↓rfX0_2b, ↓rfX0_3b, ↓rfX0_4b, ↓wfX0_4b, ↓rfX0_5b, ↓wfX0_5b, ↓rfX0_6b, ↓rfX0_7b, ↓rfX0_8b, ↓rfX0_9b, ↓wfX0_9b, ↓rfX0_10b, ↓wfX0_10b, rcX2, ↓rfX2_0b, ↓rfX2_1b, ↓rfX2_2b, ↓rfX2_3b, ↓rfX2_4b, ↓rfX2_5b, ↓raX3b, ↓waX3b, ↓naX3b, ↓raX4b, ↓waX4b, ↓naX4b, ↓raX5b, ↓waX5b, ↓naX5b, ↓raX6b, ↓waX6b, ↓naX6b, ↓raX7b, ↓waX7b, ↓raX7L0b, ↓waX7L0b, ↓naX7b, ↓raX8b, ↓waX8b, ↓naX8b, rcX11, ↓rfX11_0b, ↓rfX11_1b, ↓wfX11_1b, ↓rfX11_2b, ↓rfX11_3b, ↓wfX11_3b, ↓rfX11_4b, ↓wfX11_4b, ↓rfX11_5b, ↓wfX11_5b, ↓rfX11_6b, ↓rfX11_7b, ↓wfX11_7b, ↓raX12b, ↓waX12b, ↓naX12b, ↓raX13b, ↓waX13b, ↓naX13b, ↓raX14b, ↓waX14b, ↓raX14L0b, ↓waX14L0b, ↓raX14L1b, ↓waX14L1b, ↓raX14L2b, ↓waX14L2b, ↓naX14b, rcM0, ↓rfM0_0b, ↓rfM0_1b, ↓rfM0_2b, ↓rfM0_3b, ↓wfM0_3b, ↓rfM0_4b, ↓rfM0_5b, ↓wfM0_5b, ↓rfM0_6b, ↓wfM0_6b, ↓rfM0_7b, ↓rfM0_8b, ↓wfM0_8b, ↓rfM0_9b, ↓rfM0_10b, ↓wfM0_10b, ↓rfM0_11b, ↓wfM0_11b, ↓rfM0_12b, ↓wfM0_12b, ↓rfM0_13b, ↓wfM0_13b, ↓rfM0_14b, ↓wfM0_14b, ↓rfM0_15b, ↓rfM0_16b, ↓wfM0_16b, ↓raM1b, ↓waM1b, ↓raM1L0b, ↓waM1L0b, ↓raM1L1b, ↓waM1L1b, ↓raM1L2b, ↓waM1L2b, ↓naM1b, ↓raM2b, ↓waM2b, ↓naM2b, ↓raM3b, ↓waM3b, ↓naM3b, ↓raM4b, ↓waM4b, ↓naM4b, ↓raM5b, ↓waM5b, ↓naM5b, ↓raM6b, ↓waM6b, ↓naM6b, ↓raM7b, ↓waM7b, ↓naM7b, ↓caB2b, ↓caB2Lb, ↓caB3b, ↓caB3Lb, ↓caB4b, ↓caB4Lb, ↓caB5b, ↓caB5Lb, ↓caB6b, ↓caB6Lb, ↓caB7b, ↓caB7Lb, ↓caB8b, ↓caB8Lb, ↓caB10b, ↓caB10Lb, ↓caB11b, ↓caB11Lb, ↓caB12b, ↓caB12Lb, ↓caB13b, ↓caB13Lb, ↓caM11b, ↓caM11Lb, ↓caM11Yb, ↓caM11Xb, ↓caM12b, ↓caM12Lb, ↓caM12Yb, ↓caM12Xb, ↓caM21b, ↓caM21Lb, ↓caM21Yb, ↓caM21Xb, ↓caM13b, ↓caM13Lb, ↓caM13Yb, ↓caM13Xb, ↓caM31b, ↓caM31Lb, ↓caM31Yb, ↓caM31Xb, ↓caM24b, ↓caM24Lb, ↓caM24Yb, ↓caM24Xb, ↓caM44b, ↓caM44Yb, ↓caM44Xb, ↓caM44Lb, ↓caM41b, ↓caM41Lb, ↓caM41Yb, ↓caM41Xb, ↓raHb, ↓raH0b, ↓waHb, ↓waH7b, Option.bind_some, cI_ok, cR_ok, cV_ok, cN_ok, cN_nu, cI_ex, cR_ex, cV_ex, gI_sm, gR_sm, sb_eq, sb_sb, wexc_S, ↓reduceIte, eq_self, vI_def, vV_def, vR_def, nI_1, true_and, and_true, ix6, ix5, nI_p0, nI_p2, nI_p3, nI_p4, nI_p5, us_eq, ud_us1, ud_us0, ud_usn, us_us, us_ne, ud_eq, ud_ni, ud_nc, pm_11, pm_12, pm_16, pm_7, pm_f, pm_o, pm_w11, pm_w12, pm_w16, pm_w7, hf]
theorem s294_h (hg : GS G) (hw : WS G H A) (hN : D 0 10 = nI N) (hN60 : N ≤ 60) (d : Nat) : (pz (cM D) N (D 7)).1 ≤ N ∧ (pz (cM D) N (D 7)).2.2.1 ≤ 20 ∧ call G (d + 6) 294 [.ref (ad A 12 0)] (S A H (sb m 12 (us D 1 s)) n r) = run G (d + 6) 294 53 [some (.ref (ad A 12 0)), none] [] (S A H (sb m 12 (us (pm D (pz (cM D) N (D 7))) 1 s)) n r) := by
  have e : ud (ud (ud D 0 11 0) 0 12 0) 0 16 0 = pm D (0, 0, 0, D 7) := by
    unfold pm
    show _ = us (ud (ud (ud D 0 11 0) 0 12 0) 0 16 0) 7 (D 7)
    have : D 7 = ud (ud (ud D 0 11 0) 0 12 0) 0 16 0 7 := by rw [ud_nc (by omega), ud_nc (by omega), ud_nc (by omega)]
    rw [this, us_self]
  have ra := rc_all (T := cM D) (N := N) (st := (0, 0, 0, D 7)) (Nat.zero_le _) rfl
  have i2 : (rc (cM D) N (0, 0, 0, D 7)).2.2.1 = 0 + 1 := ra.2.2.1
  have i3 : (rc (cM D) N (0, 0, 0, D 7)).2.1 = 0 → 0 + 3 ≤ (rc (cM D) N (0, 0, 0, D 7)).1 := ra.2.2.2
  have := s294_19 (G := G) (A := A) (n := n) (r := r) (H := H) (m := m) (s := s) hg hw hN hN60 none d N (rc (cM D) N (0, 0, 0, D 7)) ra.1 (by omega) (fun h => by have := i3 h; omega) (by omega)
  refine ⟨this.1, this.2.1, ?_⟩
  unfold pz
  rw [← this.2.2, b294_e]
  have hs := s292 (G := G) (A := A) (n := n) (r := r) (H := H) (m := m) (s := s) (st := (0, 0, 0, D 7)) hg hw hN hN60 (Nat.zero_le _) (show 0 < 59 by decide) d
  simp (disch := first | assumption | omega | (refine sbh ?_ ?_ <;> first | assumption | omega) | (refine sbPV ?_ ?_ <;> first | assumption | omega)) only [rcB0, ↓rfB0_0b, ↓rfB0_1b, ↓rfB0_2b, ↓wfB0_2b, rcB1, ↓rfB1_0b, ↓wfB1_0b, ↓rfB1_1b, ↓wfB1_1b, ↓rfB1_2b, ↓rfB1_3b, ↓rfB1_4b, ↓rfB1_5b, ↓rfB1_6b, ↓rfB1_7b, ↓rfB1_8b, ↓raB2b, ↓waB2b, ↓naB2b, ↓raB3b, ↓waB3b, ↓naB3b, ↓raB4b, ↓waB4b, ↓naB4b, ↓raB5b, ↓waB5b, ↓naB5b, ↓raB6b, ↓waB6b, ↓naB6b, ↓raB7b, ↓waB7b, ↓naB7b, ↓raB8b, ↓waB8b, ↓naB8b, rcB9, ↓rfB9_0b, ↓wfB9_0b, ↓rfB9_1b, ↓rfB9_2b, ↓rfB9_3b, ↓rfB9_4b, ↓raB10b, ↓waB10b, ↓naB10b, ↓raB11b, ↓waB11b, ↓naB11b, ↓raB12b, ↓waB12b, ↓naB12b, ↓raB13b, ↓waB13b, ↓naB13b, rcX0, ↓rfX0_0b, ↓rfX0_1b, ↓rfX0_2b, ↓rfX0_3b, ↓rfX0_4b, ↓wfX0_4b, ↓rfX0_5b, ↓wfX0_5b, ↓rfX0_6b, ↓rfX0_7b, ↓rfX0_8b, ↓rfX0_9b, ↓wfX0_9b, ↓rfX0_10b, ↓wfX0_10b, rcX2, ↓rfX2_0b, ↓rfX2_1b, ↓rfX2_2b, ↓rfX2_3b, ↓rfX2_4b, ↓rfX2_5b, ↓raX3b, ↓waX3b, ↓naX3b, ↓raX4b, ↓waX4b, ↓naX4b, ↓raX5b, ↓waX5b, ↓naX5b, ↓raX6b, ↓waX6b, ↓naX6b, ↓raX7b, ↓waX7b, ↓raX7L0b, ↓waX7L0b, ↓naX7b, ↓raX8b, ↓waX8b, ↓naX8b, rcX11, ↓rfX11_0b, ↓rfX11_1b, ↓wfX11_1b, ↓rfX11_2b, ↓rfX11_3b, ↓wfX11_3b, ↓rfX11_4b, ↓wfX11_4b, ↓rfX11_5b, ↓wfX11_5b, ↓rfX11_6b, ↓rfX11_7b, ↓wfX11_7b, ↓raX12b, ↓waX12b, ↓naX12b, ↓raX13b, ↓waX13b, ↓naX13b, ↓raX14b, ↓waX14b, ↓raX14L0b, ↓waX14L0b, ↓raX14L1b, ↓waX14L1b, ↓raX14L2b, ↓waX14L2b, ↓naX14b, rcM0, ↓rfM0_0b, ↓rfM0_1b, ↓rfM0_2b, ↓rfM0_3b, ↓wfM0_3b, ↓rfM0_4b, ↓rfM0_5b, ↓wfM0_5b, ↓rfM0_6b, ↓wfM0_6b, ↓rfM0_7b, ↓rfM0_8b, ↓wfM0_8b, ↓rfM0_9b, ↓rfM0_10b, ↓wfM0_10b, ↓rfM0_11b, ↓wfM0_11b, ↓rfM0_12b, ↓wfM0_12b, ↓rfM0_13b, ↓wfM0_13b, ↓rfM0_14b, ↓wfM0_14b, ↓rfM0_15b, ↓rfM0_16b, ↓wfM0_16b, ↓raM1b, ↓waM1b, ↓raM1L0b, ↓waM1L0b, ↓raM1L1b, ↓waM1L1b, ↓raM1L2b, ↓waM1L2b, ↓naM1b, ↓raM2b, ↓waM2b, ↓naM2b, ↓raM3b, ↓waM3b, ↓naM3b, ↓raM4b, ↓waM4b, ↓naM4b, ↓raM5b, ↓waM5b, ↓naM5b, ↓raM6b, ↓waM6b, ↓naM6b, ↓raM7b, ↓waM7b, ↓naM7b, ↓caB2b, ↓caB2Lb, ↓caB3b, ↓caB3Lb, ↓caB4b, ↓caB4Lb, ↓caB5b, ↓caB5Lb, ↓caB6b, ↓caB6Lb, ↓caB7b, ↓caB7Lb, ↓caB8b, ↓caB8Lb, ↓caB10b, ↓caB10Lb, ↓caB11b, ↓caB11Lb, ↓caB12b, ↓caB12Lb, ↓caB13b, ↓caB13Lb, ↓caM11b, ↓caM11Lb, ↓caM11Yb, ↓caM11Xb, ↓caM12b, ↓caM12Lb, ↓caM12Yb, ↓caM12Xb, ↓caM21b, ↓caM21Lb, ↓caM21Yb, ↓caM21Xb, ↓caM13b, ↓caM13Lb, ↓caM13Yb, ↓caM13Xb, ↓caM31b, ↓caM31Lb, ↓caM31Yb, ↓caM31Xb, ↓caM24b, ↓caM24Lb, ↓caM24Yb, ↓caM24Xb, ↓caM44b, ↓caM44Yb, ↓caM44Xb, ↓caM44Lb, ↓caM41b, ↓caM41Lb, ↓caM41Yb, ↓caM41Xb, ↓raHb, ↓raH0b, ↓waHb, ↓waH7b, Option.bind_some, cI_ok, cR_ok, cV_ok, cN_ok, cN_nu, cI_ex, cR_ex, cV_ex, gI_sm, gR_sm, sb_eq, sb_sb, wexc_S, ↓reduceIte, eq_self, vI_def, vV_def, vR_def, nI_1, true_and, and_true, ix6, ix5, nI_p0, nI_p2, nI_p3, nI_p4, nI_p5, us_eq, ud_us1, ud_us0, ud_usn, us_us, us_ne, ud_eq, ud_ni, ud_nc, pm_11, pm_12, pm_16, pm_7, pm_f, pm_o, pm_w11, pm_w12, pm_w16, pm_w7, e]
  rw [hs]; rfl
end
