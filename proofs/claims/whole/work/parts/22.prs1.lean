/-! THE MODEL'S READER of commands, part 2: one command. -/
def wrd : Nat → List Nat
  | 248 => [100, 105, 115, 109, 105, 115, 115, 32]
  | 250 => [100, 97, 121]
  | 259 => [97, 112, 112, 108, 121, 32]
  | 265 => [47]
  | 267 => [112, 111, 115, 116, 32]
  | 269 => [61]
  | 271 => [108, 101, 97, 118, 101, 32]
  | 273 => [99, 108, 111, 115, 101, 32]
  | 275 => [104, 105, 114, 101, 32]
  | 277 => [60]
  | 279 => [114, 101, 102, 101, 114, 32]
  | 281 => [62]
  | 283 => [109, 97, 116, 99, 104]
  | _ => []
def wds : List Nat := [248, 250, 259, 265, 267, 269, 271, 273, 275, 277, 279, 281, 283]
/-- the words that the model's reader asks for -/
def WS (G : Glb) (H : Hp) (A : Nat) : Prop := ∀ i, i ∈ wds → ∃ a, G 107 i = some (.ref a) ∧ STR G H A a (wrd i)
def stC (o : Nat) (v : Int32) (st : PS) : PS := (st.1, st.2.1, st.2.2.1, fun j => if j = o then v else st.2.2.2 j)
def nmW (T : Nat → Int32) (N x o : Nat) (st : PS) : PS := stC o (nmR T N x st).1 (nmR T N x st).2
def shW (T : Nat → Int32) (N : Nat) (any : Bool) (o : Nat) (st : PS) : PS := stC o (bh T N st.1) (shR T N any st)
def rcK (T : Nat → Int32) (N c : Nat) (k : Int32) (st : PS) : PS :=
  if k = 105 then nmW T N 1 (5 * c + 2) (mkS T N (wrd (if bh T N st.1 = 100 then 248 else 250)) st)
  else if k = 97 then nmW T N 3 (5 * c + 3) (mkS T N (wrd 265) (nmW T N 3 (5 * c + 2) (shW T N false (5 * c + 1) (mkS T N (wrd 259) st))))
  else if k = 112 then nmW T N 3 (5 * c + 4) (mkS T N (wrd 269) (nmW T N 3 (5 * c + 3) (mkS T N (wrd 265) (nmW T N 3 (5 * c + 2) (shW T N true (5 * c + 1) (mkS T N (wrd 267) st))))))
  else if k = 108 then nmW T N 3 (5 * c + 2) (mkS T N (wrd 271) st)
  else if k = 99 then nmW T N 1 (5 * c + 2) (mkS T N (wrd 273) st)
  else if k = 104 then nmW T N 3 (5 * c + 3) (mkS T N (wrd 277) (nmW T N 1 (5 * c + 2) (mkS T N (wrd 275) st)))
  else if k = 114 then nmW T N 3 (5 * c + 3) (mkS T N (wrd 281) (nmW T N 3 (5 * c + 2) (mkS T N (wrd 279) st)))
  else if k = 109 then mkS T N (wrd 283) st
  else mkS T N (wrd 250) st
def rck (T : Nat → Int32) (N p : Nat) : Int32 := if bh T N p = 100 ∧ bh T N (p + 1) = 105 then 105 else bh T N p
def rc (T : Nat → Int32) (N : Nat) (st : PS) : PS := if st.2.1 = 0 then rcK T N st.2.2.1 (rck T N st.1) (stC (5 * st.2.2.1) (rck T N st.1) (st.1, st.2.1, st.2.2.1 + 1, st.2.2.2)) else st
theorem bh_pos {T : Nat → Int32} {N p : Nat} {x : Int32} (h : bh T N p = x) (hx : ¬ x = -1) : p < N := by
  refine Classical.byContradiction fun hh => ?_
  have h1 : bh T N p = -1 := if_pos (by omega)
  exact hx (h.symm.trans h1)
theorem mkS_le {T : Nat → Int32} {N : Nat} : ∀ (l : List Nat) (st : PS), (∀ w, w ∈ l → w < 128) → st.1 ≤ N → (mkS T N l st).1 ≤ N := by
  intro l
  induction l with
  | nil => intro st _ h; exact h
  | cons w l ih =>
    intro st hw h
    rw [mkS]
    by_cases h1 : st.2.1 = 0
    · rw [if_pos h1]
      by_cases h2 : bh T N st.1 = nI w
      · rw [if_pos h2]
        have := bh_pos h2 (nI_nm1 (by have := hw w List.mem_cons_self; omega))
        exact ih _ (fun w h => hw w (List.mem_cons_of_mem _ h)) (by show st.1 + 1 ≤ N; omega)
      · rw [if_neg h2]; exact h
    · rw [if_neg h1]; exact h
theorem mkS_c {T : Nat → Int32} {N : Nat} : ∀ (l : List Nat) (st : PS), (mkS T N l st).2.2 = st.2.2 := by
  intro l
  induction l with
  | nil => intro st; rfl
  | cons w l ih =>
    intro st
    rw [mkS]
    by_cases h1 : st.2.1 = 0
    · rw [if_pos h1]
      by_cases h2 : bh T N st.1 = nI w
      · rw [if_pos h2, ih]
      · rw [if_neg h2]
    · rw [if_neg h1]
theorem rdN_le {T : Nat → Int32} {N : Nat} : ∀ (k : Nat) (v : Int32) (p : Nat), p ≤ N → (rdN T N k v p).2 ≤ N := by
  intro k
  induction k with
  | zero => intro v p h; exact h
  | succ k ih =>
    intro v p h
    rw [rdN]
    split
    · rename_i h1; exact ih _ _ (bh_d h1).1
    · exact h
theorem nmR_le {T : Nat → Int32} {N x : Nat} {st : PS} (h : st.1 ≤ N) : (nmR T N x st).2.1 ≤ N := by
  unfold nmR; split
  · exact rdN_le _ _ _ h
  · exact h
theorem shR_le {T : Nat → Int32} {N : Nat} {any : Bool} {st : PS} (h : st.1 ≤ N) : (shR T N any st).1 ≤ N := by
  unfold shR; split
  · rename_i h1
    refine Classical.byContradiction fun hh => ?_
    have hb : bh T N st.1 = -1 := if_pos (by
      have : ¬ st.1 + 1 ≤ N := hh
      omega)
    rw [hb] at h1
    cases any <;> exact absurd h1.2 (by decide)
  · exact h
theorem nmW_le {T : Nat → Int32} {N x o : Nat} {st : PS} (h : st.1 ≤ N) : (nmW T N x o st).1 ≤ N := nmR_le h
theorem shW_le {T : Nat → Int32} {N o : Nat} {any : Bool} {st : PS} (h : st.1 ≤ N) : (shW T N any o st).1 ≤ N := shR_le h
theorem wrd_lt {i : Nat} (h : i ∈ wds) : ∀ w, w ∈ wrd i → w < 128 := by
  have : ∀ i, i ∈ wds → (wrd i).all (fun w => decide (w < 128)) = true := by decide +kernel
  have := List.all_eq_true.mp (this i h)
  intro w hw; exact of_decide_eq_true (this w hw)
theorem mkW_le {T : Nat → Int32} {N i : Nat} {st : PS} (hi : i ∈ wds) (h : st.1 ≤ N) : (mkS T N (wrd i) st).1 ≤ N := mkS_le _ _ (wrd_lt hi) h
section
variable {G : Glb} {A n r N : Nat} {H : Hp} {m : Mm} {D : Bd} {st : PS} {s : Nat → Int32}
theorem pm_stC (D : Bd) (st : PS) (o : Nat) (v : Int32) : ud (pm D st) 7 o v = pm D (stC o v st) := pm_w7 ..
theorem pcN (hN : D 0 10 = nI N) (hN60 : N ≤ 60) (hp : st.1 ≤ N) {o x : Nat} {idx xx : Int32} (hi : idx = nI o) (ho : o < 300) (hxx : xx = nI x) (hx : x < 2 ^ 31) (d : Nat) (K : St → Res) : ((fR (S A H (sb m 12 (us (pm D st) 1 s)) n r) (ad A 12 0) 6 15).bind fun v5 => (if rcv (S A H (sb m 12 (us (pm D st) 1 s)) n r) (ad A 12 0) 6 = true then (cI (call G (d + 2) 290 [.ref (ad A 12 0), .int xx] (S A H (sb m 12 (us (pm D st) 1 s)) n r)) fun v6 s3 => ((aW s3 okI v5 idx (.int v6)).bind K)) else none)) = K (S A H (sb m 12 (us (pm D (nmW (cM D) N x o st)) 1 s)) n r) := by
  subst hi; subst hxx
  simp (disch := first | assumption | omega | (refine sbh ?_ ?_ <;> first | assumption | omega) | (refine sbPV ?_ ?_ <;> first | assumption | omega)) only [rcB0, ↓rfB0_0b, ↓rfB0_1b, ↓rfB0_2b, ↓wfB0_2b, rcB1, ↓rfB1_0b, ↓wfB1_0b, ↓rfB1_1b, ↓wfB1_1b, ↓rfB1_2b, ↓rfB1_3b, ↓rfB1_4b, ↓rfB1_5b, ↓rfB1_6b, ↓rfB1_7b, ↓rfB1_8b, ↓raB2b, ↓waB2b, ↓naB2b, ↓raB3b, ↓waB3b, ↓naB3b, ↓raB4b, ↓waB4b, ↓naB4b, ↓raB5b, ↓waB5b, ↓naB5b, ↓raB6b, ↓waB6b, ↓naB6b, ↓raB7b, ↓waB7b, ↓naB7b, ↓raB8b, ↓waB8b, ↓naB8b, rcB9, ↓rfB9_0b, ↓wfB9_0b, ↓rfB9_1b, ↓rfB9_2b, ↓rfB9_3b, ↓rfB9_4b, ↓raB10b, ↓waB10b, ↓naB10b, ↓raB11b, ↓waB11b, ↓naB11b, ↓raB12b, ↓waB12b, ↓naB12b, ↓raB13b, ↓waB13b, ↓naB13b, rcX0, ↓rfX0_0b, ↓rfX0_1b, ↓rfX0_2b, ↓rfX0_3b, ↓rfX0_4b, ↓wfX0_4b, ↓rfX0_5b, ↓wfX0_5b, ↓rfX0_6b, ↓rfX0_7b, ↓rfX0_8b, ↓rfX0_9b, ↓wfX0_9b, ↓rfX0_10b, ↓wfX0_10b, rcX2, ↓rfX2_0b, ↓rfX2_1b, ↓rfX2_2b, ↓rfX2_3b, ↓rfX2_4b, ↓rfX2_5b, ↓raX3b, ↓waX3b, ↓naX3b, ↓raX4b, ↓waX4b, ↓naX4b, ↓raX5b, ↓waX5b, ↓naX5b, ↓raX6b, ↓waX6b, ↓naX6b, ↓raX7b, ↓waX7b, ↓raX7L0b, ↓waX7L0b, ↓naX7b, ↓raX8b, ↓waX8b, ↓naX8b, rcX11, ↓rfX11_0b, ↓rfX11_1b, ↓wfX11_1b, ↓rfX11_2b, ↓rfX11_3b, ↓wfX11_3b, ↓rfX11_4b, ↓wfX11_4b, ↓rfX11_5b, ↓wfX11_5b, ↓rfX11_6b, ↓rfX11_7b, ↓wfX11_7b, ↓raX12b, ↓waX12b, ↓naX12b, ↓raX13b, ↓waX13b, ↓naX13b, ↓raX14b, ↓waX14b, ↓raX14L0b, ↓waX14L0b, ↓raX14L1b, ↓waX14L1b, ↓raX14L2b, ↓waX14L2b, ↓naX14b, rcM0, ↓rfM0_0b, ↓rfM0_1b, ↓rfM0_2b, ↓rfM0_3b, ↓wfM0_3b, ↓rfM0_4b, ↓rfM0_5b, ↓wfM0_5b, ↓rfM0_6b, ↓wfM0_6b, ↓rfM0_7b, ↓rfM0_8b, ↓wfM0_8b, ↓rfM0_9b, ↓rfM0_10b, ↓wfM0_10b, ↓rfM0_11b, ↓wfM0_11b, ↓rfM0_12b, ↓wfM0_12b, ↓rfM0_13b, ↓wfM0_13b, ↓rfM0_14b, ↓wfM0_14b, ↓rfM0_15b, ↓rfM0_16b, ↓wfM0_16b, ↓raM1b, ↓waM1b, ↓raM1L0b, ↓waM1L0b, ↓raM1L1b, ↓waM1L1b, ↓raM1L2b, ↓waM1L2b, ↓naM1b, ↓raM2b, ↓waM2b, ↓naM2b, ↓raM3b, ↓waM3b, ↓naM3b, ↓raM4b, ↓waM4b, ↓naM4b, ↓raM5b, ↓waM5b, ↓naM5b, ↓raM6b, ↓waM6b, ↓naM6b, ↓raM7b, ↓waM7b, ↓naM7b, ↓caB2b, ↓caB2Lb, ↓caB3b, ↓caB3Lb, ↓caB4b, ↓caB4Lb, ↓caB5b, ↓caB5Lb, ↓caB6b, ↓caB6Lb, ↓caB7b, ↓caB7Lb, ↓caB8b, ↓caB8Lb, ↓caB10b, ↓caB10Lb, ↓caB11b, ↓caB11Lb, ↓caB12b, ↓caB12Lb, ↓caB13b, ↓caB13Lb, ↓caM11b, ↓caM11Lb, ↓caM11Yb, ↓caM11Xb, ↓caM12b, ↓caM12Lb, ↓caM12Yb, ↓caM12Xb, ↓caM21b, ↓caM21Lb, ↓caM21Yb, ↓caM21Xb, ↓caM13b, ↓caM13Lb, ↓caM13Yb, ↓caM13Xb, ↓caM31b, ↓caM31Lb, ↓caM31Yb, ↓caM31Xb, ↓caM24b, ↓caM24Lb, ↓caM24Yb, ↓caM24Xb, ↓caM44b, ↓caM44Yb, ↓caM44Xb, ↓caM44Lb, ↓caM41b, ↓caM41Lb, ↓caM41Yb, ↓caM41Xb, ↓raHb, ↓raH0b, ↓waHb, ↓waH7b, Option.bind_some, cI_ok, cR_ok, cV_ok, cN_ok, cN_nu, cI_ex, cR_ex, cV_ex, gI_sm, gR_sm, sb_eq, sb_sb, wexc_S, ↓reduceIte, eq_self, vI_def, vV_def, vR_def, nI_1, true_and, and_true, ix6, ix5, nI_p0, nI_p2, nI_p3, nI_p4, nI_p5, us_eq, ud_us1, ud_us0, ud_usn, us_us, us_ne, ud_eq, ud_ni, ud_nc, pm_11, pm_12, pm_16, pm_7, pm_f, pm_o, pm_w11, pm_w12, pm_w16, pm_w7, ↓s290c]
  exact congrArg K (by unfold nmW; rfl)
theorem pcS (hN : D 0 10 = nI N) (hN60 : N ≤ 60) (hp : st.1 ≤ N) {o : Nat} {idx xx : Int32} (any : Bool) (hi : idx = nI o) (ho : o < 300) (hxx : xx = bI any) (d : Nat) (K : St → Res) : ((fR (S A H (sb m 12 (us (pm D st) 1 s)) n r) (ad A 12 0) 6 15).bind fun v5 => (if rcv (S A H (sb m 12 (us (pm D st) 1 s)) n r) (ad A 12 0) 6 = true then (cI (call G (d + 1) 291 [.ref (ad A 12 0), .int xx] (S A H (sb m 12 (us (pm D st) 1 s)) n r)) fun v6 s3 => ((aW s3 okI v5 idx (.int v6)).bind K)) else none)) = K (S A H (sb m 12 (us (pm D (shW (cM D) N any o st)) 1 s)) n r) := by
  subst hi; subst hxx
  simp (disch := first | assumption | omega | (refine sbh ?_ ?_ <;> first | assumption | omega) | (refine sbPV ?_ ?_ <;> first | assumption | omega)) only [rcB0, ↓rfB0_0b, ↓rfB0_1b, ↓rfB0_2b, ↓wfB0_2b, rcB1, ↓rfB1_0b, ↓wfB1_0b, ↓rfB1_1b, ↓wfB1_1b, ↓rfB1_2b, ↓rfB1_3b, ↓rfB1_4b, ↓rfB1_5b, ↓rfB1_6b, ↓rfB1_7b, ↓rfB1_8b, ↓raB2b, ↓waB2b, ↓naB2b, ↓raB3b, ↓waB3b, ↓naB3b, ↓raB4b, ↓waB4b, ↓naB4b, ↓raB5b, ↓waB5b, ↓naB5b, ↓raB6b, ↓waB6b, ↓naB6b, ↓raB7b, ↓waB7b, ↓naB7b, ↓raB8b, ↓waB8b, ↓naB8b, rcB9, ↓rfB9_0b, ↓wfB9_0b, ↓rfB9_1b, ↓rfB9_2b, ↓rfB9_3b, ↓rfB9_4b, ↓raB10b, ↓waB10b, ↓naB10b, ↓raB11b, ↓waB11b, ↓naB11b, ↓raB12b, ↓waB12b, ↓naB12b, ↓raB13b, ↓waB13b, ↓naB13b, rcX0, ↓rfX0_0b, ↓rfX0_1b, ↓rfX0_2b, ↓rfX0_3b, ↓rfX0_4b, ↓wfX0_4b, ↓rfX0_5b, ↓wfX0_5b, ↓rfX0_6b, ↓rfX0_7b, ↓rfX0_8b, ↓rfX0_9b, ↓wfX0_9b, ↓rfX0_10b, ↓wfX0_10b, rcX2, ↓rfX2_0b, ↓rfX2_1b, ↓rfX2_2b, ↓rfX2_3b, ↓rfX2_4b, ↓rfX2_5b, ↓raX3b, ↓waX3b, ↓naX3b, ↓raX4b, ↓waX4b, ↓naX4b, ↓raX5b, ↓waX5b, ↓naX5b, ↓raX6b, ↓waX6b, ↓naX6b, ↓raX7b, ↓waX7b, ↓raX7L0b, ↓waX7L0b, ↓naX7b, ↓raX8b, ↓waX8b, ↓naX8b, rcX11, ↓rfX11_0b, ↓rfX11_1b, ↓wfX11_1b, ↓rfX11_2b, ↓rfX11_3b, ↓wfX11_3b, ↓rfX11_4b, ↓wfX11_4b, ↓rfX11_5b, ↓wfX11_5b, ↓rfX11_6b, ↓rfX11_7b, ↓wfX11_7b, ↓raX12b, ↓waX12b, ↓naX12b, ↓raX13b, ↓waX13b, ↓naX13b, ↓raX14b, ↓waX14b, ↓raX14L0b, ↓waX14L0b, ↓raX14L1b, ↓waX14L1b, ↓raX14L2b, ↓waX14L2b, ↓naX14b, rcM0, ↓rfM0_0b, ↓rfM0_1b, ↓rfM0_2b, ↓rfM0_3b, ↓wfM0_3b, ↓rfM0_4b, ↓rfM0_5b, ↓wfM0_5b, ↓rfM0_6b, ↓wfM0_6b, ↓rfM0_7b, ↓rfM0_8b, ↓wfM0_8b, ↓rfM0_9b, ↓rfM0_10b, ↓wfM0_10b, ↓rfM0_11b, ↓wfM0_11b, ↓rfM0_12b, ↓wfM0_12b, ↓rfM0_13b, ↓wfM0_13b, ↓rfM0_14b, ↓wfM0_14b, ↓rfM0_15b, ↓rfM0_16b, ↓wfM0_16b, ↓raM1b, ↓waM1b, ↓raM1L0b, ↓waM1L0b, ↓raM1L1b, ↓waM1L1b, ↓raM1L2b, ↓waM1L2b, ↓naM1b, ↓raM2b, ↓waM2b, ↓naM2b, ↓raM3b, ↓waM3b, ↓naM3b, ↓raM4b, ↓waM4b, ↓naM4b, ↓raM5b, ↓waM5b, ↓naM5b, ↓raM6b, ↓waM6b, ↓naM6b, ↓raM7b, ↓waM7b, ↓naM7b, ↓caB2b, ↓caB2Lb, ↓caB3b, ↓caB3Lb, ↓caB4b, ↓caB4Lb, ↓caB5b, ↓caB5Lb, ↓caB6b, ↓caB6Lb, ↓caB7b, ↓caB7Lb, ↓caB8b, ↓caB8Lb, ↓caB10b, ↓caB10Lb, ↓caB11b, ↓caB11Lb, ↓caB12b, ↓caB12Lb, ↓caB13b, ↓caB13Lb, ↓caM11b, ↓caM11Lb, ↓caM11Yb, ↓caM11Xb, ↓caM12b, ↓caM12Lb, ↓caM12Yb, ↓caM12Xb, ↓caM21b, ↓caM21Lb, ↓caM21Yb, ↓caM21Xb, ↓caM13b, ↓caM13Lb, ↓caM13Yb, ↓caM13Xb, ↓caM31b, ↓caM31Lb, ↓caM31Yb, ↓caM31Xb, ↓caM24b, ↓caM24Lb, ↓caM24Yb, ↓caM24Xb, ↓caM44b, ↓caM44Yb, ↓caM44Xb, ↓caM44Lb, ↓caM41b, ↓caM41Lb, ↓caM41Yb, ↓caM41Xb, ↓raHb, ↓raH0b, ↓waHb, ↓waH7b, Option.bind_some, cI_ok, cR_ok, cV_ok, cN_ok, cN_nu, cI_ex, cR_ex, cV_ex, gI_sm, gR_sm, sb_eq, sb_sb, wexc_S, ↓reduceIte, eq_self, vI_def, vV_def, vR_def, nI_1, true_and, and_true, ix6, ix5, nI_p0, nI_p2, nI_p3, nI_p4, nI_p5, us_eq, ud_us1, ud_us0, ud_usn, us_us, us_ne, ud_eq, ud_ni, ud_nc, pm_11, pm_12, pm_16, pm_7, pm_f, pm_o, pm_w11, pm_w12, pm_w16, pm_w7, ↓s291c]
  exact congrArg K (by unfold shW; rfl)
theorem pcW (hg : GS G) (hw : WS G H A) {i : Nat} (hi : i ∈ wds) (hN : D 0 10 = nI N) (hN60 : N ≤ 60) (hp : st.1 ≤ N) (d : Nat) (K : St → Res) : (gR (G 107 i) fun v => (if rcv (S A H (sb m 12 (us (pm D st) 1 s)) n r) (ad A 12 0) 6 = true then (cV (call G (d + 4) 288 [.ref (ad A 12 0), .ref v] (S A H (sb m 12 (us (pm D st) 1 s)) n r)) K) else none)) = K (S A H (sb m 12 (us (pm D (mkS (cM D) N (wrd i) st)) 1 s)) n r) := by
  obtain ⟨a, h1, h2⟩ := hw i hi
  rw [h1]
  show (if rcv (S A H (sb m 12 (us (pm D st) 1 s)) n r) (ad A 12 0) 6 = true then (cV (call G (d + 4) 288 [.ref (ad A 12 0), .ref a] (S A H (sb m 12 (us (pm D st) 1 s)) n r)) K) else none) = _
  rw [s288 hg h2 hN hN60 hp]
  simp (disch := first | assumption | omega | (refine sbh ?_ ?_ <;> first | assumption | omega) | (refine sbPV ?_ ?_ <;> first | assumption | omega)) only [rcB0, ↓rfB0_0b, ↓rfB0_1b, ↓rfB0_2b, ↓wfB0_2b, rcB1, ↓rfB1_0b, ↓wfB1_0b, ↓rfB1_1b, ↓wfB1_1b, ↓rfB1_2b, ↓rfB1_3b, ↓rfB1_4b, ↓rfB1_5b, ↓rfB1_6b, ↓rfB1_7b, ↓rfB1_8b, ↓raB2b, ↓waB2b, ↓naB2b, ↓raB3b, ↓waB3b, ↓naB3b, ↓raB4b, ↓waB4b, ↓naB4b, ↓raB5b, ↓waB5b, ↓naB5b, ↓raB6b, ↓waB6b, ↓naB6b, ↓raB7b, ↓waB7b, ↓naB7b, ↓raB8b, ↓waB8b, ↓naB8b, rcB9, ↓rfB9_0b, ↓wfB9_0b, ↓rfB9_1b, ↓rfB9_2b, ↓rfB9_3b, ↓rfB9_4b, ↓raB10b, ↓waB10b, ↓naB10b, ↓raB11b, ↓waB11b, ↓naB11b, ↓raB12b, ↓waB12b, ↓naB12b, ↓raB13b, ↓waB13b, ↓naB13b, rcX0, ↓rfX0_0b, ↓rfX0_1b, ↓rfX0_2b, ↓rfX0_3b, ↓rfX0_4b, ↓wfX0_4b, ↓rfX0_5b, ↓wfX0_5b, ↓rfX0_6b, ↓rfX0_7b, ↓rfX0_8b, ↓rfX0_9b, ↓wfX0_9b, ↓rfX0_10b, ↓wfX0_10b, rcX2, ↓rfX2_0b, ↓rfX2_1b, ↓rfX2_2b, ↓rfX2_3b, ↓rfX2_4b, ↓rfX2_5b, ↓raX3b, ↓waX3b, ↓naX3b, ↓raX4b, ↓waX4b, ↓naX4b, ↓raX5b, ↓waX5b, ↓naX5b, ↓raX6b, ↓waX6b, ↓naX6b, ↓raX7b, ↓waX7b, ↓raX7L0b, ↓waX7L0b, ↓naX7b, ↓raX8b, ↓waX8b, ↓naX8b, rcX11, ↓rfX11_0b, ↓rfX11_1b, ↓wfX11_1b, ↓rfX11_2b, ↓rfX11_3b, ↓wfX11_3b, ↓rfX11_4b, ↓wfX11_4b, ↓rfX11_5b, ↓wfX11_5b, ↓rfX11_6b, ↓rfX11_7b, ↓wfX11_7b, ↓raX12b, ↓waX12b, ↓naX12b, ↓raX13b, ↓waX13b, ↓naX13b, ↓raX14b, ↓waX14b, ↓raX14L0b, ↓waX14L0b, ↓raX14L1b, ↓waX14L1b, ↓raX14L2b, ↓waX14L2b, ↓naX14b, rcM0, ↓rfM0_0b, ↓rfM0_1b, ↓rfM0_2b, ↓rfM0_3b, ↓wfM0_3b, ↓rfM0_4b, ↓rfM0_5b, ↓wfM0_5b, ↓rfM0_6b, ↓wfM0_6b, ↓rfM0_7b, ↓rfM0_8b, ↓wfM0_8b, ↓rfM0_9b, ↓rfM0_10b, ↓wfM0_10b, ↓rfM0_11b, ↓wfM0_11b, ↓rfM0_12b, ↓wfM0_12b, ↓rfM0_13b, ↓wfM0_13b, ↓rfM0_14b, ↓wfM0_14b, ↓rfM0_15b, ↓rfM0_16b, ↓wfM0_16b, ↓raM1b, ↓waM1b, ↓raM1L0b, ↓waM1L0b, ↓raM1L1b, ↓waM1L1b, ↓raM1L2b, ↓waM1L2b, ↓naM1b, ↓raM2b, ↓waM2b, ↓naM2b, ↓raM3b, ↓waM3b, ↓naM3b, ↓raM4b, ↓waM4b, ↓naM4b, ↓raM5b, ↓waM5b, ↓naM5b, ↓raM6b, ↓waM6b, ↓naM6b, ↓raM7b, ↓waM7b, ↓naM7b, ↓caB2b, ↓caB2Lb, ↓caB3b, ↓caB3Lb, ↓caB4b, ↓caB4Lb, ↓caB5b, ↓caB5Lb, ↓caB6b, ↓caB6Lb, ↓caB7b, ↓caB7Lb, ↓caB8b, ↓caB8Lb, ↓caB10b, ↓caB10Lb, ↓caB11b, ↓caB11Lb, ↓caB12b, ↓caB12Lb, ↓caB13b, ↓caB13Lb, ↓caM11b, ↓caM11Lb, ↓caM11Yb, ↓caM11Xb, ↓caM12b, ↓caM12Lb, ↓caM12Yb, ↓caM12Xb, ↓caM21b, ↓caM21Lb, ↓caM21Yb, ↓caM21Xb, ↓caM13b, ↓caM13Lb, ↓caM13Yb, ↓caM13Xb, ↓caM31b, ↓caM31Lb, ↓caM31Yb, ↓caM31Xb, ↓caM24b, ↓caM24Lb, ↓caM24Yb, ↓caM24Xb, ↓caM44b, ↓caM44Yb, ↓caM44Xb, ↓caM44Lb, ↓caM41b, ↓caM41Lb, ↓caM41Yb, ↓caM41Xb, ↓raHb, ↓raH0b, ↓waHb, ↓waH7b, Option.bind_some, cI_ok, cR_ok, cV_ok, cN_ok, cN_nu, cI_ex, cR_ex, cV_ex, gI_sm, gR_sm, sb_eq, sb_sb, wexc_S, ↓reduceIte, eq_self, vI_def, vV_def, vR_def, nI_1, true_and, and_true, ix6, ix5, nI_p0, nI_p2, nI_p3, nI_p4, nI_p5, us_eq, ud_us1, ud_us0, ud_usn, us_us, us_ne, ud_eq, ud_ni, ud_nc, pm_11, pm_12, pm_16, pm_7, pm_f, pm_o, pm_w11, pm_w12, pm_w16, pm_w7]
theorem s292k (hg : GS G) (hw : WS G H A) (hN : D 0 10 = nI N) (hN60 : N ≤ 60) (hp : st.1 ≤ N) {c : Nat} (hc : c < 59) (o2 : Option Value) (k : Int32) (d : Nat) : run G (d + 5) 292 55 [some (.ref (ad A 12 0)), some (.int (nI (5 * c))), o2] [.int k] (S A H (sb m 12 (us (pm D st) 1 s)) n r) = vV (S A H (sb m 12 (us (pm D (rcK (cM D) N c k (stC (5 * c) k st))) 1 s)) n r) := by
  have i1 : nI (5 * c) + 1 = nI (5 * c + 1) := nI_add _ 1
  have i2 : nI (5 * c) + 2 = nI (5 * c + 2) := nI_add _ 2
  have i3 : nI (5 * c) + 3 = nI (5 * c + 3) := nI_add _ 3
  have i4 : nI (5 * c) + 4 = nI (5 * c + 4) := nI_add _ 4
  have hp1 : (stC (5 * c) k st).1 ≤ N := hp
  have st0 : ∀ (K : St → Res), ((fR (S A H (sb m 12 (us (pm D st) 1 s)) n r) (ad A 12 0) 6 15).bind fun v1 => (aW (S A H (sb m 12 (us (pm D st) 1 s)) n r) okI v1 (nI (5 * c)) (.int k)).bind K) = K (S A H (sb m 12 (us (pm D (stC (5 * c) k st)) 1 s)) n r) := by
    intro K
    simp (disch := first | assumption | omega | (refine sbh ?_ ?_ <;> first | assumption | omega) | (refine sbPV ?_ ?_ <;> first | assumption | omega)) only [rcB0, ↓rfB0_0b, ↓rfB0_1b, ↓rfB0_2b, ↓wfB0_2b, rcB1, ↓rfB1_0b, ↓wfB1_0b, ↓rfB1_1b, ↓wfB1_1b, ↓rfB1_2b, ↓rfB1_3b, ↓rfB1_4b, ↓rfB1_5b, ↓rfB1_6b, ↓rfB1_7b, ↓rfB1_8b, ↓raB2b, ↓waB2b, ↓naB2b, ↓raB3b, ↓waB3b, ↓naB3b, ↓raB4b, ↓waB4b, ↓naB4b, ↓raB5b, ↓waB5b, ↓naB5b, ↓raB6b, ↓waB6b, ↓naB6b, ↓raB7b, ↓waB7b, ↓naB7b, ↓raB8b, ↓waB8b, ↓naB8b, rcB9, ↓rfB9_0b, ↓wfB9_0b, ↓rfB9_1b, ↓rfB9_2b, ↓rfB9_3b, ↓rfB9_4b, ↓raB10b, ↓waB10b, ↓naB10b, ↓raB11b, ↓waB11b, ↓naB11b, ↓raB12b, ↓waB12b, ↓naB12b, ↓raB13b, ↓waB13b, ↓naB13b, rcX0, ↓rfX0_0b, ↓rfX0_1b, ↓rfX0_2b, ↓rfX0_3b, ↓rfX0_4b, ↓wfX0_4b, ↓rfX0_5b, ↓wfX0_5b, ↓rfX0_6b, ↓rfX0_7b, ↓rfX0_8b, ↓rfX0_9b, ↓wfX0_9b, ↓rfX0_10b, ↓wfX0_10b, rcX2, ↓rfX2_0b, ↓rfX2_1b, ↓rfX2_2b, ↓rfX2_3b, ↓rfX2_4b, ↓rfX2_5b, ↓raX3b, ↓waX3b, ↓naX3b, ↓raX4b, ↓waX4b, ↓naX4b, ↓raX5b, ↓waX5b, ↓naX5b, ↓raX6b, ↓waX6b, ↓naX6b, ↓raX7b, ↓waX7b, ↓raX7L0b, ↓waX7L0b, ↓naX7b, ↓raX8b, ↓waX8b, ↓naX8b, rcX11, ↓rfX11_0b, ↓rfX11_1b, ↓wfX11_1b, ↓rfX11_2b, ↓rfX11_3b, ↓wfX11_3b, ↓rfX11_4b, ↓wfX11_4b, ↓rfX11_5b, ↓wfX11_5b, ↓rfX11_6b, ↓rfX11_7b, ↓wfX11_7b, ↓raX12b, ↓waX12b, ↓naX12b, ↓raX13b, ↓waX13b, ↓naX13b, ↓raX14b, ↓waX14b, ↓raX14L0b, ↓waX14L0b, ↓raX14L1b, ↓waX14L1b, ↓raX14L2b, ↓waX14L2b, ↓naX14b, rcM0, ↓rfM0_0b, ↓rfM0_1b, ↓rfM0_2b, ↓rfM0_3b, ↓wfM0_3b, ↓rfM0_4b, ↓rfM0_5b, ↓wfM0_5b, ↓rfM0_6b, ↓wfM0_6b, ↓rfM0_7b, ↓rfM0_8b, ↓wfM0_8b, ↓rfM0_9b, ↓rfM0_10b, ↓wfM0_10b, ↓rfM0_11b, ↓wfM0_11b, ↓rfM0_12b, ↓wfM0_12b, ↓rfM0_13b, ↓wfM0_13b, ↓rfM0_14b, ↓wfM0_14b, ↓rfM0_15b, ↓rfM0_16b, ↓wfM0_16b, ↓raM1b, ↓waM1b, ↓raM1L0b, ↓waM1L0b, ↓raM1L1b, ↓waM1L1b, ↓raM1L2b, ↓waM1L2b, ↓naM1b, ↓raM2b, ↓waM2b, ↓naM2b, ↓raM3b, ↓waM3b, ↓naM3b, ↓raM4b, ↓waM4b, ↓naM4b, ↓raM5b, ↓waM5b, ↓naM5b, ↓raM6b, ↓waM6b, ↓naM6b, ↓raM7b, ↓waM7b, ↓naM7b, ↓caB2b, ↓caB2Lb, ↓caB3b, ↓caB3Lb, ↓caB4b, ↓caB4Lb, ↓caB5b, ↓caB5Lb, ↓caB6b, ↓caB6Lb, ↓caB7b, ↓caB7Lb, ↓caB8b, ↓caB8Lb, ↓caB10b, ↓caB10Lb, ↓caB11b, ↓caB11Lb, ↓caB12b, ↓caB12Lb, ↓caB13b, ↓caB13Lb, ↓caM11b, ↓caM11Lb, ↓caM11Yb, ↓caM11Xb, ↓caM12b, ↓caM12Lb, ↓caM12Yb, ↓caM12Xb, ↓caM21b, ↓caM21Lb, ↓caM21Yb, ↓caM21Xb, ↓caM13b, ↓caM13Lb, ↓caM13Yb, ↓caM13Xb, ↓caM31b, ↓caM31Lb, ↓caM31Yb, ↓caM31Xb, ↓caM24b, ↓caM24Lb, ↓caM24Yb, ↓caM24Xb, ↓caM44b, ↓caM44Yb, ↓caM44Xb, ↓caM44Lb, ↓caM41b, ↓caM41Lb, ↓caM41Yb, ↓caM41Xb, ↓raHb, ↓raH0b, ↓waHb, ↓waH7b, Option.bind_some, cI_ok, cR_ok, cV_ok, cN_ok, cN_nu, cI_ex, cR_ex, cV_ex, gI_sm, gR_sm, sb_eq, sb_sb, wexc_S, ↓reduceIte, eq_self, vI_def, vV_def, vR_def, nI_1, true_and, and_true, ix6, ix5, nI_p0, nI_p2, nI_p3, nI_p4, nI_p5, us_eq, ud_us1, ud_us0, ud_usn, us_us, us_ne, ud_eq, ud_ni, ud_nc, pm_11, pm_12, pm_16, pm_7, pm_f, pm_o, pm_w11, pm_w12, pm_w16, pm_w7]
    rfl
  have t87 : ∀ (i : Nat) (a : Nat) (st : PS) (o2 : Option Value), i ∈ wds → st.1 ≤ N → G 107 i = some (.ref a) → STR G H A a (wrd i) → run G (d + 5) 292 87 [some (.ref (ad A 12 0)), some (.int (nI (5 * c))), o2] [.ref a, .ref (ad A 12 0)] (S A H (sb m 12 (us (pm D st) 1 s)) n r) = vV (S A H (sb m 12 (us (pm D (nmW (cM D) N 1 (5 * c + 2) (mkS (cM D) N (wrd i) st))) 1 s)) n r) := by
    intro i a st o2 hi hp h1 h2
    rw [b292_87, s288 hg h2 hN hN60 hp]
    have hr : rcv (S A H (sb m 12 (us (pm D st) 1 s)) n r) (ad A 12 0) 6 = true := by simp (disch := first | assumption | omega | (refine sbh ?_ ?_ <;> first | assumption | omega) | (refine sbPV ?_ ?_ <;> first | assumption | omega)) only [rcB0, ↓rfB0_0b, ↓rfB0_1b, ↓rfB0_2b, ↓wfB0_2b, rcB1, ↓rfB1_0b, ↓wfB1_0b, ↓rfB1_1b, ↓wfB1_1b, ↓rfB1_2b, ↓rfB1_3b, ↓rfB1_4b, ↓rfB1_5b, ↓rfB1_6b, ↓rfB1_7b, ↓rfB1_8b, ↓raB2b, ↓waB2b, ↓naB2b, ↓raB3b, ↓waB3b, ↓naB3b, ↓raB4b, ↓waB4b, ↓naB4b, ↓raB5b, ↓waB5b, ↓naB5b, ↓raB6b, ↓waB6b, ↓naB6b, ↓raB7b, ↓waB7b, ↓naB7b, ↓raB8b, ↓waB8b, ↓naB8b, rcB9, ↓rfB9_0b, ↓wfB9_0b, ↓rfB9_1b, ↓rfB9_2b, ↓rfB9_3b, ↓rfB9_4b, ↓raB10b, ↓waB10b, ↓naB10b, ↓raB11b, ↓waB11b, ↓naB11b, ↓raB12b, ↓waB12b, ↓naB12b, ↓raB13b, ↓waB13b, ↓naB13b, rcX0, ↓rfX0_0b, ↓rfX0_1b, ↓rfX0_2b, ↓rfX0_3b, ↓rfX0_4b, ↓wfX0_4b, ↓rfX0_5b, ↓wfX0_5b, ↓rfX0_6b, ↓rfX0_7b, ↓rfX0_8b, ↓rfX0_9b, ↓wfX0_9b, ↓rfX0_10b, ↓wfX0_10b, rcX2, ↓rfX2_0b, ↓rfX2_1b, ↓rfX2_2b, ↓rfX2_3b, ↓rfX2_4b, ↓rfX2_5b, ↓raX3b, ↓waX3b, ↓naX3b, ↓raX4b, ↓waX4b, ↓naX4b, ↓raX5b, ↓waX5b, ↓naX5b, ↓raX6b, ↓waX6b, ↓naX6b, ↓raX7b, ↓waX7b, ↓raX7L0b, ↓waX7L0b, ↓naX7b, ↓raX8b, ↓waX8b, ↓naX8b, rcX11, ↓rfX11_0b, ↓rfX11_1b, ↓wfX11_1b, ↓rfX11_2b, ↓rfX11_3b, ↓wfX11_3b, ↓rfX11_4b, ↓wfX11_4b, ↓rfX11_5b, ↓wfX11_5b, ↓rfX11_6b, ↓rfX11_7b, ↓wfX11_7b, ↓raX12b, ↓waX12b, ↓naX12b, ↓raX13b, ↓waX13b, ↓naX13b, ↓raX14b, ↓waX14b, ↓raX14L0b, ↓waX14L0b, ↓raX14L1b, ↓waX14L1b, ↓raX14L2b, ↓waX14L2b, ↓naX14b, rcM0, ↓rfM0_0b, ↓rfM0_1b, ↓rfM0_2b, ↓rfM0_3b, ↓wfM0_3b, ↓rfM0_4b, ↓rfM0_5b, ↓wfM0_5b, ↓rfM0_6b, ↓wfM0_6b, ↓rfM0_7b, ↓rfM0_8b, ↓wfM0_8b, ↓rfM0_9b, ↓rfM0_10b, ↓wfM0_10b, ↓rfM0_11b, ↓wfM0_11b, ↓rfM0_12b, ↓wfM0_12b, ↓rfM0_13b, ↓wfM0_13b, ↓rfM0_14b, ↓wfM0_14b, ↓rfM0_15b, ↓rfM0_16b, ↓wfM0_16b, ↓raM1b, ↓waM1b, ↓raM1L0b, ↓waM1L0b, ↓raM1L1b, ↓waM1L1b, ↓raM1L2b, ↓waM1L2b, ↓naM1b, ↓raM2b, ↓waM2b, ↓naM2b, ↓raM3b, ↓waM3b, ↓naM3b, ↓raM4b, ↓waM4b, ↓naM4b, ↓raM5b, ↓waM5b, ↓naM5b, ↓raM6b, ↓waM6b, ↓naM6b, ↓raM7b, ↓waM7b, ↓naM7b, ↓caB2b, ↓caB2Lb, ↓caB3b, ↓caB3Lb, ↓caB4b, ↓caB4Lb, ↓caB5b, ↓caB5Lb, ↓caB6b, ↓caB6Lb, ↓caB7b, ↓caB7Lb, ↓caB8b, ↓caB8Lb, ↓caB10b, ↓caB10Lb, ↓caB11b, ↓caB11Lb, ↓caB12b, ↓caB12Lb, ↓caB13b, ↓caB13Lb, ↓caM11b, ↓caM11Lb, ↓caM11Yb, ↓caM11Xb, ↓caM12b, ↓caM12Lb, ↓caM12Yb, ↓caM12Xb, ↓caM21b, ↓caM21Lb, ↓caM21Yb, ↓caM21Xb, ↓caM13b, ↓caM13Lb, ↓caM13Yb, ↓caM13Xb, ↓caM31b, ↓caM31Lb, ↓caM31Yb, ↓caM31Xb, ↓caM24b, ↓caM24Lb, ↓caM24Yb, ↓caM24Xb, ↓caM44b, ↓caM44Yb, ↓caM44Xb, ↓caM44Lb, ↓caM41b, ↓caM41Lb, ↓caM41Yb, ↓caM41Xb, ↓raHb, ↓raH0b, ↓waHb, ↓waH7b, Option.bind_some, cI_ok, cR_ok, cV_ok, cN_ok, cN_nu, cI_ex, cR_ex, cV_ex, gI_sm, gR_sm, sb_eq, sb_sb, wexc_S, ↓reduceIte, eq_self, vI_def, vV_def, vR_def, nI_1, true_and, and_true, ix6, ix5, nI_p0, nI_p2, nI_p3, nI_p4, nI_p5, us_eq, ud_us1, ud_us0, ud_usn, us_us, us_ne, ud_eq, ud_ni, ud_nc, pm_11, pm_12, pm_16, pm_7, pm_f, pm_o, pm_w11, pm_w12, pm_w16, pm_w7]
    rw [if_pos hr]
    exact pcN hN hN60 (mkW_le hi hp) (x := 1) (xx := 1) i2 (by omega) rfl (by decide) (d + 2) _
  have t421 : ∀ (i : Nat) (a : Nat) (st : PS) (o1 o2 : Option Value), i ∈ wds → st.1 ≤ N → G 107 i = some (.ref a) → STR G H A a (wrd i) → run G (d + 5) 292 421 [some (.ref (ad A 12 0)), o1, o2] [.ref a, .ref (ad A 12 0)] (S A H (sb m 12 (us (pm D st) 1 s)) n r) = vV (S A H (sb m 12 (us (pm D (mkS (cM D) N (wrd i) st)) 1 s)) n r) := by
    intro i a st o1 o2 hi hp h1 h2
    rw [b292_421, s288 hg h2 hN hN60 hp]
    have hr : rcv (S A H (sb m 12 (us (pm D st) 1 s)) n r) (ad A 12 0) 6 = true := by simp (disch := first | assumption | omega | (refine sbh ?_ ?_ <;> first | assumption | omega) | (refine sbPV ?_ ?_ <;> first | assumption | omega)) only [rcB0, ↓rfB0_0b, ↓rfB0_1b, ↓rfB0_2b, ↓wfB0_2b, rcB1, ↓rfB1_0b, ↓wfB1_0b, ↓rfB1_1b, ↓wfB1_1b, ↓rfB1_2b, ↓rfB1_3b, ↓rfB1_4b, ↓rfB1_5b, ↓rfB1_6b, ↓rfB1_7b, ↓rfB1_8b, ↓raB2b, ↓waB2b, ↓naB2b, ↓raB3b, ↓waB3b, ↓naB3b, ↓raB4b, ↓waB4b, ↓naB4b, ↓raB5b, ↓waB5b, ↓naB5b, ↓raB6b, ↓waB6b, ↓naB6b, ↓raB7b, ↓waB7b, ↓naB7b, ↓raB8b, ↓waB8b, ↓naB8b, rcB9, ↓rfB9_0b, ↓wfB9_0b, ↓rfB9_1b, ↓rfB9_2b, ↓rfB9_3b, ↓rfB9_4b, ↓raB10b, ↓waB10b, ↓naB10b, ↓raB11b, ↓waB11b, ↓naB11b, ↓raB12b, ↓waB12b, ↓naB12b, ↓raB13b, ↓waB13b, ↓naB13b, rcX0, ↓rfX0_0b, ↓rfX0_1b, ↓rfX0_2b, ↓rfX0_3b, ↓rfX0_4b, ↓wfX0_4b, ↓rfX0_5b, ↓wfX0_5b, ↓rfX0_6b, ↓rfX0_7b, ↓rfX0_8b, ↓rfX0_9b, ↓wfX0_9b, ↓rfX0_10b, ↓wfX0_10b, rcX2, ↓rfX2_0b, ↓rfX2_1b, ↓rfX2_2b, ↓rfX2_3b, ↓rfX2_4b, ↓rfX2_5b, ↓raX3b, ↓waX3b, ↓naX3b, ↓raX4b, ↓waX4b, ↓naX4b, ↓raX5b, ↓waX5b, ↓naX5b, ↓raX6b, ↓waX6b, ↓naX6b, ↓raX7b, ↓waX7b, ↓raX7L0b, ↓waX7L0b, ↓naX7b, ↓raX8b, ↓waX8b, ↓naX8b, rcX11, ↓rfX11_0b, ↓rfX11_1b, ↓wfX11_1b, ↓rfX11_2b, ↓rfX11_3b, ↓wfX11_3b, ↓rfX11_4b, ↓wfX11_4b, ↓rfX11_5b, ↓wfX11_5b, ↓rfX11_6b, ↓rfX11_7b, ↓wfX11_7b, ↓raX12b, ↓waX12b, ↓naX12b, ↓raX13b, ↓waX13b, ↓naX13b, ↓raX14b, ↓waX14b, ↓raX14L0b, ↓waX14L0b, ↓raX14L1b, ↓waX14L1b, ↓raX14L2b, ↓waX14L2b, ↓naX14b, rcM0, ↓rfM0_0b, ↓rfM0_1b, ↓rfM0_2b, ↓rfM0_3b, ↓wfM0_3b, ↓rfM0_4b, ↓rfM0_5b, ↓wfM0_5b, ↓rfM0_6b, ↓wfM0_6b, ↓rfM0_7b, ↓rfM0_8b, ↓wfM0_8b, ↓rfM0_9b, ↓rfM0_10b, ↓wfM0_10b, ↓rfM0_11b, ↓wfM0_11b, ↓rfM0_12b, ↓wfM0_12b, ↓rfM0_13b, ↓wfM0_13b, ↓rfM0_14b, ↓wfM0_14b, ↓rfM0_15b, ↓rfM0_16b, ↓wfM0_16b, ↓raM1b, ↓waM1b, ↓raM1L0b, ↓waM1L0b, ↓raM1L1b, ↓waM1L1b, ↓raM1L2b, ↓waM1L2b, ↓naM1b, ↓raM2b, ↓waM2b, ↓naM2b, ↓raM3b, ↓waM3b, ↓naM3b, ↓raM4b, ↓waM4b, ↓naM4b, ↓raM5b, ↓waM5b, ↓naM5b, ↓raM6b, ↓waM6b, ↓naM6b, ↓raM7b, ↓waM7b, ↓naM7b, ↓caB2b, ↓caB2Lb, ↓caB3b, ↓caB3Lb, ↓caB4b, ↓caB4Lb, ↓caB5b, ↓caB5Lb, ↓caB6b, ↓caB6Lb, ↓caB7b, ↓caB7Lb, ↓caB8b, ↓caB8Lb, ↓caB10b, ↓caB10Lb, ↓caB11b, ↓caB11Lb, ↓caB12b, ↓caB12Lb, ↓caB13b, ↓caB13Lb, ↓caM11b, ↓caM11Lb, ↓caM11Yb, ↓caM11Xb, ↓caM12b, ↓caM12Lb, ↓caM12Yb, ↓caM12Xb, ↓caM21b, ↓caM21Lb, ↓caM21Yb, ↓caM21Xb, ↓caM13b, ↓caM13Lb, ↓caM13Yb, ↓caM13Xb, ↓caM31b, ↓caM31Lb, ↓caM31Yb, ↓caM31Xb, ↓caM24b, ↓caM24Lb, ↓caM24Yb, ↓caM24Xb, ↓caM44b, ↓caM44Yb, ↓caM44Xb, ↓caM44Lb, ↓caM41b, ↓caM41Lb, ↓caM41Yb, ↓caM41Xb, ↓raHb, ↓raH0b, ↓waHb, ↓waH7b, Option.bind_some, cI_ok, cR_ok, cV_ok, cN_ok, cN_nu, cI_ex, cR_ex, cV_ex, gI_sm, gR_sm, sb_eq, sb_sb, wexc_S, ↓reduceIte, eq_self, vI_def, vV_def, vR_def, nI_1, true_and, and_true, ix6, ix5, nI_p0, nI_p2, nI_p3, nI_p4, nI_p5, us_eq, ud_us1, ud_us0, ud_usn, us_us, us_ne, ud_eq, ud_ni, ud_nc, pm_11, pm_12, pm_16, pm_7, pm_f, pm_o, pm_w11, pm_w12, pm_w16, pm_w7]
    rw [if_pos hr]; rfl
  have hr1 : rcv (S A H (sb m 12 (us (pm D (stC (5 * c) k st)) 1 s)) n r) (ad A 12 0) 6 = true := by simp (disch := first | assumption | omega | (refine sbh ?_ ?_ <;> first | assumption | omega) | (refine sbPV ?_ ?_ <;> first | assumption | omega)) only [rcB0, ↓rfB0_0b, ↓rfB0_1b, ↓rfB0_2b, ↓wfB0_2b, rcB1, ↓rfB1_0b, ↓wfB1_0b, ↓rfB1_1b, ↓wfB1_1b, ↓rfB1_2b, ↓rfB1_3b, ↓rfB1_4b, ↓rfB1_5b, ↓rfB1_6b, ↓rfB1_7b, ↓rfB1_8b, ↓raB2b, ↓waB2b, ↓naB2b, ↓raB3b, ↓waB3b, ↓naB3b, ↓raB4b, ↓waB4b, ↓naB4b, ↓raB5b, ↓waB5b, ↓naB5b, ↓raB6b, ↓waB6b, ↓naB6b, ↓raB7b, ↓waB7b, ↓naB7b, ↓raB8b, ↓waB8b, ↓naB8b, rcB9, ↓rfB9_0b, ↓wfB9_0b, ↓rfB9_1b, ↓rfB9_2b, ↓rfB9_3b, ↓rfB9_4b, ↓raB10b, ↓waB10b, ↓naB10b, ↓raB11b, ↓waB11b, ↓naB11b, ↓raB12b, ↓waB12b, ↓naB12b, ↓raB13b, ↓waB13b, ↓naB13b, rcX0, ↓rfX0_0b, ↓rfX0_1b, ↓rfX0_2b, ↓rfX0_3b, ↓rfX0_4b, ↓wfX0_4b, ↓rfX0_5b, ↓wfX0_5b, ↓rfX0_6b, ↓rfX0_7b, ↓rfX0_8b, ↓rfX0_9b, ↓wfX0_9b, ↓rfX0_10b, ↓wfX0_10b, rcX2, ↓rfX2_0b, ↓rfX2_1b, ↓rfX2_2b, ↓rfX2_3b, ↓rfX2_4b, ↓rfX2_5b, ↓raX3b, ↓waX3b, ↓naX3b, ↓raX4b, ↓waX4b, ↓naX4b, ↓raX5b, ↓waX5b, ↓naX5b, ↓raX6b, ↓waX6b, ↓naX6b, ↓raX7b, ↓waX7b, ↓raX7L0b, ↓waX7L0b, ↓naX7b, ↓raX8b, ↓waX8b, ↓naX8b, rcX11, ↓rfX11_0b, ↓rfX11_1b, ↓wfX11_1b, ↓rfX11_2b, ↓rfX11_3b, ↓wfX11_3b, ↓rfX11_4b, ↓wfX11_4b, ↓rfX11_5b, ↓wfX11_5b, ↓rfX11_6b, ↓rfX11_7b, ↓wfX11_7b, ↓raX12b, ↓waX12b, ↓naX12b, ↓raX13b, ↓waX13b, ↓naX13b, ↓raX14b, ↓waX14b, ↓raX14L0b, ↓waX14L0b, ↓raX14L1b, ↓waX14L1b, ↓raX14L2b, ↓waX14L2b, ↓naX14b, rcM0, ↓rfM0_0b, ↓rfM0_1b, ↓rfM0_2b, ↓rfM0_3b, ↓wfM0_3b, ↓rfM0_4b, ↓rfM0_5b, ↓wfM0_5b, ↓rfM0_6b, ↓wfM0_6b, ↓rfM0_7b, ↓rfM0_8b, ↓wfM0_8b, ↓rfM0_9b, ↓rfM0_10b, ↓wfM0_10b, ↓rfM0_11b, ↓wfM0_11b, ↓rfM0_12b, ↓wfM0_12b, ↓rfM0_13b, ↓wfM0_13b, ↓rfM0_14b, ↓wfM0_14b, ↓rfM0_15b, ↓rfM0_16b, ↓wfM0_16b, ↓raM1b, ↓waM1b, ↓raM1L0b, ↓waM1L0b, ↓raM1L1b, ↓waM1L1b, ↓raM1L2b, ↓waM1L2b, ↓naM1b, ↓raM2b, ↓waM2b, ↓naM2b, ↓raM3b, ↓waM3b, ↓naM3b, ↓raM4b, ↓waM4b, ↓naM4b, ↓raM5b, ↓waM5b, ↓naM5b, ↓raM6b, ↓waM6b, ↓naM6b, ↓raM7b, ↓waM7b, ↓naM7b, ↓caB2b, ↓caB2Lb, ↓caB3b, ↓caB3Lb, ↓caB4b, ↓caB4Lb, ↓caB5b, ↓caB5Lb, ↓caB6b, ↓caB6Lb, ↓caB7b, ↓caB7Lb, ↓caB8b, ↓caB8Lb, ↓caB10b, ↓caB10Lb, ↓caB11b, ↓caB11Lb, ↓caB12b, ↓caB12Lb, ↓caB13b, ↓caB13Lb, ↓caM11b, ↓caM11Lb, ↓caM11Yb, ↓caM11Xb, ↓caM12b, ↓caM12Lb, ↓caM12Yb, ↓caM12Xb, ↓caM21b, ↓caM21Lb, ↓caM21Yb, ↓caM21Xb, ↓caM13b, ↓caM13Lb, ↓caM13Yb, ↓caM13Xb, ↓caM31b, ↓caM31Lb, ↓caM31Yb, ↓caM31Xb, ↓caM24b, ↓caM24Lb, ↓caM24Yb, ↓caM24Xb, ↓caM44b, ↓caM44Yb, ↓caM44Xb, ↓caM44Lb, ↓caM41b, ↓caM41Lb, ↓caM41Yb, ↓caM41Xb, ↓raHb, ↓raH0b, ↓waHb, ↓waH7b, Option.bind_some, cI_ok, cR_ok, cV_ok, cN_ok, cN_nu, cI_ex, cR_ex, cV_ex, gI_sm, gR_sm, sb_eq, sb_sb, wexc_S, ↓reduceIte, eq_self, vI_def, vV_def, vR_def, nI_1, true_and, and_true, ix6, ix5, nI_p0, nI_p2, nI_p3, nI_p4, nI_p5, us_eq, ud_us1, ud_us0, ud_usn, us_us, us_ne, ud_eq, ud_ni, ud_nc, pm_11, pm_12, pm_16, pm_7, pm_f, pm_o, pm_w11, pm_w12, pm_w16, pm_w7]
  rw [b292_55, st0]
  unfold rcK
  by_cases h : k = 105
  · rw [if_pos h, if_pos h, if_pos hr1, s287 (st := stC (5 * c) k st) hN hN60 (by omega)]
    show (if bh (cM D) N (stC (5 * c) k st).1 = 100 then _ else _) = _
    by_cases h100 : bh (cM D) N (stC (5 * c) k st).1 = 100
    · rw [if_pos h100, if_pos h100]
      obtain ⟨a, h1, h2⟩ := hw 248 (by decide)
      rw [h1]; exact t87 248 a _ _ (by decide) hp1 h1 h2
    · rw [if_neg h100, if_neg h100]
      obtain ⟨a, h1, h2⟩ := hw 250 (by decide)
      rw [h1]; exact t87 250 a _ _ (by decide) hp1 h1 h2
  rw [if_neg h, if_neg h]
  by_cases h : k = 97
  · rw [if_pos h, if_pos h, pcW hg hw (i := 259) (by decide) hN hN60 hp1]
    have e1 := mkW_le (T := cM D) (i := 259) (by decide) hp1
    rw [pcS hN hN60 e1 (xx := 0) false i1 (by omega) rfl (d + 3)]
    have e2 := shW_le (T := cM D) (any := false) (o := 5 * c + 1) e1
    rw [pcN hN hN60 e2 (x := 3) (xx := 3) i2 (by omega) rfl (by decide) (d + 2)]
    have e3 := nmW_le (T := cM D) (x := 3) (o := 5 * c + 2) e2
    rw [pcW hg hw (i := 265) (by decide) hN hN60 e3]
    have e4 := mkW_le (T := cM D) (i := 265) (by decide) e3
    rw [pcN hN hN60 e4 (x := 3) (xx := 3) i3 (by omega) rfl (by decide) (d + 2)]
    rfl
  rw [if_neg h, if_neg h]
  by_cases h : k = 112
  · rw [if_pos h, if_pos h, pcW hg hw (i := 267) (by decide) hN hN60 hp1]
    have e1 := mkW_le (T := cM D) (i := 267) (by decide) hp1
    rw [pcS hN hN60 e1 (xx := 1) true i1 (by omega) rfl (d + 3)]
    have e2 := shW_le (T := cM D) (any := true) (o := 5 * c + 1) e1
    rw [pcN hN hN60 e2 (x := 3) (xx := 3) i2 (by omega) rfl (by decide) (d + 2)]
    have e3 := nmW_le (T := cM D) (x := 3) (o := 5 * c + 2) e2
    rw [pcW hg hw (i := 265) (by decide) hN hN60 e3]
    have e4 := mkW_le (T := cM D) (i := 265) (by decide) e3
    rw [pcN hN hN60 e4 (x := 3) (xx := 3) i3 (by omega) rfl (by decide) (d + 2)]
    have e5 := nmW_le (T := cM D) (x := 3) (o := 5 * c + 3) e4
    rw [pcW hg hw (i := 269) (by decide) hN hN60 e5]
    have e6 := mkW_le (T := cM D) (i := 269) (by decide) e5
    rw [pcN hN hN60 e6 (x := 3) (xx := 3) i4 (by omega) rfl (by decide) (d + 2)]
    rfl
  rw [if_neg h, if_neg h]
  by_cases h : k = 108
  · rw [if_pos h, if_pos h, pcW hg hw (i := 271) (by decide) hN hN60 hp1]
    have e1 := mkW_le (T := cM D) (i := 271) (by decide) hp1
    rw [pcN hN hN60 e1 (x := 3) (xx := 3) i2 (by omega) rfl (by decide) (d + 2)]
    rfl
  rw [if_neg h, if_neg h]
  by_cases h : k = 99
  · rw [if_pos h, if_pos h, pcW hg hw (i := 273) (by decide) hN hN60 hp1]
    have e1 := mkW_le (T := cM D) (i := 273) (by decide) hp1
    rw [pcN hN hN60 e1 (x := 1) (xx := 1) i2 (by omega) rfl (by decide) (d + 2)]
    rfl
  rw [if_neg h, if_neg h]
  by_cases h : k = 104
  · rw [if_pos h, if_pos h, pcW hg hw (i := 275) (by decide) hN hN60 hp1]
    have e1 := mkW_le (T := cM D) (i := 275) (by decide) hp1
    rw [pcN hN hN60 e1 (x := 1) (xx := 1) i2 (by omega) rfl (by decide) (d + 2)]
    have e2 := nmW_le (T := cM D) (x := 1) (o := 5 * c + 2) e1
    rw [pcW hg hw (i := 277) (by decide) hN hN60 e2]
    have e3 := mkW_le (T := cM D) (i := 277) (by decide) e2
    rw [pcN hN hN60 e3 (x := 3) (xx := 3) i3 (by omega) rfl (by decide) (d + 2)]
    rfl
  rw [if_neg h, if_neg h]
  by_cases h : k = 114
  · rw [if_pos h, if_pos h, pcW hg hw (i := 279) (by decide) hN hN60 hp1]
    have e1 := mkW_le (T := cM D) (i := 279) (by decide) hp1
    rw [pcN hN hN60 e1 (x := 3) (xx := 3) i2 (by omega) rfl (by decide) (d + 2)]
    have e2 := nmW_le (T := cM D) (x := 3) (o := 5 * c + 2) e1
    rw [pcW hg hw (i := 281) (by decide) hN hN60 e2]
    have e3 := mkW_le (T := cM D) (i := 281) (by decide) e2
    rw [pcN hN hN60 e3 (x := 3) (xx := 3) i3 (by omega) rfl (by decide) (d + 2)]
    rfl
  rw [if_neg h, if_neg h]
  by_cases h : k = 109
  · rw [if_pos h, if_pos h]
    obtain ⟨a, h1, h2⟩ := hw 283 (by decide)
    rw [h1]; exact t421 283 a _ _ _ (by decide) hp1 h1 h2
  · rw [if_neg h, if_neg h]
    obtain ⟨a, h1, h2⟩ := hw 250 (by decide)
    rw [h1]; exact t421 250 a _ _ _ (by decide) hp1 h1 h2
theorem s292 (hg : GS G) (hw : WS G H A) (hN : D 0 10 = nI N) (hN60 : N ≤ 60) (hp : st.1 ≤ N) (hc : st.2.2.1 < 59) (d : Nat) : call G (d + 5) 292 [.ref (ad A 12 0)] (S A H (sb m 12 (us (pm D st) 1 s)) n r) = vV (S A H (sb m 12 (us (pm D (rc (cM D) N st)) 1 s)) n r) := by
  have e5 : 5 * nI st.2.2.1 = nI (5 * st.2.2.1) := by unfold nI; rw [Int32.ofNat_mul]; rfl
  rw [b292_e]
  unfold rc rck
  by_cases hf : st.2.1 = 0
  · have ht : ∀ k, run G (d + 5) 292 55 [some (.ref (ad A 12 0)), some (.int (nI (5 * st.2.2.1))), none] [.int k] (S A H (sb m 12 (us (pm D (st.1, st.2.1, st.2.2.1 + 1, st.2.2.2)) 1 s)) n r) = _ := fun k => s292k (st := (st.1, st.2.1, st.2.2.1 + 1, st.2.2.2)) hg hw hN hN60 hp hc none k d
    have hj := fun (d : Nat) => s287 (G := G) (A := A) (n := n) (r := r) (H := H) (m := m) (s := s) (st := (st.1, st.2.1, st.2.2.1 + 1, st.2.2.2)) hN hN60 (show st.1 < 100 by omega) d
    rw [if_pos hf]
    by_cases h1 : bh (cM D) N st.1 = 100
    · by_cases h2 : bh (cM D) N (st.1 + 1) = 105
      · simp (disch := first | assumption | omega | (refine sbh ?_ ?_ <;> first | assumption | omega) | (refine sbPV ?_ ?_ <;> first | assumption | omega)) only [rcB0, ↓rfB0_0b, ↓rfB0_1b, ↓rfB0_2b, ↓wfB0_2b, rcB1, ↓rfB1_0b, ↓wfB1_0b, ↓rfB1_1b, ↓wfB1_1b, ↓rfB1_2b, ↓rfB1_3b, ↓rfB1_4b, ↓rfB1_5b, ↓rfB1_6b, ↓rfB1_7b, ↓rfB1_8b, ↓raB2b, ↓waB2b, ↓naB2b, ↓raB3b, ↓waB3b, ↓naB3b, ↓raB4b, ↓waB4b, ↓naB4b, ↓raB5b, ↓waB5b, ↓naB5b, ↓raB6b, ↓waB6b, ↓naB6b, ↓raB7b, ↓waB7b, ↓naB7b, ↓raB8b, ↓waB8b, ↓naB8b, rcB9, ↓rfB9_0b, ↓wfB9_0b, ↓rfB9_1b, ↓rfB9_2b, ↓rfB9_3b, ↓rfB9_4b, ↓raB10b, ↓waB10b, ↓naB10b, ↓raB11b, ↓waB11b, ↓naB11b, ↓raB12b, ↓waB12b, ↓naB12b, ↓raB13b, ↓waB13b, ↓naB13b, rcX0, ↓rfX0_0b, ↓rfX0_1b, ↓rfX0_2b, ↓rfX0_3b, ↓rfX0_4b, ↓wfX0_4b, ↓rfX0_5b, ↓wfX0_5b, ↓rfX0_6b, ↓rfX0_7b, ↓rfX0_8b, ↓rfX0_9b, ↓wfX0_9b, ↓rfX0_10b, ↓wfX0_10b, rcX2, ↓rfX2_0b, ↓rfX2_1b, ↓rfX2_2b, ↓rfX2_3b, ↓rfX2_4b, ↓rfX2_5b, ↓raX3b, ↓waX3b, ↓naX3b, ↓raX4b, ↓waX4b, ↓naX4b, ↓raX5b, ↓waX5b, ↓naX5b, ↓raX6b, ↓waX6b, ↓naX6b, ↓raX7b, ↓waX7b, ↓raX7L0b, ↓waX7L0b, ↓naX7b, ↓raX8b, ↓waX8b, ↓naX8b, rcX11, ↓rfX11_0b, ↓rfX11_1b, ↓wfX11_1b, ↓rfX11_2b, ↓rfX11_3b, ↓wfX11_3b, ↓rfX11_4b, ↓wfX11_4b, ↓rfX11_5b, ↓wfX11_5b, ↓rfX11_6b, ↓rfX11_7b, ↓wfX11_7b, ↓raX12b, ↓waX12b, ↓naX12b, ↓raX13b, ↓waX13b, ↓naX13b, ↓raX14b, ↓waX14b, ↓raX14L0b, ↓waX14L0b, ↓raX14L1b, ↓waX14L1b, ↓raX14L2b, ↓waX14L2b, ↓naX14b, rcM0, ↓rfM0_0b, ↓rfM0_1b, ↓rfM0_2b, ↓rfM0_3b, ↓wfM0_3b, ↓rfM0_4b, ↓rfM0_5b, ↓wfM0_5b, ↓rfM0_6b, ↓wfM0_6b, ↓rfM0_7b, ↓rfM0_8b, ↓wfM0_8b, ↓rfM0_9b, ↓rfM0_10b, ↓wfM0_10b, ↓rfM0_11b, ↓wfM0_11b, ↓rfM0_12b, ↓wfM0_12b, ↓rfM0_13b, ↓wfM0_13b, ↓rfM0_14b, ↓wfM0_14b, ↓rfM0_15b, ↓rfM0_16b, ↓wfM0_16b, ↓raM1b, ↓waM1b, ↓raM1L0b, ↓waM1L0b, ↓raM1L1b, ↓waM1L1b, ↓raM1L2b, ↓waM1L2b, ↓naM1b, ↓raM2b, ↓waM2b, ↓naM2b, ↓raM3b, ↓waM3b, ↓naM3b, ↓raM4b, ↓waM4b, ↓naM4b, ↓raM5b, ↓waM5b, ↓naM5b, ↓raM6b, ↓waM6b, ↓naM6b, ↓raM7b, ↓waM7b, ↓naM7b, ↓caB2b, ↓caB2Lb, ↓caB3b, ↓caB3Lb, ↓caB4b, ↓caB4Lb, ↓caB5b, ↓caB5Lb, ↓caB6b, ↓caB6Lb, ↓caB7b, ↓caB7Lb, ↓caB8b, ↓caB8Lb, ↓caB10b, ↓caB10Lb, ↓caB11b, ↓caB11Lb, ↓caB12b, ↓caB12Lb, ↓caB13b, ↓caB13Lb, ↓caM11b, ↓caM11Lb, ↓caM11Yb, ↓caM11Xb, ↓caM12b, ↓caM12Lb, ↓caM12Yb, ↓caM12Xb, ↓caM21b, ↓caM21Lb, ↓caM21Yb, ↓caM21Xb, ↓caM13b, ↓caM13Lb, ↓caM13Yb, ↓caM13Xb, ↓caM31b, ↓caM31Lb, ↓caM31Yb, ↓caM31Xb, ↓caM24b, ↓caM24Lb, ↓caM24Yb, ↓caM24Xb, ↓caM44b, ↓caM44Yb, ↓caM44Xb, ↓caM44Lb, ↓caM41b, ↓caM41Lb, ↓caM41Yb, ↓caM41Xb, ↓raHb, ↓raH0b, ↓waHb, ↓waH7b, Option.bind_some, cI_ok, cR_ok, cV_ok, cN_ok, cN_nu, cI_ex, cR_ex, cV_ex, gI_sm, gR_sm, sb_eq, sb_sb, wexc_S, ↓reduceIte, eq_self, vI_def, vV_def, vR_def, nI_1, true_and, and_true, ix6, ix5, nI_p0, nI_p2, nI_p3, nI_p4, nI_p5, us_eq, ud_us1, ud_us0, ud_usn, us_us, us_ne, ud_eq, ud_ni, ud_nc, pm_11, pm_12, pm_16, pm_7, pm_f, pm_o, pm_w11, pm_w12, pm_w16, pm_w7, hf, e5, ↓s287c, ↓s287bc, h1, h2]
        rw [← hf]; exact ht 105
      · simp (disch := first | assumption | omega | (refine sbh ?_ ?_ <;> first | assumption | omega) | (refine sbPV ?_ ?_ <;> first | assumption | omega)) only [rcB0, ↓rfB0_0b, ↓rfB0_1b, ↓rfB0_2b, ↓wfB0_2b, rcB1, ↓rfB1_0b, ↓wfB1_0b, ↓rfB1_1b, ↓wfB1_1b, ↓rfB1_2b, ↓rfB1_3b, ↓rfB1_4b, ↓rfB1_5b, ↓rfB1_6b, ↓rfB1_7b, ↓rfB1_8b, ↓raB2b, ↓waB2b, ↓naB2b, ↓raB3b, ↓waB3b, ↓naB3b, ↓raB4b, ↓waB4b, ↓naB4b, ↓raB5b, ↓waB5b, ↓naB5b, ↓raB6b, ↓waB6b, ↓naB6b, ↓raB7b, ↓waB7b, ↓naB7b, ↓raB8b, ↓waB8b, ↓naB8b, rcB9, ↓rfB9_0b, ↓wfB9_0b, ↓rfB9_1b, ↓rfB9_2b, ↓rfB9_3b, ↓rfB9_4b, ↓raB10b, ↓waB10b, ↓naB10b, ↓raB11b, ↓waB11b, ↓naB11b, ↓raB12b, ↓waB12b, ↓naB12b, ↓raB13b, ↓waB13b, ↓naB13b, rcX0, ↓rfX0_0b, ↓rfX0_1b, ↓rfX0_2b, ↓rfX0_3b, ↓rfX0_4b, ↓wfX0_4b, ↓rfX0_5b, ↓wfX0_5b, ↓rfX0_6b, ↓rfX0_7b, ↓rfX0_8b, ↓rfX0_9b, ↓wfX0_9b, ↓rfX0_10b, ↓wfX0_10b, rcX2, ↓rfX2_0b, ↓rfX2_1b, ↓rfX2_2b, ↓rfX2_3b, ↓rfX2_4b, ↓rfX2_5b, ↓raX3b, ↓waX3b, ↓naX3b, ↓raX4b, ↓waX4b, ↓naX4b, ↓raX5b, ↓waX5b, ↓naX5b, ↓raX6b, ↓waX6b, ↓naX6b, ↓raX7b, ↓waX7b, ↓raX7L0b, ↓waX7L0b, ↓naX7b, ↓raX8b, ↓waX8b, ↓naX8b, rcX11, ↓rfX11_0b, ↓rfX11_1b, ↓wfX11_1b, ↓rfX11_2b, ↓rfX11_3b, ↓wfX11_3b, ↓rfX11_4b, ↓wfX11_4b, ↓rfX11_5b, ↓wfX11_5b, ↓rfX11_6b, ↓rfX11_7b, ↓wfX11_7b, ↓raX12b, ↓waX12b, ↓naX12b, ↓raX13b, ↓waX13b, ↓naX13b, ↓raX14b, ↓waX14b, ↓raX14L0b, ↓waX14L0b, ↓raX14L1b, ↓waX14L1b, ↓raX14L2b, ↓waX14L2b, ↓naX14b, rcM0, ↓rfM0_0b, ↓rfM0_1b, ↓rfM0_2b, ↓rfM0_3b, ↓wfM0_3b, ↓rfM0_4b, ↓rfM0_5b, ↓wfM0_5b, ↓rfM0_6b, ↓wfM0_6b, ↓rfM0_7b, ↓rfM0_8b, ↓wfM0_8b, ↓rfM0_9b, ↓rfM0_10b, ↓wfM0_10b, ↓rfM0_11b, ↓wfM0_11b, ↓rfM0_12b, ↓wfM0_12b, ↓rfM0_13b, ↓wfM0_13b, ↓rfM0_14b, ↓wfM0_14b, ↓rfM0_15b, ↓rfM0_16b, ↓wfM0_16b, ↓raM1b, ↓waM1b, ↓raM1L0b, ↓waM1L0b, ↓raM1L1b, ↓waM1L1b, ↓raM1L2b, ↓waM1L2b, ↓naM1b, ↓raM2b, ↓waM2b, ↓naM2b, ↓raM3b, ↓waM3b, ↓naM3b, ↓raM4b, ↓waM4b, ↓naM4b, ↓raM5b, ↓waM5b, ↓naM5b, ↓raM6b, ↓waM6b, ↓naM6b, ↓raM7b, ↓waM7b, ↓naM7b, ↓caB2b, ↓caB2Lb, ↓caB3b, ↓caB3Lb, ↓caB4b, ↓caB4Lb, ↓caB5b, ↓caB5Lb, ↓caB6b, ↓caB6Lb, ↓caB7b, ↓caB7Lb, ↓caB8b, ↓caB8Lb, ↓caB10b, ↓caB10Lb, ↓caB11b, ↓caB11Lb, ↓caB12b, ↓caB12Lb, ↓caB13b, ↓caB13Lb, ↓caM11b, ↓caM11Lb, ↓caM11Yb, ↓caM11Xb, ↓caM12b, ↓caM12Lb, ↓caM12Yb, ↓caM12Xb, ↓caM21b, ↓caM21Lb, ↓caM21Yb, ↓caM21Xb, ↓caM13b, ↓caM13Lb, ↓caM13Yb, ↓caM13Xb, ↓caM31b, ↓caM31Lb, ↓caM31Yb, ↓caM31Xb, ↓caM24b, ↓caM24Lb, ↓caM24Yb, ↓caM24Xb, ↓caM44b, ↓caM44Yb, ↓caM44Xb, ↓caM44Lb, ↓caM41b, ↓caM41Lb, ↓caM41Yb, ↓caM41Xb, ↓raHb, ↓raH0b, ↓waHb, ↓waH7b, Option.bind_some, cI_ok, cR_ok, cV_ok, cN_ok, cN_nu, cI_ex, cR_ex, cV_ex, gI_sm, gR_sm, sb_eq, sb_sb, wexc_S, ↓reduceIte, eq_self, vI_def, vV_def, vR_def, nI_1, true_and, and_true, ix6, ix5, nI_p0, nI_p2, nI_p3, nI_p4, nI_p5, us_eq, ud_us1, ud_us0, ud_usn, us_us, us_ne, ud_eq, ud_ni, ud_nc, pm_11, pm_12, pm_16, pm_7, pm_f, pm_o, pm_w11, pm_w12, pm_w16, pm_w7, hf, e5, ↓s287c, ↓s287bc, h1, h2, b292_50]
        rw [← hf]; exact ht 100
    · simp (disch := first | assumption | omega | (refine sbh ?_ ?_ <;> first | assumption | omega) | (refine sbPV ?_ ?_ <;> first | assumption | omega)) only [rcB0, ↓rfB0_0b, ↓rfB0_1b, ↓rfB0_2b, ↓wfB0_2b, rcB1, ↓rfB1_0b, ↓wfB1_0b, ↓rfB1_1b, ↓wfB1_1b, ↓rfB1_2b, ↓rfB1_3b, ↓rfB1_4b, ↓rfB1_5b, ↓rfB1_6b, ↓rfB1_7b, ↓rfB1_8b, ↓raB2b, ↓waB2b, ↓naB2b, ↓raB3b, ↓waB3b, ↓naB3b, ↓raB4b, ↓waB4b, ↓naB4b, ↓raB5b, ↓waB5b, ↓naB5b, ↓raB6b, ↓waB6b, ↓naB6b, ↓raB7b, ↓waB7b, ↓naB7b, ↓raB8b, ↓waB8b, ↓naB8b, rcB9, ↓rfB9_0b, ↓wfB9_0b, ↓rfB9_1b, ↓rfB9_2b, ↓rfB9_3b, ↓rfB9_4b, ↓raB10b, ↓waB10b, ↓naB10b, ↓raB11b, ↓waB11b, ↓naB11b, ↓raB12b, ↓waB12b, ↓naB12b, ↓raB13b, ↓waB13b, ↓naB13b, rcX0, ↓rfX0_0b, ↓rfX0_1b, ↓rfX0_2b, ↓rfX0_3b, ↓rfX0_4b, ↓wfX0_4b, ↓rfX0_5b, ↓wfX0_5b, ↓rfX0_6b, ↓rfX0_7b, ↓rfX0_8b, ↓rfX0_9b, ↓wfX0_9b, ↓rfX0_10b, ↓wfX0_10b, rcX2, ↓rfX2_0b, ↓rfX2_1b, ↓rfX2_2b, ↓rfX2_3b, ↓rfX2_4b, ↓rfX2_5b, ↓raX3b, ↓waX3b, ↓naX3b, ↓raX4b, ↓waX4b, ↓naX4b, ↓raX5b, ↓waX5b, ↓naX5b, ↓raX6b, ↓waX6b, ↓naX6b, ↓raX7b, ↓waX7b, ↓raX7L0b, ↓waX7L0b, ↓naX7b, ↓raX8b, ↓waX8b, ↓naX8b, rcX11, ↓rfX11_0b, ↓rfX11_1b, ↓wfX11_1b, ↓rfX11_2b, ↓rfX11_3b, ↓wfX11_3b, ↓rfX11_4b, ↓wfX11_4b, ↓rfX11_5b, ↓wfX11_5b, ↓rfX11_6b, ↓rfX11_7b, ↓wfX11_7b, ↓raX12b, ↓waX12b, ↓naX12b, ↓raX13b, ↓waX13b, ↓naX13b, ↓raX14b, ↓waX14b, ↓raX14L0b, ↓waX14L0b, ↓raX14L1b, ↓waX14L1b, ↓raX14L2b, ↓waX14L2b, ↓naX14b, rcM0, ↓rfM0_0b, ↓rfM0_1b, ↓rfM0_2b, ↓rfM0_3b, ↓wfM0_3b, ↓rfM0_4b, ↓rfM0_5b, ↓wfM0_5b, ↓rfM0_6b, ↓wfM0_6b, ↓rfM0_7b, ↓rfM0_8b, ↓wfM0_8b, ↓rfM0_9b, ↓rfM0_10b, ↓wfM0_10b, ↓rfM0_11b, ↓wfM0_11b, ↓rfM0_12b, ↓wfM0_12b, ↓rfM0_13b, ↓wfM0_13b, ↓rfM0_14b, ↓wfM0_14b, ↓rfM0_15b, ↓rfM0_16b, ↓wfM0_16b, ↓raM1b, ↓waM1b, ↓raM1L0b, ↓waM1L0b, ↓raM1L1b, ↓waM1L1b, ↓raM1L2b, ↓waM1L2b, ↓naM1b, ↓raM2b, ↓waM2b, ↓naM2b, ↓raM3b, ↓waM3b, ↓naM3b, ↓raM4b, ↓waM4b, ↓naM4b, ↓raM5b, ↓waM5b, ↓naM5b, ↓raM6b, ↓waM6b, ↓naM6b, ↓raM7b, ↓waM7b, ↓naM7b, ↓caB2b, ↓caB2Lb, ↓caB3b, ↓caB3Lb, ↓caB4b, ↓caB4Lb, ↓caB5b, ↓caB5Lb, ↓caB6b, ↓caB6Lb, ↓caB7b, ↓caB7Lb, ↓caB8b, ↓caB8Lb, ↓caB10b, ↓caB10Lb, ↓caB11b, ↓caB11Lb, ↓caB12b, ↓caB12Lb, ↓caB13b, ↓caB13Lb, ↓caM11b, ↓caM11Lb, ↓caM11Yb, ↓caM11Xb, ↓caM12b, ↓caM12Lb, ↓caM12Yb, ↓caM12Xb, ↓caM21b, ↓caM21Lb, ↓caM21Yb, ↓caM21Xb, ↓caM13b, ↓caM13Lb, ↓caM13Yb, ↓caM13Xb, ↓caM31b, ↓caM31Lb, ↓caM31Yb, ↓caM31Xb, ↓caM24b, ↓caM24Lb, ↓caM24Yb, ↓caM24Xb, ↓caM44b, ↓caM44Yb, ↓caM44Xb, ↓caM44Lb, ↓caM41b, ↓caM41Lb, ↓caM41Yb, ↓caM41Xb, ↓raHb, ↓raH0b, ↓waHb, ↓waH7b, Option.bind_some, cI_ok, cR_ok, cV_ok, cN_ok, cN_nu, cI_ex, cR_ex, cV_ex, gI_sm, gR_sm, sb_eq, sb_sb, wexc_S, ↓reduceIte, eq_self, vI_def, vV_def, vR_def, nI_1, true_and, and_true, ix6, ix5, nI_p0, nI_p2, nI_p3, nI_p4, nI_p5, us_eq, ud_us1, ud_us0, ud_usn, us_us, us_ne, ud_eq, ud_ni, ud_nc, pm_11, pm_12, pm_16, pm_7, pm_f, pm_o, pm_w11, pm_w12, pm_w16, pm_w7, hf, e5, ↓s287c, ↓s287bc, h1, b292_50, false_and]
      rw [← hf]; exact ht _
  · simp (disch := first | assumption | omega | (refine sbh ?_ ?_ <;> first | assumption | omega) | (refine sbPV ?_ ?_ <;> first | assumption | omega)) only [rcB0, ↓rfB0_0b, ↓rfB0_1b, ↓rfB0_2b, ↓wfB0_2b, rcB1, ↓rfB1_0b, ↓wfB1_0b, ↓rfB1_1b, ↓wfB1_1b, ↓rfB1_2b, ↓rfB1_3b, ↓rfB1_4b, ↓rfB1_5b, ↓rfB1_6b, ↓rfB1_7b, ↓rfB1_8b, ↓raB2b, ↓waB2b, ↓naB2b, ↓raB3b, ↓waB3b, ↓naB3b, ↓raB4b, ↓waB4b, ↓naB4b, ↓raB5b, ↓waB5b, ↓naB5b, ↓raB6b, ↓waB6b, ↓naB6b, ↓raB7b, ↓waB7b, ↓naB7b, ↓raB8b, ↓waB8b, ↓naB8b, rcB9, ↓rfB9_0b, ↓wfB9_0b, ↓rfB9_1b, ↓rfB9_2b, ↓rfB9_3b, ↓rfB9_4b, ↓raB10b, ↓waB10b, ↓naB10b, ↓raB11b, ↓waB11b, ↓naB11b, ↓raB12b, ↓waB12b, ↓naB12b, ↓raB13b, ↓waB13b, ↓naB13b, rcX0, ↓rfX0_0b, ↓rfX0_1b, ↓rfX0_2b, ↓rfX0_3b, ↓rfX0_4b, ↓wfX0_4b, ↓rfX0_5b, ↓wfX0_5b, ↓rfX0_6b, ↓rfX0_7b, ↓rfX0_8b, ↓rfX0_9b, ↓wfX0_9b, ↓rfX0_10b, ↓wfX0_10b, rcX2, ↓rfX2_0b, ↓rfX2_1b, ↓rfX2_2b, ↓rfX2_3b, ↓rfX2_4b, ↓rfX2_5b, ↓raX3b, ↓waX3b, ↓naX3b, ↓raX4b, ↓waX4b, ↓naX4b, ↓raX5b, ↓waX5b, ↓naX5b, ↓raX6b, ↓waX6b, ↓naX6b, ↓raX7b, ↓waX7b, ↓raX7L0b, ↓waX7L0b, ↓naX7b, ↓raX8b, ↓waX8b, ↓naX8b, rcX11, ↓rfX11_0b, ↓rfX11_1b, ↓wfX11_1b, ↓rfX11_2b, ↓rfX11_3b, ↓wfX11_3b, ↓rfX11_4b, ↓wfX11_4b, ↓rfX11_5b, ↓wfX11_5b, ↓rfX11_6b, ↓rfX11_7b, ↓wfX11_7b, ↓raX12b, ↓waX12b, ↓naX12b, ↓raX13b, ↓waX13b, ↓naX13b, ↓raX14b, ↓waX14b, ↓raX14L0b, ↓waX14L0b, ↓raX14L1b, ↓waX14L1b, ↓raX14L2b, ↓waX14L2b, ↓naX14b, rcM0, ↓rfM0_0b, ↓rfM0_1b, ↓rfM0_2b, ↓rfM0_3b, ↓wfM0_3b, ↓rfM0_4b, ↓rfM0_5b, ↓wfM0_5b, ↓rfM0_6b, ↓wfM0_6b, ↓rfM0_7b, ↓rfM0_8b, ↓wfM0_8b, ↓rfM0_9b, ↓rfM0_10b, ↓wfM0_10b, ↓rfM0_11b, ↓wfM0_11b, ↓rfM0_12b, ↓wfM0_12b, ↓rfM0_13b, ↓wfM0_13b, ↓rfM0_14b, ↓wfM0_14b, ↓rfM0_15b, ↓rfM0_16b, ↓wfM0_16b, ↓raM1b, ↓waM1b, ↓raM1L0b, ↓waM1L0b, ↓raM1L1b, ↓waM1L1b, ↓raM1L2b, ↓waM1L2b, ↓naM1b, ↓raM2b, ↓waM2b, ↓naM2b, ↓raM3b, ↓waM3b, ↓naM3b, ↓raM4b, ↓waM4b, ↓naM4b, ↓raM5b, ↓waM5b, ↓naM5b, ↓raM6b, ↓waM6b, ↓naM6b, ↓raM7b, ↓waM7b, ↓naM7b, ↓caB2b, ↓caB2Lb, ↓caB3b, ↓caB3Lb, ↓caB4b, ↓caB4Lb, ↓caB5b, ↓caB5Lb, ↓caB6b, ↓caB6Lb, ↓caB7b, ↓caB7Lb, ↓caB8b, ↓caB8Lb, ↓caB10b, ↓caB10Lb, ↓caB11b, ↓caB11Lb, ↓caB12b, ↓caB12Lb, ↓caB13b, ↓caB13Lb, ↓caM11b, ↓caM11Lb, ↓caM11Yb, ↓caM11Xb, ↓caM12b, ↓caM12Lb, ↓caM12Yb, ↓caM12Xb, ↓caM21b, ↓caM21Lb, ↓caM21Yb, ↓caM21Xb, ↓caM13b, ↓caM13Lb, ↓caM13Yb, ↓caM13Xb, ↓caM31b, ↓caM31Lb, ↓caM31Yb, ↓caM31Xb, ↓caM24b, ↓caM24Lb, ↓caM24Yb, ↓caM24Xb, ↓caM44b, ↓caM44Yb, ↓caM44Xb, ↓caM44Lb, ↓caM41b, ↓caM41Lb, ↓caM41Yb, ↓caM41Xb, ↓raHb, ↓raH0b, ↓waHb, ↓waH7b, Option.bind_some, cI_ok, cR_ok, cV_ok, cN_ok, cN_nu, cI_ex, cR_ex, cV_ex, gI_sm, gR_sm, sb_eq, sb_sb, wexc_S, ↓reduceIte, eq_self, vI_def, vV_def, vR_def, nI_1, true_and, and_true, ix6, ix5, nI_p0, nI_p2, nI_p3, nI_p4, nI_p5, us_eq, ud_us1, ud_us0, ud_usn, us_us, us_ne, ud_eq, ud_ni, ud_nc, pm_11, pm_12, pm_16, pm_7, pm_f, pm_o, pm_w11, pm_w12, pm_w16, pm_w7, hf]
theorem s292c (hg : GS G) (hw : WS G H A) (hN : D 0 10 = nI N) (hN60 : N ≤ 60) (hp : st.1 ≤ N) (hc : st.2.2.1 < 59) (d : Nat) (K : St → Res) : cV (call G (d + 5) 292 [.ref (ad A 12 0)] (S A H (sb m 12 (us (pm D st) 1 s)) n r)) K = K (S A H (sb m 12 (us (pm D (rc (cM D) N st)) 1 s)) n r) := congrArg (fun z => cV z K) (show call G (d + 5) 292 [.ref (ad A 12 0)] (S A H (sb m 12 (us (pm D st) 1 s)) n r) = vV (S A H (sb m 12 (us (pm D (rc (cM D) N st)) 1 s)) n r) from by apply s292 <;> assumption)
end
