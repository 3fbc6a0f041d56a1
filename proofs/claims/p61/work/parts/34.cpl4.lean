/-! CLASS AND MODEL TOGETHER, part 4: what changes keep, the small ones. -/
section
variable {B : Bd} {s : Nat → Int32} {k p : Nat} {g : Nat → Nat}
theorem sl_su_p {s : Nat → Int32} {a w j : Nat} {v : Int32} (ha : a < 10) (hw : w < 6) (hj : 63 ≤ j ∨ j < 3) : sl (su s j v) a w = sl s a w := by
  unfold sl; exact su_ne (by omega)
theorem po_su_s {s : Nat → Int32} {q w j : Nat} {v : Int32} (hj : j < 63) : po (su s j v) q w = po s q w := by
  unfold po; exact su_ne (by omega)
theorem sl_su_s {s : Nat → Int32} {a w a' w' : Nat} {v : Int32} (hw : w < 6) (hw' : w' < 6) : sl (su s (3 + 6 * a' + w') v) a w = if a = a' ∧ w = w' then v else sl s a w := by
  unfold sl
  by_cases h : a = a' ∧ w = w'
  · rw [if_pos h, h.1, h.2]; exact su_eq ..
  · rw [if_neg h]; exact su_ne (by omega)
theorem po_su_p {s : Nat → Int32} {q w q' w' : Nat} {v : Int32} (hw : w < 5) (hw' : w' < 5) : po (su s (63 + 5 * q' + w') v) q w = if q = q' ∧ w = w' then v else po s q w := by
  unfold po
  by_cases h : q = q' ∧ w = w'
  · rw [if_pos h, h.1, h.2]; exact su_eq ..
  · rw [if_neg h]; exact su_ne (by omega)
theorem ud_i {B : Bd} {c i j : Nat} {v : Int32} : ud B c i v c j = if j = i then v else B c j := by
  by_cases h : j = i
  · subst h; rw [if_pos rfl, ud_eq]
  · rw [if_neg h, ud_ni h]
/-- new references of one applicant -/
theorem CP_8 (h : CP B s k p g) {i : Nat} (hi : i < k) {V W : Nat} (hV : V < 1024) (hW : W < 1024) (hb : ∀ j, j < k → W.testBit (g j) = V.testBit j) (hz : ∀ j, k ≤ j → V.testBit j = false) (hn : ∀ a, a < 10 → noS g k a → W.testBit a = false) : CP (ud B 8 i (nI V)) (su s (3 + 6 * g i + 5) (nI W)) k p g := by
  have e : ∀ c, c ≠ 8 → ud B 8 i (nI V) c = B c := fun c hc => ud_nc hc
  have hgi := IJ_lt (CP_g h) hi
  obtain ⟨hw, ha, hq, hh⟩ := h.1
  refine ⟨⟨WB_8 hw, ⟨?_, ?_, fun j hj => ?_⟩, fun q hqp => ?_, ⟨?_, ?_⟩⟩, CP_g h, ⟨?_, ?_, ?_⟩, fun j hj => ?_, fun a ha2 hna w hw2 => ?_, fun q hqp => ?_⟩
  · rw [e 1 (by omega), e 2 (by omega)]; exact ha.1
  · rw [e 2 (by omega)]; exact ha.2.1
  · rw [e 3 (by omega), e 4 (by omega), e 5 (by omega), ud_i]
    have := ha.2.2 j hj
    refine ⟨this.1, this.2.1, this.2.2.1, ?_⟩
    by_cases hji : j = i
    · rw [if_pos hji]; exact ⟨V, hV, rfl, hz⟩
    · rw [if_neg hji]; exact this.2.2.2
  · rw [e 10 (by omega), e 11 (by omega), e 12 (by omega), e 13 (by omega)]; exact hq q hqp
  · rw [e 7 (by omega)]; exact hh.1
  · rw [e 7 (by omega)]
    intro j hj h7
    unfold ftB; rw [e 10 (by omega), e 3 (by omega), e 4 (by omega), e 11 (by omega), e 12 (by omega), e 5 (by omega)]
    exact hh.2 j hj h7
  · rw [su_ne (by omega), e 1 (by omega)]; exact h.2.2.1.1
  · rw [su_ne (by omega), e 0 (by omega)]; exact h.2.2.1.2.1
  · rw [su_ne (by omega)]; exact h.2.2.1.2.2
  · have hs := CP_sl h hj
    have hgj := IJ_lt (CP_g h) hj
    have r : ∀ w, w < 5 → sl (su s (3 + 6 * g i + 5) (nI W)) (g j) w = sl s (g j) w := fun w hw => by rw [sl_su_s (by omega) (by omega), if_neg (by omega)]
    unfold CSl
    rw [r 0 (by omega), r 1 (by omega), r 2 (by omega), r 3 (by omega), r 4 (by omega), e 2 (by omega), e 3 (by omega), e 4 (by omega), e 5 (by omega), e 6 (by omega)]
    refine ⟨hs.1, hs.2.1, hs.2.2.1, hs.2.2.2.1, hs.2.2.2.2.1, ?_⟩
    rw [sl_su_s (by omega) (by omega), ud_i]
    by_cases hji : j = i
    · subst hji
      rw [if_pos ⟨rfl, rfl⟩, if_pos rfl, nt_nI (by omega)]
      exact ⟨W, hW, rfl, hb, hn⟩
    · rw [if_neg (fun hx => hji (IJ_in (CP_g h) hj hi hx.1)), if_neg hji]; exact hs.2.2.2.2.2
  · rw [sl_su_s hw2 (by omega), if_neg (fun hx => hna i hi hx.1.symm)]; exact CP_no h ha2 hna hw2
  · have hp := CP_po h hqp
    unfold CPo flB2 fh
    rw [po_su_s (by omega), po_su_s (by omega), po_su_s (by omega), po_su_s (by omega), po_su_s (by omega), e 10 (by omega), e 11 (by omega), e 12 (by omega), e 13 (by omega), e 7 (by omega)]
    exact hp
/-- who fills a post -/
theorem CP_7 (h : CP B s k p g) {i q : Nat} (hi : i < k) (hq : q < p) {v : Int32} (hv : (v = nI q ∧ B 7 i = -1 ∧ fh B k (nI q) = none ∧ ftB B i q = true) ∨ (v = -1 ∧ B 7 i = nI q)) : CP (ud B 7 i v) (su s (63 + 5 * q + 4) (if v = -1 then 0 else nI (g i + 1))) k p g := by
  have e : ∀ c, c ≠ 7 → ud B 7 i v c = B c := fun c hc => ud_nc hc
  have hp6 := CP_p h
  have hgi := IJ_lt (CP_g h) hi
  obtain ⟨hw, ha, hqq, hh⟩ := h.1
  have hft : ∀ j t, ftB (ud B 7 i v) j t = ftB B j t := by
    intro j t; unfold ftB; rw [e 10 (by omega), e 3 (by omega), e 4 (by omega), e 11 (by omega), e 12 (by omega), e 5 (by omega)]
  have r : ∀ a w, a < 10 → w < 6 → sl (su s (63 + 5 * q + 4) (if v = -1 then 0 else nI (g i + 1))) a w = sl s a w := fun a w h1 h2 => sl_su_p h1 h2 (by omega)
  -- the new filler of a post
  have hfh : ∀ t, t < p → fh (ud B 7 i v) k (nI t) = if t = q then (if v = -1 then none else some i) else fh B k (nI t) := by
    intro t ht
    unfold fh
    by_cases htq : t = q
    · subst htq
      rw [if_pos rfl]
      rcases hv with ⟨h1, h2, h3, h4⟩ | ⟨h1, h2⟩
      · rw [if_neg (by rw [h1]; exact nI_nm1 (by omega))]
        have hn := fst_none h3
        refine fst_u hi (by rw [ud_i, if_pos rfl, h1]; simp) fun j hj hx => ?_
        rw [ud_i] at hx
        by_cases hji : j = i
        · exact hji
        · rw [if_neg hji] at hx; have := hn j hj; rw [hx] at this; cases this
      · rw [if_pos h1]
        refine fst_of0 fun j hj => ?_
        rw [ud_i]
        by_cases hji : j = i
        · rw [if_pos hji, h1, beq_eq_false_iff_ne]; exact fun hx => nI_nm1 (by omega) hx.symm
        · rw [if_neg hji, beq_eq_false_iff_ne]
          intro hx
          exact hji (hh.1 j i hj hi (by rw [hx]; exact nI_nm1 (by omega)) (by rw [hx, h2]))
    · rw [if_neg htq]
      have : ∀ j, (ud B 7 i v 7 j == nI t) = (B 7 j == nI t) := by
        intro j
        rw [ud_i]
        by_cases hji : j = i
        · subst hji
          rw [if_pos rfl]
          rcases hv with ⟨h1, h2, h3, h4⟩ | ⟨h1, h2⟩
          · rw [h1, h2]
            have a1 : (nI q == nI t) = false := by rw [beq_eq_false_iff_ne]; exact fun hx => htq (nI_inj (by omega) (by omega) hx).symm
            have a2 : ((-1 : Int32) == nI t) = false := by rw [beq_eq_false_iff_ne]; exact fun hx => nI_nm1 (by omega) hx.symm
            rw [a1, a2]
          · rw [h1, h2]
            have a1 : (nI q == nI t) = false := by rw [beq_eq_false_iff_ne]; exact fun hx => htq (nI_inj (by omega) (by omega) hx).symm
            have a2 : ((-1 : Int32) == nI t) = false := by rw [beq_eq_false_iff_ne]; exact fun hx => nI_nm1 (by omega) hx.symm
            rw [a1, a2]
        · rw [if_neg hji]
      simp only [this]
  refine ⟨⟨WB_7 hw ?_, ⟨?_, ?_, fun j hj => ?_⟩, fun q hqp => ?_, ⟨fun j l hj hl => ?_, fun j hj => ?_⟩⟩, CP_g h, ⟨?_, ?_, ?_⟩, fun j hj => ?_, fun a ha2 hna w hw2 => ?_, fun t htp => ?_⟩
  · rcases hv with ⟨h1, _⟩ | ⟨h1, _⟩
    · exact Or.inr ⟨q, hq, h1⟩
    · exact Or.inl h1
  · rw [e 1 (by omega), e 2 (by omega)]; exact ha.1
  · rw [e 2 (by omega)]; exact ha.2.1
  · rw [e 3 (by omega), e 4 (by omega), e 5 (by omega), e 8 (by omega)]; exact ha.2.2 j hj
  · rw [e 10 (by omega), e 11 (by omega), e 12 (by omega), e 13 (by omega)]; exact hqq q hqp
  · rw [ud_i, ud_i]
    rcases hv with ⟨h1, h2, h3, h4⟩ | ⟨h1, h2⟩
    · have hn := fst_none h3
      have hq7 : ∀ j, j < k → ¬ B 7 j = nI q := fun j hj hx => by have := hn j hj; rw [hx] at this; simp at this
      by_cases hji : j = i <;> by_cases hli : l = i
      · intro _ _; rw [hji, hli]
      · rw [if_pos hji, if_neg hli, h1]; intro _ hx; exact absurd hx.symm (hq7 l hl)
      · rw [if_neg hji, if_pos hli, h1]; intro _ hx; exact absurd hx (hq7 j hj)
      · rw [if_neg hji, if_neg hli]; exact hh.1 j l hj hl
    · by_cases hji : j = i <;> by_cases hli : l = i
      · intro _ _; rw [hji, hli]
      · rw [if_pos hji, h1]; intro hx; exact absurd rfl hx
      · rw [if_neg hji, if_pos hli, h1]; intro hx hy; exact absurd hy hx
      · rw [if_neg hji, if_neg hli]; exact hh.1 j l hj hl
  · rw [ud_i, hft]
    by_cases hji : j = i
    · rw [if_pos hji]
      rcases hv with ⟨h1, h2, h3, h4⟩ | ⟨h1, h2⟩
      · intro _; rw [h1, nt_nI (by omega), hji]; exact h4
      · intro hx; exact absurd h1 hx
    · rw [if_neg hji]; exact hh.2 j hj
  · rw [su_ne (by omega), e 1 (by omega)]; exact h.2.2.1.1
  · rw [su_ne (by omega), e 0 (by omega)]; exact h.2.2.1.2.1
  · rw [su_ne (by omega)]; exact h.2.2.1.2.2
  · have hgj := IJ_lt (CP_g h) hj
    unfold CSl
    rw [r _ 0 hgj (by omega), r _ 1 hgj (by omega), r _ 2 hgj (by omega), r _ 3 hgj (by omega), r _ 4 hgj (by omega), r _ 5 hgj (by omega), e 2 (by omega), e 3 (by omega), e 4 (by omega), e 5 (by omega), e 6 (by omega), e 8 (by omega)]
    exact CP_sl h hj
  · rw [r a w ha2 hw2]; exact CP_no h ha2 hna hw2
  · have hp := CP_po h htp
    unfold CPo flB2
    rw [po_su_p (by omega) (by omega), po_su_p (by omega) (by omega), po_su_p (by omega) (by omega), po_su_p (by omega) (by omega), po_su_p (by omega) (by omega), if_neg (by omega), if_neg (by omega), if_neg (by omega), if_neg (by omega), e 10 (by omega), e 11 (by omega), e 12 (by omega), e 13 (by omega), hfh t htp]
    refine ⟨hp.1, hp.2.1, hp.2.2.1, hp.2.2.2.1, ?_⟩
    by_cases htq : t = q
    · rw [if_pos ⟨htq, rfl⟩, if_pos htq]
      by_cases hv1 : v = -1
      · rw [if_pos hv1, if_pos hv1]
      · rw [if_neg hv1, if_neg hv1]
    · rw [if_neg (fun hx => htq hx.1), if_neg htq]; exact hp.2.2.2.2
end
