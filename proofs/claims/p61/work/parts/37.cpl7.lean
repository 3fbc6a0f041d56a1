/-! CLASS AND MODEL TOGETHER, part 7: hiring by hand, dismissing, closing a post. -/
section
variable {B : Bd} {s : Nat → Int32} {k p : Nat} {g : Nat → Nat}
theorem inR_p (h : CP B s k p g) {x : Int32} (hx : inR x 0 (nI p - 1) = true) : ∃ q, q < p ∧ x = nI q := (inR_nI (by have := CP_p h; omega)).mp hx
theorem CP_hi (h : CP B s k p g) {i q : Nat} (hi : i < k) (hq : q < p) (hw : waB B i = true) (hf : fh B k (nI q) = none) (ht : ftB B i q = true) : CP (ud B 7 i (nI q)) (filS s q (g i)) k p g := by
  have hp := CP_p h
  have := CP_7 h hi hq (v := nI q) (Or.inl ⟨rfl, by unfold waB at hw; simpa using hw, hf, ht⟩)
  rw [if_neg (nI_nm1 (by omega))] at this
  exact this
theorem CP_di (h : CP B s k p g) {i q : Nat} (hi : i < k) (hq : q < p) (hf : B 7 i = nI q) : CP (ud B 7 i (-1)) (su s (63 + 5 * q + 4) 0) k p g := by
  have := CP_7 h hi hq (v := -1) (Or.inr ⟨rfl, hf⟩)
  rw [if_pos rfl] at this
  exact this
theorem poq_n (h : CP B s k p g) {q : Nat} (hq : q < p) (e : fh B k (nI q) = none) : po s q 4 = 0 := by
  rw [(CP_po h hq).2.2.2.2]; unfold flB2; rw [e]
theorem poq_s (h : CP B s k p g) {q i : Nat} (hq : q < p) (e : fh B k (nI q) = some i) : po s q 4 = nI (g i + 1) := by
  rw [(CP_po h hq).2.2.2.2]; unfold flB2; rw [e]
theorem O_hi (h : CP B s k p g) (x id : Int32) : ((tHi B k p x id).1 = 0 ∧ (mHi s p x id).1 = 0 ∧ bcI (vac (tHi B k p x id).2 p k) = (mHi s p x id).2.1 ∧ (∃ i v, (tHi B k p x id).2 = ud B 7 i v) ∧ CP (tHi B k p x id).2 (mHi s p x id).2.2 k p g) ∨ ((tHi B k p x id).1 = 4 ∧ (mHi s p x id).1 = 1) ∨ ((tHi B k p x id).1 = 3 ∧ (mHi s p x id).1 = 2) ∨ ((tHi B k p x id).1 = 2 ∧ (mHi s p x id).1 = 3) ∨ ((tHi B k p x id).1 = 5 ∧ (mHi s p x id).1 = 4) := by
  have hp := CP_p h
  unfold tHi mHi
  by_cases hx : inR x 0 (nI p - 1) = true
  · obtain ⟨q, hq, rfl⟩ := inR_p h hx
    rw [if_pos hx, if_pos hx, nI_clamp (by omega)]
    cases e1 : fx B k id with
    | none => rw [soM_n h e1]; right; right; left; exact ⟨rfl, rfl⟩
    | some i =>
      rw [soM_s h e1]
      have hi := fx_k e1
      have hgi := IJ_lt (CP_g h) hi.1
      cases e2 : fh B k (nI q) with
      | some f =>
        have hgf := IJ_lt (CP_g h) (fst_some e2).1
        have : 0 < po s q 4 := by rw [poq_s h hq e2, show (0 : Int32) = nI 0 from rfl, nI_ltI (by omega) (by omega)]; omega
        right; right; right; left
        refine ⟨rfl, ?_⟩
        show ((if 0 < po s q 4 then (3, 0, s) else _) : Nat × Int32 × (Nat → Int32)).1 = 3
        rw [if_pos this]
      | none =>
        have h0 : ¬ 0 < po s q 4 := by rw [poq_n h hq e2]; decide
        show ((if waB B i = true then (if ftB B i q = true then (0, ud B 7 i (nI q)) else (5, B)) else (2, B)) : Nat × Bd).1 = 0 ∧ ((if 0 < po s q 4 then (3, 0, s) else if wM s p (g i) = true then (if ftM s (g i) q = true then (0, nI (vaM (filS s q (g i)) p), filS s q (g i)) else (4, 0, s)) else (3, 0, s)) : Nat × Int32 × (Nat → Int32)).1 = 0 ∧ bcI (vac ((if waB B i = true then (if ftB B i q = true then (0, ud B 7 i (nI q)) else (5, B)) else (2, B)) : Nat × Bd).2 p k) = ((if 0 < po s q 4 then (3, 0, s) else if wM s p (g i) = true then (if ftM s (g i) q = true then (0, nI (vaM (filS s q (g i)) p), filS s q (g i)) else (4, 0, s)) else (3, 0, s)) : Nat × Int32 × (Nat → Int32)).2.1 ∧ (∃ i' v, ((if waB B i = true then (if ftB B i q = true then (0, ud B 7 i (nI q)) else (5, B)) else (2, B)) : Nat × Bd).2 = ud B 7 i' v) ∧ CP ((if waB B i = true then (if ftB B i q = true then (0, ud B 7 i (nI q)) else (5, B)) else (2, B)) : Nat × Bd).2 ((if 0 < po s q 4 then (3, 0, s) else if wM s p (g i) = true then (if ftM s (g i) q = true then (0, nI (vaM (filS s q (g i)) p), filS s q (g i)) else (4, 0, s)) else (3, 0, s)) : Nat × Int32 × (Nat → Int32)).2.2 k p g ∨ ((if waB B i = true then (if ftB B i q = true then (0, ud B 7 i (nI q)) else (5, B)) else (2, B)) : Nat × Bd).1 = 4 ∧ _ ∨ ((if waB B i = true then (if ftB B i q = true then (0, ud B 7 i (nI q)) else (5, B)) else (2, B)) : Nat × Bd).1 = 3 ∧ _ ∨ ((if waB B i = true then (if ftB B i q = true then (0, ud B 7 i (nI q)) else (5, B)) else (2, B)) : Nat × Bd).1 = 2 ∧ ((if 0 < po s q 4 then (3, 0, s) else if wM s p (g i) = true then (if ftM s (g i) q = true then (0, nI (vaM (filS s q (g i)) p), filS s q (g i)) else (4, 0, s)) else (3, 0, s)) : Nat × Int32 × (Nat → Int32)).1 = 3 ∨ ((if waB B i = true then (if ftB B i q = true then (0, ud B 7 i (nI q)) else (5, B)) else (2, B)) : Nat × Bd).1 = 5 ∧ ((if 0 < po s q 4 then (3, 0, s) else if wM s p (g i) = true then (if ftM s (g i) q = true then (0, nI (vaM (filS s q (g i)) p), filS s q (g i)) else (4, 0, s)) else (3, 0, s)) : Nat × Int32 × (Nat → Int32)).1 = 4
        rw [if_neg h0, Q_w h hi.1, Q_ft h hi.1 hq]
        by_cases hw : waB B i = true
        · rw [if_pos hw, if_pos hw]
          by_cases hf : ftB B i q = true
          · rw [if_pos hf, if_pos hf]
            have cp := CP_hi h hi.1 hq hw e2 hf
            left
            exact ⟨rfl, rfl, Q_vac cp, ⟨_, _, rfl⟩, cp⟩
          · rw [if_neg hf, if_neg hf]
            right; right; right; right; exact ⟨rfl, rfl⟩
        · rw [if_neg hw, if_neg hw]
          right; right; right; left; exact ⟨rfl, rfl⟩
  · rw [if_neg hx, if_neg hx]
    right; left; exact ⟨rfl, rfl⟩
theorem O_di (h : CP B s k p g) (x : Int32) : ((tDi B k p x).1 = 0 ∧ (mDi s p x).1 = 0 ∧ (∃ i, fh B k x = some i ∧ (mDi s p x).2.1 = B 2 i ∧ (tDi B k p x).2 = ud B 7 i (-1)) ∧ CP (tDi B k p x).2 (mDi s p x).2.2 k p g) ∨ ((tDi B k p x).1 = 4 ∧ (mDi s p x).1 = 1) ∨ ((tDi B k p x).1 = 2 ∧ (mDi s p x).1 = 2 ∧ fh B k x = none) := by
  have hp := CP_p h
  unfold tDi mDi
  by_cases hx : inR x 0 (nI p - 1) = true
  · obtain ⟨q, hq, rfl⟩ := inR_p h hx
    rw [if_pos hx, if_pos hx, nI_clamp (by omega)]
    cases e2 : fh B k (nI q) with
    | none =>
      right; right
      rw [if_pos (poq_n h hq e2)]
      exact ⟨rfl, rfl, rfl⟩
    | some i =>
      have hi := fst_some e2
      have hgi := IJ_lt (CP_g h) hi.1
      have h0 : ¬ nI (g i + 1) = 0 := fun hh => by have := nI_inj (y := 0) (by omega) (by omega) hh; omega
      have cp := CP_di h hi.1 hq ((fh_eq h (by omega) hi.1).mp e2)
      rw [poq_s h hq e2, if_neg h0, nI_pred, nI_clamp (by omega)]
      left
      refine ⟨rfl, rfl, ⟨i, rfl, ?_, rfl⟩, cp⟩
      have := Q_id cp hi.1
      rw [ud_nc (by omega)] at this
      exact this
  · rw [if_neg hx, if_neg hx]
    right; left; exact ⟨rfl, rfl⟩
/-- the index behind a place that goes away -/
def skp (q j : Nat) : Nat := if j < q then j else j + 1
theorem shk_at {f : Nat → Int32} {q n j : Nat} (hq : q < n) (hj : j < n - 1) : shf f q n j = f (skp q j) := by
  unfold shf cpf skp
  by_cases h : j < q
  · rw [if_neg (by omega), if_pos h]
  · rw [if_pos (by omega), if_neg h]; congr 1; omega
theorem cl_po {s : Nat → Int32} {p q j w : Nat} (hq : q < p) (hj : j < p - 1) (hw : w < 5) : po (clS s p q) j w = po s (skp q j) w := by
  unfold po clS skp
  rw [su_ne (by omega)]
  unfold cpf
  by_cases h : j < q
  · rw [if_neg (by omega), if_pos h]
  · rw [if_pos (by omega), if_neg h]; congr 1; omega
theorem cl_lo {s : Nat → Int32} {p q j : Nat} (hj : j < 63) (hj2 : j ≠ 2) : clS s p q j = s j := by
  unfold clS
  rw [su_ne hj2]; unfold cpf; rw [if_neg (by omega)]
theorem lvv_eq {v : Int32} {q t p : Nat} (hq : q < p) (ht : t < p - 1) (hp : p ≤ 6) (hv : v = -1 ∨ ∃ u, u < p ∧ v = nI u) : lvv (nI q) v = nI t ↔ v = nI (skp q t) := by
  unfold lvv skp
  rcases hv with h | ⟨u, hu, h⟩
  · subst h
    rw [if_neg (fun hx => nI_nm1 (by omega) hx.symm), if_pos]
    · exact ⟨fun hx => absurd hx.symm (nI_nm1 (by omega)), fun hx => absurd hx.symm (nI_nm1 (by split <;> omega))⟩
    · exact Int32.le_trans (show (-1 : Int32) ≤ nI 0 by decide) ((nI_leI (by omega) (by omega)).mpr (Nat.zero_le _))
  · subst h
    by_cases h1 : u = q
    · subst h1
      rw [if_pos rfl]
      refine ⟨fun hx => absurd hx.symm (nI_nm1 (by omega)), fun hx => ?_⟩
      have := nI_inj (by omega) (by split <;> omega) hx
      split at this <;> omega
    · rw [if_neg (fun hx => h1 (nI_inj (by omega) (by omega) hx))]
      by_cases h2 : u ≤ q
      · rw [if_pos ((nI_leI (by omega) (by omega)).mpr h2)]
        constructor
        · intro hx; have := nI_inj (by omega) (by omega) hx; subst this; rw [if_pos (by omega)]
        · intro hx; have := nI_inj (by omega) (by split <;> omega) hx
          split at this
          · subst this; rfl
          · omega
      · rw [if_neg (fun hx => h2 ((nI_leI (by omega) (by omega)).mp hx))]
        obtain ⟨u', rfl⟩ : ∃ u', u = u' + 1 := ⟨u - 1, by omega⟩
        rw [nI_pred]
        constructor
        · intro hx; have := nI_inj (by omega) (by omega) hx; subst this; rw [if_neg (by omega)]
        · intro hx; have := nI_inj (by omega) (by split <;> omega) hx
          split at this
          · omega
          · rw [show u' = t by omega]
theorem lvv_m1 {v : Int32} {q p : Nat} (hp : p ≤ 6) (hq : q < p) (hv : v = -1 ∨ ∃ u, u < p ∧ v = nI u) : lvv (nI q) v = -1 ↔ v = -1 ∨ v = nI q := by
  unfold lvv
  rcases hv with h | ⟨u, hu, h⟩
  · subst h
    rw [if_neg (fun hx => nI_nm1 (by omega) hx.symm), if_pos (Int32.le_trans (show (-1 : Int32) ≤ nI 0 by decide) ((nI_leI (by omega) (by omega)).mpr (Nat.zero_le _)))]
    exact ⟨fun _ => Or.inl rfl, fun _ => rfl⟩
  · subst h
    by_cases h1 : u = q
    · subst h1; rw [if_pos rfl]; exact ⟨fun _ => Or.inr rfl, fun _ => rfl⟩
    · rw [if_neg (fun hx => h1 (nI_inj (by omega) (by omega) hx))]
      have hn : ¬ (nI u = -1 ∨ nI u = nI q) := by
        rintro (hx | hx)
        · exact nI_nm1 (by omega) hx
        · exact h1 (nI_inj (by omega) (by omega) hx)
      by_cases h2 : u ≤ q
      · rw [if_pos ((nI_leI (by omega) (by omega)).mpr h2)]
        exact ⟨fun hx => absurd hx (nI_nm1 (by omega)), fun hx => absurd hx hn⟩
      · rw [if_neg (fun hx => h2 ((nI_leI (by omega) (by omega)).mp hx))]
        obtain ⟨u', rfl⟩ : ∃ u', u = u' + 1 := ⟨u - 1, by omega⟩
        rw [nI_pred]
        exact ⟨fun hx => absurd hx (nI_nm1 (by omega)), fun hx => absurd hx hn⟩
theorem CP_cl (h : CP B s k p g) {q : Nat} (hq : q < p) : CP (lvB (rmP B p q) k (nI q)) (clS s p q) k (p - 1) g := by
  have hp := CP_p h
  obtain ⟨hw, ha, hqq, hh⟩ := h.1
  have hpv := CP_pv h
  have e : ∀ c, c ≠ 7 → c < 9 → lvB (rmP B p q) k (nI q) c = B c := by
    intro c h1 h2; unfold lvB rmP
    rw [us_ne h1, ud_nc (by omega), us_ne (by omega), us_ne (by omega), us_ne (by omega), us_ne (by omega)]
  have r7 : ∀ j, j < k → lvB (rmP B p q) k (nI q) 7 j = lvv (nI q) (B 7 j) := by
    intro j hj; unfold lvB rmP mix
    rw [us_eq]
    simp only [if_pos hj]
    rw [ud_nc (by omega), us_ne (by omega), us_ne (by omega), us_ne (by omega), us_ne (by omega)]
  have r10 : ∀ j, j < p - 1 → lvB (rmP B p q) k (nI q) 10 j = B 10 (skp q j) := by
    intro j hj; unfold lvB rmP
    rw [us_ne (by omega), ud_nc (by omega), us_ne (by omega), us_ne (by omega), us_ne (by omega), us_eq, shk_at hq hj]
  have r11 : ∀ j, j < p - 1 → lvB (rmP B p q) k (nI q) 11 j = B 11 (skp q j) := by
    intro j hj; unfold lvB rmP
    rw [us_ne (by omega), ud_nc (by omega), us_ne (by omega), us_ne (by omega), us_eq, shk_at hq hj]
  have r12 : ∀ j, j < p - 1 → lvB (rmP B p q) k (nI q) 12 j = B 12 (skp q j) := by
    intro j hj; unfold lvB rmP
    rw [us_ne (by omega), ud_nc (by omega), us_ne (by omega), us_eq, shk_at hq hj]
  have r13 : ∀ j, j < p - 1 → lvB (rmP B p q) k (nI q) 13 j = B 13 (skp q j) := by
    intro j hj; unfold lvB rmP
    rw [us_ne (by omega), ud_nc (by omega), us_eq, shk_at hq hj]
  have sk : ∀ j, j < p - 1 → skp q j < p := by intro j hj; unfold skp; split <;> omega
  have hfh : ∀ t, t < p - 1 → fh (lvB (rmP B p q) k (nI q)) k (nI t) = fh B k (nI (skp q t)) := by
    intro t ht
    have cg : ∀ (P P' : Nat → Bool) (n : Nat), (∀ i, i < n → P i = P' i) → fst P n = fst P' n := by
      intro P P' n hc
      cases e1 : fst P' n with
      | none => exact fst_of0 fun j hj => by rw [hc j hj]; exact fst_none e1 j hj
      | some i => have := fst_some e1; exact fst_of this.1 (by rw [hc i this.1]; exact this.2.1) fun j hj => by rw [hc j (by omega)]; exact this.2.2 j hj
    refine cg _ _ k fun i hi => ?_
    rw [r7 i hi]
    have := lvv_eq (v := B 7 i) hq ht hp (hpv i hi)
    by_cases hx : B 7 i = nI (skp q t)
    · rw [this.mpr hx, hx]; simp
    · rw [beq_eq_false_iff_ne.mpr hx, beq_eq_false_iff_ne.mpr (fun hy => hx (this.mp hy))]
  have sle : ∀ a w, a < 10 → w < 6 → sl (clS s p q) a w = sl s a w := fun a w h1 h2 => cl_lo (by omega) (by omega)
  refine ⟨⟨WB_cl hw hq, ⟨?_, ?_, fun j hj => ?_⟩, fun t ht => ?_, ⟨fun i j hi hj => ?_, fun j hj => ?_⟩⟩, CP_g h, ⟨?_, ?_, ?_⟩, fun j hj => ?_, fun a ha2 hna w hw2 => ?_, fun t ht => ?_⟩
  · rw [e 1 (by omega) (by omega), e 2 (by omega) (by omega)]; exact ha.1
  · rw [e 2 (by omega) (by omega)]; exact ha.2.1
  · rw [e 3 (by omega) (by omega), e 4 (by omega) (by omega), e 5 (by omega) (by omega), e 8 (by omega) (by omega)]; exact ha.2.2 j hj
  · rw [r10 t ht, r11 t ht, r12 t ht, r13 t ht]; exact hqq _ (sk t ht)
  · rw [r7 i hi, r7 j hj]
    intro h1 h2
    have hm := lvv_m1 (v := B 7 i) hp hq (hpv i hi)
    rcases hpv i hi with hx | ⟨u, hu, hx⟩
    · exact absurd (hm.mpr (Or.inl hx)) h1
    · have huq : u ≠ q := fun hy => h1 (hm.mpr (Or.inr (by rw [hx, hy])))
      -- the new number of its post
      obtain ⟨t, ht, et⟩ : ∃ t, t < p - 1 ∧ skp q t = u := by
        unfold skp
        by_cases hl : u < q
        · exact ⟨u, by omega, if_pos hl⟩
        · exact ⟨u - 1, by omega, by rw [if_neg (by omega)]; omega⟩
      have l1 := (lvv_eq (v := B 7 i) hq ht hp (hpv i hi)).mpr (by rw [et]; exact hx)
      have l2 := (lvv_eq (v := B 7 j) hq ht hp (hpv j hj)).mp (by rw [← h2]; exact l1)
      exact hh.1 i j hi hj (by rw [hx]; exact nI_nm1 (by omega)) (by rw [l2, et, hx])
  · rw [r7 j hj]
    intro h1
    have hm := lvv_m1 (v := B 7 j) hp hq (hpv j hj)
    rcases hpv j hj with hx | ⟨u, hu, hx⟩
    · exact absurd (hm.mpr (Or.inl hx)) h1
    · have huq : u ≠ q := fun hy => h1 (hm.mpr (Or.inr (by rw [hx, hy])))
      obtain ⟨t, ht, et⟩ : ∃ t, t < p - 1 ∧ skp q t = u := by
        unfold skp
        by_cases hl : u < q
        · exact ⟨u, by omega, if_pos hl⟩
        · exact ⟨u - 1, by omega, by rw [if_neg (by omega)]; omega⟩
      have l1 := (lvv_eq (v := B 7 j) hq ht hp (hpv j hj)).mpr (by rw [et]; exact hx)
      have := hh.2 j hj (by rw [hx]; exact nI_nm1 (by omega))
      rw [hx, nt_nI (by omega)] at this
      rw [l1, nt_nI (by omega)]
      unfold ftB at this ⊢
      rw [r10 t ht, r11 t ht, r12 t ht, et, e 3 (by omega) (by omega), e 4 (by omega) (by omega), e 5 (by omega) (by omega)]
      exact this
  · rw [cl_lo (by omega) (by omega), e 1 (by omega) (by omega)]; exact h.2.2.1.1
  · rw [cl_lo (by omega) (by omega), e 0 (by omega) (by omega)]; exact h.2.2.1.2.1
  · unfold clS; exact su_eq ..
  · have hgj := IJ_lt (CP_g h) hj
    unfold CSl
    rw [sle _ 0 hgj (by omega), sle _ 1 hgj (by omega), sle _ 2 hgj (by omega), sle _ 3 hgj (by omega), sle _ 4 hgj (by omega), sle _ 5 hgj (by omega), e 2 (by omega) (by omega), e 3 (by omega) (by omega), e 4 (by omega) (by omega), e 5 (by omega) (by omega), e 6 (by omega) (by omega), e 8 (by omega) (by omega)]
    exact CP_sl h hj
  · rw [sle a w ha2 hw2]; exact CP_no h ha2 hna hw2
  · unfold CPo flB2
    rw [cl_po hq ht (by omega), cl_po hq ht (by omega), cl_po hq ht (by omega), cl_po hq ht (by omega), cl_po hq ht (by omega), r10 t ht, r11 t ht, r12 t ht, r13 t ht, hfh t ht]
    exact CP_po h (sk t ht)
end
