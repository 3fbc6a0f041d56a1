/-! CLASS AND MODEL TOGETHER, part 5: a new post, a new applicant. -/
theorem inR_b {x : Int32} {b : Nat} (hb : b < 1000) (h : inR x 0 (nI b) = true) : ∃ t, t ≤ b ∧ x = nI t := by
  have e : nI b = nI (b + 1) - 1 := (nI_pred b).symm
  rw [e] at h
  obtain ⟨t, h1, h2⟩ := (inR_nI (k := b + 1) (by omega)).mp h
  exact ⟨t, by omega, h2⟩
theorem shp_is {x : Int32} (h : shp x = true) : isSh x := by
  unfold shp at h
  simp only [Bool.or_eq_true, beq_iff_eq] at h
  rcases h with h | h | h
  · exact Or.inl h
  · exact Or.inr (Or.inl h)
  · exact Or.inr (Or.inr h)
section
variable {B : Bd} {s : Nat → Int32} {k p : Nat} {g : Nat → Nat}
theorem CP_op (h : CP B s k p g) (hp6 : p < 6) {sh lo hi pay : Int32} (h1 : sh = 42 ∨ isSh sh) (h2 : ∃ w, w ≤ 100 ∧ lo = nI w) (h3 : ∃ w, w ≤ 50 ∧ hi = nI w) (h4 : ∃ w, w ≤ 99 ∧ pay = nI w) : CP (apP B p sh lo hi pay) (opS s p sh lo hi pay) k (p + 1) g := by
  have r10 : ∀ j, apP B p sh lo hi pay 10 j = if j = p then sh else B 10 j := by
    intro j; unfold apP; rw [ud_nc (by omega), ud_nc (by omega), ud_nc (by omega), ud_nc (by omega), ud_i]
  have r11 : ∀ j, apP B p sh lo hi pay 11 j = if j = p then lo else B 11 j := by
    intro j; unfold apP; rw [ud_nc (by omega), ud_nc (by omega), ud_nc (by omega), ud_i, ud_nc (by omega)]
  have r12 : ∀ j, apP B p sh lo hi pay 12 j = if j = p then hi else B 12 j := by
    intro j; unfold apP; rw [ud_nc (by omega), ud_nc (by omega), ud_i, ud_nc (by omega), ud_nc (by omega)]
  have r13 : ∀ j, apP B p sh lo hi pay 13 j = if j = p then pay else B 13 j := by
    intro j; unfold apP; rw [ud_nc (by omega), ud_i, ud_nc (by omega), ud_nc (by omega), ud_nc (by omega)]
  have e : ∀ c, c < 9 → apP B p sh lo hi pay c = B c := by
    intro c hc; unfold apP; rw [ud_nc (by omega), ud_nc (by omega), ud_nc (by omega), ud_nc (by omega), ud_nc (by omega)]
  obtain ⟨hw, ha, hq, hh⟩ := h.1
  have hpv := CP_pv h
  have sle : ∀ a w, a < 10 → w < 6 → sl (opS s p sh lo hi pay) a w = sl s a w := by
    intro a w h5 h6
    unfold opS
    rw [sl_su_p h5 h6 (by omega), sl_su_p h5 h6 (by omega), sl_su_p h5 h6 (by omega), sl_su_p h5 h6 (by omega), sl_su_p h5 h6 (by omega), sl_su_p h5 h6 (by omega)]
  have s3 : ∀ j, j < 2 → opS s p sh lo hi pay j = s j := by
    intro j hj; unfold opS; rw [su_ne (by omega), su_ne (by omega), su_ne (by omega), su_ne (by omega), su_ne (by omega), su_ne (by omega)]
  have poe : ∀ q w, w < 5 → po (opS s p sh lo hi pay) q w = if q = p then (if w = 4 then 0 else if w = 3 then pay else if w = 2 then hi else if w = 1 then lo else sh) else po s q w := by
    intro q w hw5
    unfold opS
    rw [po_su_s (by omega), po_su_p hw5 (by omega), po_su_p hw5 (by omega), po_su_p hw5 (by omega), po_su_p hw5 (by omega), show (63 + 5 * p : Nat) = 63 + 5 * p + 0 from rfl, po_su_p hw5 (by omega)]
    by_cases hqp : q = p
    · subst hqp
      rw [if_pos rfl]
      have : w = 0 ∨ w = 1 ∨ w = 2 ∨ w = 3 ∨ w = 4 := by omega
      rcases this with h | h | h | h | h <;> subst h <;> simp
    · simp [hqp]
  refine ⟨⟨WB_op hw hp6 sh lo hi pay, ⟨?_, ?_, fun j hj => ?_⟩, fun q hqp => ?_, ⟨?_, fun j hj h7 => ?_⟩⟩, CP_g h, ⟨?_, ?_, ?_⟩, fun j hj => ?_, fun a ha2 hna w hw2 => ?_, fun q hqp => ?_⟩
  · rw [e 1 (by omega), e 2 (by omega)]; exact ha.1
  · rw [e 2 (by omega)]; exact ha.2.1
  · rw [e 3 (by omega), e 4 (by omega), e 5 (by omega), e 8 (by omega)]; exact ha.2.2 j hj
  · rw [r10, r11, r12, r13]
    by_cases hqp2 : q = p
    · rw [if_pos hqp2, if_pos hqp2, if_pos hqp2, if_pos hqp2]; exact ⟨h1, h2, h3, h4⟩
    · rw [if_neg hqp2, if_neg hqp2, if_neg hqp2, if_neg hqp2]; exact hq q (by omega)
  · rw [e 7 (by omega)]; exact hh.1
  · rw [e 7 (by omega)] at h7 ⊢
    rcases hpv j hj with hx | ⟨t, ht, hx⟩
    · exact absurd hx h7
    · have := hh.2 j hj h7
      rw [hx, nt_nI (by omega)] at this ⊢
      unfold ftB at this ⊢
      rw [r10, r11, r12, if_neg (by omega), if_neg (by omega), if_neg (by omega), e 3 (by omega), e 4 (by omega), e 5 (by omega)]
      exact this
  · rw [s3 0 (by omega), e 1 (by omega)]; exact h.2.2.1.1
  · rw [s3 1 (by omega), e 0 (by omega)]; exact h.2.2.1.2.1
  · unfold opS; exact su_eq ..
  · have hgj := IJ_lt (CP_g h) hj
    unfold CSl
    rw [sle _ 0 hgj (by omega), sle _ 1 hgj (by omega), sle _ 2 hgj (by omega), sle _ 3 hgj (by omega), sle _ 4 hgj (by omega), sle _ 5 hgj (by omega), e 2 (by omega), e 3 (by omega), e 4 (by omega), e 5 (by omega), e 6 (by omega), e 8 (by omega)]
    exact CP_sl h hj
  · rw [sle a w ha2 hw2]; exact CP_no h ha2 hna hw2
  · unfold CPo flB2 fh
    rw [poe q 0 (by omega), poe q 1 (by omega), poe q 2 (by omega), poe q 3 (by omega), poe q 4 (by omega), r10, r11, r12, r13, e 7 (by omega)]
    by_cases hqp2 : q = p
    · subst hqp2
      have : fst (fun i => B 7 i == nI q) k = none := fst_of0 fun i hi => by
        rw [beq_eq_false_iff_ne]
        intro hx
        rcases hpv i hi with hy | ⟨t, ht, hy⟩
        · rw [hx] at hy; exact nI_nm1 (by omega) hy
        · rw [hx] at hy; have := nI_inj (by omega) (by omega) hy; omega
      rw [this]; simp
    · rw [if_neg hqp2, if_neg hqp2, if_neg hqp2, if_neg hqp2, if_neg hqp2, if_neg hqp2, if_neg hqp2, if_neg hqp2, if_neg hqp2]
      exact CP_po h (by omega)
theorem CP_ad (h : CP B s k p g) (hk : k < 10) {a : Nat} (ha10 : a < 10) (hu : uM s a = false) {nid : Nat} (hnid : B 1 1 = nI nid) (hn1 : nid + 1 < 2000000000) {sh w rr : Int32} (h1 : isSh sh) (h2 : ∃ x, x ≤ 100 ∧ w = nI x) (h3 : ∃ x, x ≤ 50 ∧ rr = nI x) : CP (apB B k sh w rr) (addS s a sh w rr) (k + 1) p (fun i => if i = k then a else g i) := by
  have hns : noS g k a := fun i hi e => by rw [← e, Q_u h hi] at hu; cases hu
  obtain ⟨hw, hca, hq, hh⟩ := h.1
  have hpv := CP_pv h
  have r2 : ∀ j, apB B k sh w rr 2 j = if j = k then B 1 1 else B 2 j := by
    intro j; unfold apB; rw [ud_nc (by omega), ud_nc (by omega), ud_nc (by omega), ud_nc (by omega), ud_nc (by omega), ud_nc (by omega), ud_nc (by omega), ud_nc (by omega), ud_i]
  have r3 : ∀ j, apB B k sh w rr 3 j = if j = k then sh else B 3 j := by
    intro j; unfold apB; rw [ud_nc (by omega), ud_nc (by omega), ud_nc (by omega), ud_nc (by omega), ud_nc (by omega), ud_nc (by omega), ud_nc (by omega), ud_i, ud_nc (by omega)]
  have r4 : ∀ j, apB B k sh w rr 4 j = if j = k then w else B 4 j := by
    intro j; unfold apB; rw [ud_nc (by omega), ud_nc (by omega), ud_nc (by omega), ud_nc (by omega), ud_nc (by omega), ud_nc (by omega), ud_i, ud_nc (by omega), ud_nc (by omega)]
  have r5 : ∀ j, apB B k sh w rr 5 j = if j = k then rr else B 5 j := by
    intro j; unfold apB; rw [ud_nc (by omega), ud_nc (by omega), ud_nc (by omega), ud_nc (by omega), ud_nc (by omega), ud_i, ud_nc (by omega), ud_nc (by omega), ud_nc (by omega)]
  have r6 : ∀ j, apB B k sh w rr 6 j = if j = k then 0 else B 6 j := by
    intro j; unfold apB; rw [ud_nc (by omega), ud_nc (by omega), ud_nc (by omega), ud_nc (by omega), ud_i, ud_nc (by omega), ud_nc (by omega), ud_nc (by omega), ud_nc (by omega)]
  have r7 : ∀ j, apB B k sh w rr 7 j = if j = k then -1 else B 7 j := by
    intro j; unfold apB; rw [ud_nc (by omega), ud_nc (by omega), ud_nc (by omega), ud_i, ud_nc (by omega), ud_nc (by omega), ud_nc (by omega), ud_nc (by omega), ud_nc (by omega)]
  have r8 : ∀ j, apB B k sh w rr 8 j = if j = k then 0 else B 8 j := by
    intro j; unfold apB; rw [ud_nc (by omega), ud_nc (by omega), ud_i, ud_nc (by omega), ud_nc (by omega), ud_nc (by omega), ud_nc (by omega), ud_nc (by omega), ud_nc (by omega)]
  have r11 : apB B k sh w rr 1 1 = B 1 1 + 1 := by unfold apB; rw [ud_eq]
  have e : ∀ c, c = 0 ∨ 9 ≤ c → apB B k sh w rr c = B c := by
    intro c hc; unfold apB; rw [ud_nc (by omega), ud_nc (by omega), ud_nc (by omega), ud_nc (by omega), ud_nc (by omega), ud_nc (by omega), ud_nc (by omega), ud_nc (by omega), ud_nc (by omega)]
  have sle : ∀ b z, z < 6 → sl (addS s a sh w rr) b z = if b = a then (if z = 5 then 0 else if z = 4 then 0 else if z = 3 then rr else if z = 2 then w else if z = 1 then sh else s 0 + 1) else sl s b z := by
    intro b z hz
    unfold addS
    have z0 : ∀ (s : Nat → Int32) (v : Int32), sl (su s 0 v) b z = sl s b z := fun s v => by unfold sl; exact su_ne (by omega)
    rw [z0, sl_su_s hz (by omega), sl_su_s hz (by omega), sl_su_s hz (by omega), sl_su_s hz (by omega), sl_su_s hz (by omega), sl_su_s hz (by omega)]
    by_cases hb : b = a
    · subst hb
      rw [if_pos rfl]
      have : z = 0 ∨ z = 1 ∨ z = 2 ∨ z = 3 ∨ z = 4 ∨ z = 5 := by omega
      rcases this with h | h | h | h | h | h <;> subst h <;> simp
    · simp [hb]
  have poe : ∀ q z, po (addS s a sh w rr) q z = po s q z := by
    intro q z; unfold addS
    rw [po_su_s (by omega), po_su_s (by omega), po_su_s (by omega), po_su_s (by omega), po_su_s (by omega), po_su_s (by omega), po_su_s (by omega)]
  have s12 : ∀ j, 1 ≤ j → j < 3 → addS s a sh w rr j = s j := by
    intro j hj hj3; unfold addS
    rw [su_ne (by omega), su_ne (by omega), su_ne (by omega), su_ne (by omega), su_ne (by omega), su_ne (by omega), su_ne (by omega)]
  have gi : ∀ i, i < k → (fun i => if i = k then a else g i) i = g i := fun i hi => if_neg (by omega)
  have gk : (fun i => if i = k then a else g i) k = a := if_pos rfl
  have hij : IJ (fun i => if i = k then a else g i) (k + 1) 10 := by
    refine ⟨fun i hi => ?_, fun i j hi hj hx => ?_⟩
    · by_cases hik : i = k
      · subst hik; rw [gk]; exact ha10
      · rw [gi i (by omega)]; exact IJ_lt (CP_g h) (by omega)
    · by_cases hik : i = k <;> by_cases hjk : j = k
      · omega
      · subst hik; rw [gk, gi j (by omega)] at hx; exact absurd hx.symm (hns j (by omega))
      · subst hjk; rw [gk, gi i (by omega)] at hx; exact absurd hx (hns i (by omega))
      · rw [gi i (by omega), gi j (by omega)] at hx; exact IJ_in (CP_g h) (by omega) (by omega) hx
  obtain ⟨nid', hb1, hb2, hb3⟩ := hca.1
  have hnn : nid' = nid := nI_inj (by omega) (by omega) (hb2.symm.trans hnid)
  subst hnn
  refine ⟨⟨WB_ad hw hk sh w rr, ⟨⟨nid' + 1, hn1, ?_, fun i hi => ?_⟩, fun i j hij2 hj => ?_, fun j hj => ?_⟩, fun q hqp => ?_, ⟨fun i j hi hj => ?_, fun j hj h7 => ?_⟩⟩, hij, ⟨?_, ?_, ?_⟩, fun j hj => ?_, fun b hb10 hnb z hz => ?_, fun q hqp => ?_⟩
  · rw [r11, hb2]; exact nI_s1 _
  · rw [r2]
    by_cases hik : i = k
    · rw [if_pos hik]; exact ⟨nid', by omega, hb2⟩
    · rw [if_neg hik]; obtain ⟨x, hx, ex⟩ := hb3 i (by omega); exact ⟨x, by omega, ex⟩
  · rw [r2, r2, if_neg (by omega)]
    by_cases hjk : j = k
    · rw [if_pos hjk, hb2, nt_nI (by omega)]
      obtain ⟨x, hx, ex⟩ := hb3 i (by omega)
      rw [ex, nt_nI (by omega)]; exact hx
    · rw [if_neg hjk]; exact hca.2.1 i j hij2 (by omega)
  · rw [r3, r4, r5, r8]
    by_cases hjk : j = k
    · rw [if_pos hjk, if_pos hjk, if_pos hjk, if_pos hjk]
      exact ⟨h1, h2, h3, 0, by omega, rfl, fun _ _ => Nat.zero_testBit _⟩
    · rw [if_neg hjk, if_neg hjk, if_neg hjk, if_neg hjk]
      have := hca.2.2 j (by omega)
      obtain ⟨V, hV, eV, hz⟩ := this.2.2.2
      exact ⟨this.1, this.2.1, this.2.2.1, V, hV, eV, fun l hl => hz l (by omega)⟩
  · rw [e 10 (by omega), e 11 (by omega), e 12 (by omega), e 13 (by omega)]; exact hq q hqp
  · rw [r7, r7]
    by_cases hik : i = k
    · rw [if_pos hik]; intro hx; exact absurd rfl hx
    · rw [if_neg hik]
      by_cases hjk : j = k
      · rw [if_pos hjk]; intro hx hy; exact absurd hy hx
      · rw [if_neg hjk]; exact hh.1 i j (by omega) (by omega)
  · rw [r7] at h7 ⊢
    by_cases hjk : j = k
    · rw [if_pos hjk] at h7; exact absurd rfl h7
    · rw [if_neg hjk] at h7 ⊢
      have := hh.2 j (by omega) h7
      unfold ftB at this ⊢
      rw [e 10 (by omega), e 11 (by omega), e 12 (by omega), r3, r4, r5, if_neg hjk, if_neg hjk, if_neg hjk]
      exact this
  · rw [r11]
    have : addS s a sh w rr 0 = s 0 + 1 := by unfold addS; exact su_eq ..
    rw [this, h.2.2.1.1]
  · rw [s12 1 (by omega) (by omega), e 0 (by omega)]; exact h.2.2.1.2.1
  · rw [s12 2 (by omega) (by omega)]; exact h.2.2.1.2.2
  · unfold CSl
    by_cases hjk : j = k
    · subst hjk
      rw [gk, sle a 0 (by omega), sle a 1 (by omega), sle a 2 (by omega), sle a 3 (by omega), sle a 4 (by omega), sle a 5 (by omega), r2, r3, r4, r5, r6, r8]
      refine ⟨?_, ?_, ?_, ?_, ?_, 0, by omega, ?_, fun l hl => ?_, fun _ _ _ => Nat.zero_testBit _⟩
      · simp [h.2.2.1.1]
      · simp
      · simp
      · simp
      · simp
      · simp; rfl
      · rw [if_pos rfl, Nat.zero_testBit]; exact (Nat.zero_testBit _).symm
    · have hjk2 : j < k := by omega
      have hne : g j ≠ a := hns j hjk2
      rw [gi j hjk2, sle _ 0 (by omega), sle _ 1 (by omega), sle _ 2 (by omega), sle _ 3 (by omega), sle _ 4 (by omega), sle _ 5 (by omega), r2, r3, r4, r5, r6, r8, if_neg hne, if_neg hne, if_neg hne, if_neg hne, if_neg hne, if_neg hne, if_neg hjk, if_neg hjk, if_neg hjk, if_neg hjk, if_neg hjk, if_neg hjk]
      have hs := CP_sl h hjk2
      obtain ⟨W, hW, eW, b1, b2⟩ := hs.2.2.2.2.2
      refine ⟨hs.1, hs.2.1, hs.2.2.1, hs.2.2.2.1, hs.2.2.2.2.1, W, hW, eW, fun l hl => ?_, fun b hb10 hnb => b2 b hb10 (fun i hi => by rw [← gi i hi]; exact hnb i (by omega))⟩
      by_cases hlk : l = k
      · subst hlk
        rw [gk, b2 a ha10 hns]
        obtain ⟨V, hV, eV, hz⟩ := (hca.2.2 j hjk2).2.2.2
        rw [eV, nt_nI (by omega)]; exact (hz l (Nat.le_refl _)).symm
      · rw [gi l (by omega)]; exact b1 l (by omega)
  · have hba : b ≠ a := fun hx => hnb k (by omega) (by rw [gk]; exact hx.symm)
    rw [sle b z hz, if_neg hba]
    exact CP_no h hb10 (fun i hi => by rw [← gi i hi]; exact hnb i (by omega)) hz
  · have hp := CP_po h hqp
    have hp6 := CP_p h
    have hfh : fh (apB B k sh w rr) (k + 1) (nI q) = fh B k (nI q) := by
      cases e1 : fh B k (nI q) with
      | none =>
        have hn := fst_none e1
        refine fst_of0 fun j hj => ?_
        show (apB B k sh w rr 7 j == nI q) = false
        rw [r7]
        by_cases hjk : j = k
        · rw [if_pos hjk, beq_eq_false_iff_ne]; exact fun hx => nI_nm1 (by omega) hx.symm
        · rw [if_neg hjk]; exact hn j (by omega)
      | some i =>
        have hi := fst_some e1
        refine fst_of (by omega) ?_ fun j hj => ?_
        · show (apB B k sh w rr 7 i == nI q) = true
          rw [r7, if_neg (by omega)]; exact hi.2.1
        · show (apB B k sh w rr 7 j == nI q) = false
          rw [r7, if_neg (by omega)]; exact hi.2.2 j hj
    unfold CPo flB2
    rw [poe, poe, poe, poe, poe, e 10 (by omega), e 11 (by omega), e 12 (by omega), e 13 (by omega), hfh]
    refine ⟨hp.1, hp.2.1, hp.2.2.1, hp.2.2.2.1, ?_⟩
    rw [hp.2.2.2.2]; unfold flB2
    cases e1 : fh B k (nI q) with
    | none => rfl
    | some i =>
      show nI (g i + 1) = nI ((if i = k then a else g i) + 1)
      rw [if_neg (by have := (fst_some e1).1; omega)]
end
