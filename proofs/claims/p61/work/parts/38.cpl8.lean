/-! CLASS AND MODEL TOGETHER, part 8: an applicant goes. -/
section
variable {B : Bd} {s : Nat → Int32} {k p : Nat} {g : Nat → Nat}
theorem gvL_at {s : Nat → Int32} {a b w : Nat} (hw : w < 6) : ∀ o, sl (gvL s a o) b w = if w = 5 ∧ b < o then sl s b 5 &&& (one a ^^^ (-1)) else sl s b w := by
  intro o
  induction o with
  | zero => rw [if_neg (by omega)]; rfl
  | succ o ih =>
    rw [gvL, sl_su_s hw (by omega)]
    by_cases hbo : b = o ∧ w = 5
    · obtain ⟨rfl, rfl⟩ := hbo
      have i2 : sl (gvL s a b) b 5 = sl s b 5 := by
        rw [ih, if_neg (by omega)]
      rw [if_pos ⟨rfl, rfl⟩, if_pos ⟨rfl, by omega⟩, i2]
    · rw [if_neg hbo, ih]
      by_cases h5 : w = 5 ∧ b < o
      · rw [if_pos h5, if_pos ⟨h5.1, by omega⟩]
      · rw [if_neg h5, if_neg (fun hx => h5 ⟨hx.1, by omega⟩)]
theorem zrL_at {s : Nat → Int32} {a b w : Nat} (hw : w < 6) : ∀ z, z ≤ 6 → sl (zrL s a z) b w = if b = a ∧ w < z then 0 else sl s b w := by
  intro z
  induction z with
  | zero => intro _; rw [if_neg (by omega)]; rfl
  | succ z ih =>
    intro hz
    rw [zrL, sl_su_s hw (by omega), ih (by omega)]
    by_cases h1 : b = a ∧ w = z
    · rw [if_pos h1, if_pos ⟨h1.1, by omega⟩]
    · rw [if_neg h1]
      by_cases h2 : b = a ∧ w < z
      · rw [if_pos h2, if_pos ⟨h2.1, by omega⟩]
      · rw [if_neg h2, if_neg (by omega)]
theorem zrL_o {s : Nat → Int32} {a j : Nat} (ha : a < 10) (h : j < 3 ∨ 63 ≤ j) : ∀ z, z ≤ 6 → zrL s a z j = s j := by
  intro z
  induction z with
  | zero => intro _; rfl
  | succ z ih => intro hz; rw [zrL, su_ne (by omega), ih (by omega)]
theorem go_sl {s : Nat → Int32} {p a b w : Nat} (hb : b < 10) (hw : w < 6) : sl (goS s p a) b w = if b = a then 0 else if w = 5 then sl s b 5 &&& (one a ^^^ (-1)) else sl s b w := by
  have hu : ∀ w, w < 6 → sl (unS s p a) b w = sl s b w := by
    intro w hw; unfold unS
    cases fwM s p a with
    | none => rfl
    | some q => exact sl_su_p hb hw (by omega)
  unfold goS
  rw [zrL_at hw 6 (by omega), gvL_at hw]
  by_cases h1 : b = a
  · rw [if_pos ⟨h1, hw⟩, if_pos h1]
  · rw [if_neg (fun hx => h1 hx.1), if_neg h1, hu 5 (by omega), hu w hw]
    by_cases h5 : w = 5
    · rw [if_pos ⟨h5, hb⟩, if_pos h5]
    · rw [if_neg (fun hx => h5 hx.1), if_neg h5]
theorem go_lo {s : Nat → Int32} {p a j : Nat} (ha : a < 10) (hj : j < 3) : goS s p a j = s j := by
  unfold goS
  rw [zrL_o ha (Or.inl hj) 6 (by omega), gvL_n (Or.inl hj) 10 (by omega)]
  unfold unS
  cases fwM s p a with
  | none => rfl
  | some q => exact su_ne (by omega)
theorem go_po {s : Nat → Int32} {p a q w : Nat} (ha : a < 10) (hw : w < 5) : po (goS s p a) q w = if w = 4 ∧ fwM s p a = some q then 0 else po s q w := by
  unfold po goS
  rw [zrL_o ha (Or.inr (by omega)) 6 (by omega), gvL_n (Or.inr (by omega)) 10 (by omega)]
  unfold unS
  cases e : fwM s p a with
  | none => rw [if_neg (fun hx => by cases hx.2)]
  | some t =>
    by_cases h1 : w = 4 ∧ t = q
    · obtain ⟨rfl, rfl⟩ := h1
      rw [if_pos ⟨rfl, rfl⟩]; exact su_eq ..
    · rw [if_neg (fun hx => h1 ⟨hx.1, by have := hx.2; injection this⟩)]
      exact su_ne (by omega)
theorem skp_inj {q i j : Nat} (h : skp q i = skp q j) : i = j := by
  unfold skp at h; split at h <;> split at h <;> omega
theorem skp_mono {q i j : Nat} (h : i < j) : skp q i < skp q j := by
  unfold skp; split <;> split <;> omega
theorem skp_ne {q i : Nat} : skp q i ≠ q := by unfold skp; split <;> omega
theorem skp_lt {q i n : Nat} (hq : q < n) (hi : i < n - 1) : skp q i < n := by unfold skp; split <;> omega
theorem skp_sur {q j n : Nat} (hq : q < n) (hj : j < n) (hne : j ≠ q) : ∃ i, i < n - 1 ∧ skp q i = j := by
  unfold skp
  by_cases hl : j < q
  · exact ⟨j, by omega, if_pos hl⟩
  · exact ⟨j - 1, by omega, by rw [if_neg (by omega)]; omega⟩
theorem CP_rm (h : CP B s k p g) {t : Nat} (ht : t < k) : CP (rmB B k t) (goS s p (g t)) (k - 1) p (fun i => g (skp t i)) := by
  have hp := CP_p h
  have hk := CP_k h
  have hgt := IJ_lt (CP_g h) ht
  obtain ⟨hw, ha, hqq, hh⟩ := h.1
  have hpv := CP_pv h
  have r : ∀ c, 2 ≤ c → c < 8 → ∀ j, j < k - 1 → rmB B k t c j = B c (skp t j) := by
    intro c h1 h2 j hj
    have e1 : rmB B k t c = rmA B k t c := by unfold rmB fgB; exact us_ne (by omega)
    rw [e1, ← shk_at (f := B c) ht hj]
    unfold rmA
    rw [ud_nc (by omega)]
    have : c = 2 ∨ c = 3 ∨ c = 4 ∨ c = 5 ∨ c = 6 ∨ c = 7 := by omega
    rcases this with h | h | h | h | h | h <;> subst h <;> simp [us]
  have r8 : ∀ j, j < k - 1 → rmB B k t 8 j = fgv t (B 8 (skp t j)) := by
    intro j hj
    unfold rmB fgB mix
    rw [us_eq]
    simp only [if_pos hj]
    have : rmA B k t 8 j = B 8 (skp t j) := by
      rw [← shk_at (f := B 8) ht hj]; unfold rmA
      rw [ud_nc (by omega), us_eq]
    rw [this]
  have e : ∀ c, c = 0 ∨ 9 ≤ c → rmB B k t c = B c := by
    intro c hc
    unfold rmB fgB rmA
    rw [us_ne (by omega), ud_nc (by omega), us_ne (by omega), us_ne (by omega), us_ne (by omega), us_ne (by omega), us_ne (by omega), us_ne (by omega), us_ne (by omega)]
  have r11 : rmB B k t 1 1 = B 1 1 := by
    unfold rmB fgB rmA
    rw [us_ne (by omega), ud_ni (by omega), us_ne (by omega), us_ne (by omega), us_ne (by omega), us_ne (by omega), us_ne (by omega), us_ne (by omega), us_ne (by omega)]
  have sk : ∀ j, j < k - 1 → skp t j < k := fun j hj => skp_lt ht hj
  have hft : ∀ j q, j < k - 1 → ftB (rmB B k t) j q = ftB B (skp t j) q := by
    intro j q hj; unfold ftB
    rw [e 10 (by omega), e 11 (by omega), e 12 (by omega), r 3 (by omega) (by omega) j hj, r 4 (by omega) (by omega) j hj, r 5 (by omega) (by omega) j hj]
  have hij : IJ (fun i => g (skp t i)) (k - 1) 10 := ⟨fun i hi => IJ_lt (CP_g h) (sk i hi), fun i j hi hj hx => skp_inj (IJ_in (CP_g h) (sk i hi) (sk j hj) hx)⟩
  have hgne : ∀ j, j < k - 1 → g (skp t j) ≠ g t := fun j hj hx => skp_ne (IJ_in (CP_g h) (sk j hj) ht hx)
  obtain ⟨nid, hb1, hb2, hb3⟩ := ha.1
  refine ⟨⟨WB_rm hw ht, ⟨⟨nid, hb1, ?_, fun i hi => ?_⟩, fun i j hij2 hj => ?_, fun j hj => ?_⟩, fun q hq => ?_, ⟨fun i j hi hj => ?_, fun j hj => ?_⟩⟩, hij, ⟨?_, ?_, ?_⟩, fun j hj => ?_, fun b hb10 hnb w hw2 => ?_, fun q hq => ?_⟩
  · rw [r11]; exact hb2
  · rw [r 2 (by omega) (by omega) i hi]; exact hb3 _ (sk i hi)
  · rw [r 2 (by omega) (by omega) i (by omega), r 2 (by omega) (by omega) j hj]
    exact ha.2.1 _ _ (skp_mono hij2) (sk j hj)
  · rw [r 3 (by omega) (by omega) j hj, r 4 (by omega) (by omega) j hj, r 5 (by omega) (by omega) j hj, r8 j hj]
    have := ha.2.2 _ (sk j hj)
    obtain ⟨V, hV, eV, hz⟩ := this.2.2.2
    refine ⟨this.1, this.2.1, this.2.2.1, fgN t V, bt_fgl hV, by rw [eV, bt_fg V hV t (by omega)], fun l hl => ?_⟩
    rw [bt_fgb]
    by_cases hlt : l < t
    · omega
    · rw [if_neg hlt]; exact hz _ (by omega)
  · rw [e 10 (by omega), e 11 (by omega), e 12 (by omega), e 13 (by omega)]; exact hqq q hq
  · rw [r 7 (by omega) (by omega) i hi, r 7 (by omega) (by omega) j hj]
    intro h1 h2
    exact skp_inj (hh.1 _ _ (sk i hi) (sk j hj) h1 h2)
  · rw [r 7 (by omega) (by omega) j hj, hft j _ hj]
    exact hh.2 _ (sk j hj)
  · rw [go_lo hgt (by omega), r11]; exact h.2.2.1.1
  · rw [go_lo hgt (by omega), e 0 (by omega)]; exact h.2.2.1.2.1
  · rw [go_lo hgt (by omega)]; exact h.2.2.1.2.2
  · have hgj := IJ_lt (CP_g h) (sk j hj)
    have hs := CP_sl h (sk j hj)
    unfold CSl
    rw [go_sl hgj (by omega), go_sl hgj (by omega), go_sl hgj (by omega), go_sl hgj (by omega), go_sl hgj (by omega), go_sl hgj (by omega), if_neg (hgne j hj), if_neg (hgne j hj), if_neg (hgne j hj), if_neg (hgne j hj), if_neg (hgne j hj), if_neg (hgne j hj), if_neg (by omega), if_neg (by omega), if_neg (by omega), if_neg (by omega), if_neg (by omega), if_pos rfl, r 2 (by omega) (by omega) j hj, r 3 (by omega) (by omega) j hj, r 4 (by omega) (by omega) j hj, r 5 (by omega) (by omega) j hj, r 6 (by omega) (by omega) j hj, r8 j hj]
    obtain ⟨W, hW, eW, b1, b2⟩ := hs.2.2.2.2.2
    obtain ⟨V, hV, eV, hz⟩ := CP_gv h (sk j hj)
    rw [eV, nt_nI (by omega)] at b1
    refine ⟨hs.1, hs.2.1, hs.2.2.1, hs.2.2.2.1, hs.2.2.2.2.1, clN (g t) W, bt_cll hW, by rw [eW, bt_cl W hW _ hgt], fun l hl => ?_, fun b hb10 hnb => ?_⟩
    · rw [eV, bt_fg V hV t (by omega), nt_nI (by have := bt_fgl (q := t) hV; omega), bt_fgb, bt_clb _ _ _ (IJ_lt (CP_g h) (sk l hl)), decide_eq_false (fun hx => hgne l hl hx.symm)]
      have := b1 _ (sk l hl)
      unfold skp at this ⊢
      rw [this]; simp
    · rw [bt_clb _ _ _ hb10]
      by_cases hbt : g t = b
      · rw [decide_eq_true hbt]; simp
      · have : noS g k b := by
          intro i hi hx
          by_cases hit : i = t
          · subst hit; exact hbt hx
          · obtain ⟨i', hi', e'⟩ := skp_sur ht hi hit
            exact hnb i' hi' (by show g (skp t i') = b; rw [e']; exact hx)
        rw [b2 b hb10 this]; rfl
  · rw [go_sl hb10 hw2]
    by_cases hbt : b = g t
    · rw [if_pos hbt]
    · rw [if_neg hbt]
      have hno : noS g k b := by
        intro i hi hx
        by_cases hit : i = t
        · subst hit; exact hbt hx.symm
        · obtain ⟨i', hi', e'⟩ := skp_sur ht hi hit
          exact hnb i' hi' (by show g (skp t i') = b; rw [e']; exact hx)
      rw [CP_no h hb10 hno (by omega : 5 < 6), CP_no h hb10 hno hw2]
      split
      · exact Int32.zero_and
      · rfl
  · have hpo := CP_po h hq
    unfold CPo
    rw [go_po hgt (by omega), go_po hgt (by omega), go_po hgt (by omega), go_po hgt (by omega), go_po hgt (by omega), if_neg (fun hx => by omega), if_neg (fun hx => by omega), if_neg (fun hx => by omega), if_neg (fun hx => by omega), e 10 (by omega), e 11 (by omega), e 12 (by omega), e 13 (by omega)]
    refine ⟨hpo.1, hpo.2.1, hpo.2.2.1, hpo.2.2.2.1, ?_⟩
    rw [Q_fw h ht, hpo.2.2.2.2]
    unfold flB2
    cases e1 : fh B k (nI q) with
    | none =>
      have hn := fst_none e1
      have e2 : fh (rmB B k t) (k - 1) (nI q) = none := fst_of0 fun j hj => by
        show (rmB B k t 7 j == nI q) = false
        rw [r 7 (by omega) (by omega) j hj]; exact hn _ (sk j hj)
      rw [e2]
      exact ite_self (0 : Int32)
    | some i =>
      have hi := fst_some e1
      have h7 : B 7 i = nI q := by have := hi.2.1; simpa using this
      by_cases hit : i = t
      · subst hit
        have hwf : waB B i = false := by unfold waB; rw [h7, beq_eq_false_iff_ne]; exact nI_nm1 (by omega)
        have e2 : fh (rmB B k i) (k - 1) (nI q) = none := fst_of0 fun j hj => by
          show (rmB B k i 7 j == nI q) = false
          rw [r 7 (by omega) (by omega) j hj, beq_eq_false_iff_ne]
          intro hx
          exact skp_ne (hh.1 _ _ (sk j hj) ht (by rw [hx]; exact nI_nm1 (by omega)) (by rw [hx, h7]))
        have hfw : (if waB B i = true then none else some (nt (B 7 i))) = some q := by rw [hwf, h7, nt_nI (by omega)]; rfl
        rw [e2, if_pos ⟨rfl, hfw⟩]
      · obtain ⟨i', hi', e'⟩ := skp_sur ht hi.1 hit
        have e2 : fh (rmB B k t) (k - 1) (nI q) = some i' := by
          refine fst_u hi' ?_ fun j hj hx => ?_
          · show (rmB B k t 7 i' == nI q) = true
            rw [r 7 (by omega) (by omega) i' hi', e', h7]; simp
          · have hx' : (rmB B k t 7 j == nI q) = true := hx
            rw [r 7 (by omega) (by omega) j hj, beq_iff_eq] at hx'
            exact skp_inj ((hh.1 _ _ (sk j hj) hi.1 (by rw [hx']; exact nI_nm1 (by omega)) (by rw [hx', h7])).trans e'.symm)
        have hnf : ¬ ((4 : Nat) = 4 ∧ (if waB B t = true then none else some (nt (B 7 t))) = some q) := by
          rintro ⟨_, hx⟩
          by_cases hwt : waB B t = true
          · rw [if_pos hwt] at hx; cases hx
          · rw [if_neg hwt] at hx
            have hx2 : nt (B 7 t) = q := by injection hx
            rcases hpv t ht with hy | ⟨u, hu, hy⟩
            · exact hwt (by unfold waB; rw [hy]; rfl)
            · rw [hy, nt_nI (by omega)] at hx2
              subst hx2
              exact hit (hh.1 i t hi.1 ht (by rw [h7]; exact nI_nm1 (by omega)) (by rw [h7, hy]))
        rw [if_neg hnf, e2]
        show nI (g i + 1) = nI (g (skp t i') + 1)
        rw [e']
end
