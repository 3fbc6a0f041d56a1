/-! CLASS AND MODEL TOGETHER, part 11: a day passes. -/
theorem mn_eq (v : Int32) : mn50 v = mn5 v := by
  unfold mn50 mn5
  by_cases h : v < 50
  · rw [if_pos h, if_neg (Int32.not_lt.mpr (Int32.le_of_lt h))]
  · rw [if_neg h]
    by_cases h2 : 50 < v
    · rw [if_pos h2]
    · rw [if_neg h2]
      exact Int32.le_antisymm (Int32.not_lt.mp h) (Int32.not_lt.mp h2)
section
variable {B : Bd} {s : Nat → Int32} {k p : Nat} {g : Nat → Nat}
def hqB (B : Bd) (i q : Nat) : Bool := !(waB B i) && decide (qB B i < q)
def dgP (B : Bd) (k t : Nat) : Bool := match fh B k (nI t) with
  | none => false
  | some i => dgo B i
def flD (B : Bd) (k : Nat) (g : Nat → Nat) (q t : Nat) : Int32 := match fh B k (nI t) with
  | none => 0
  | some i => if t < q ∧ dgo B i = true then 0 else nI (g i + 1)
def PDI (B : Bd) (s t : Nat → Int32) (k p : Nat) (g : Nat → Nat) (q : Nat) : Prop := (∀ j, j < 3 → t j = s j) ∧ (∀ a, a < 10 → noS g k a → ∀ w, w < 6 → sl t a w = sl s a w) ∧ (∀ i, i < k → ∀ w, w < 6 → sl t (g i) w = if w = 4 then (if hqB B i q = true then dcn B i else B 6 i) else if w = 3 then (if hqB B i q = true then drn B i else B 5 i) else sl s (g i) w) ∧ ∀ u, u < p → (∀ w, w < 4 → po t u w = po s u w) ∧ po t u 4 = flD B k g q u
theorem rn_sl {s : Nat → Int32} {q a b w : Nat} (hw : w < 6) : sl (rnS s q a) b w = if b = a ∧ w = 3 then mn50 (sl s a 3 + 1) else if b = a ∧ w = 4 then sl s a 4 + po s q 3 else sl s b w := by
  unfold rnS
  rw [sl_su_s hw (by omega), sl_su_s hw (by omega)]
theorem rn_po {s : Nat → Int32} {q a t w : Nat} (ha : a < 10) : po (rnS s q a) t w = po s t w := by
  unfold rnS
  rw [po_su_s (by omega), po_su_s (by omega)]
theorem rn_lo {s : Nat → Int32} {q a j : Nat} (hj : j < 3) : rnS s q a j = s j := by
  unfold rnS
  rw [su_ne (by omega), su_ne (by omega)]
theorem hq_none (h : CP B s k p g) {q : Nat} (hq : q < p) (e : fh B k (nI q) = none) {i : Nat} (hi : i < k) : hqB B i (q + 1) = hqB B i q := by
  unfold hqB
  have hn := fst_none e i hi
  cases hw : waB B i with
  | true => rfl
  | false =>
    obtain ⟨h1, h2⟩ := PV_q (CP_pv h) hi (CP_p h) hw
    have : qB B i ≠ q := fun hx => by rw [hx] at h2; rw [h2] at hn; simp at hn
    congr 1
    rw [decide_eq_decide]; omega
theorem hq_oth (h : CP B s k p g) {q i j : Nat} (hq : q < p) (hi : i < k) (e : B 7 i = nI q) (hj : j < k) (hji : j ≠ i) : hqB B j (q + 1) = hqB B j q := by
  unfold hqB
  cases hw : waB B j with
  | true => rfl
  | false =>
    have hp := CP_p h
    obtain ⟨h1, h2⟩ := PV_q (CP_pv h) hj (CP_p h) hw
    have : qB B j ≠ q := fun hx => by
      rw [hx] at h2
      exact hji (h.1.2.2.2.1 j i hj hi (by rw [h2]; exact nI_nm1 (by omega)) (by rw [h2, e]))
    congr 1
    rw [decide_eq_decide]; omega
theorem pd_inv (h : CP B s k p g) : ∀ q, q ≤ p → PDI B s (pdL s q).1 k p g q ∧ (pdL s q).2 = cnt (dgP B k) q := by
  have hp := CP_p h
  intro q
  induction q with
  | zero =>
    intro _
    refine ⟨⟨fun _ _ => rfl, fun _ _ _ _ _ => rfl, fun i hi w hw => ?_, fun u hu => ⟨fun _ _ => rfl, ?_⟩⟩, rfl⟩
    · have e : hqB B i 0 = false := by unfold hqB; simp
      rw [e]
      have hs := CP_sl h hi
      by_cases h4 : w = 4
      · subst h4; rw [if_pos rfl]; exact hs.2.2.2.2.1
      · rw [if_neg h4]
        by_cases h3 : w = 3
        · subst h3; rw [if_pos rfl]; exact hs.2.2.2.1
        · rw [if_neg h3]; rfl
    · show po s u 4 = _
      rw [(CP_po h hu).2.2.2.2]
      unfold flB2 flD
      cases fh B k (nI u) with
      | none => rfl
      | some i => exact (if_neg (fun hx => by omega)).symm
  | succ q ih =>
    intro hq
    obtain ⟨⟨i1, i2, i3, i4⟩, i5⟩ := ih (by omega)
    cases e : fh B k (nI q) with
    | none =>
      have e4 : po (pdL s q).1 q 4 = 0 := by rw [(i4 q (by omega)).2]; unfold flD; rw [e]
      have ed : dgP B k q = false := by unfold dgP; rw [e]
      rw [pdL, if_pos e4]
      refine ⟨⟨i1, i2, fun i hi w hw => ?_, fun u hu => ⟨(i4 u hu).1, ?_⟩⟩, by rw [i5, cnt_f ed]⟩
      · rw [i3 i hi w hw, hq_none h (by omega) e hi]
      · rw [(i4 u hu).2]
        unfold flD
        by_cases huq : u = q
        · subst huq; rw [e]
        · cases fh B k (nI u) with
          | none => rfl
          | some i =>
            have : (u < q ∧ dgo B i = true) ↔ (u < q + 1 ∧ dgo B i = true) := by
              constructor
              · rintro ⟨a, b⟩; exact ⟨by omega, b⟩
              · rintro ⟨a, b⟩; exact ⟨by omega, b⟩
            by_cases hc : u < q ∧ dgo B i = true
            · show (if u < q ∧ dgo B i = true then (0 : Int32) else nI (g i + 1)) = if u < q + 1 ∧ dgo B i = true then 0 else nI (g i + 1)
              rw [if_pos hc, if_pos (this.mp hc)]
            · show (if u < q ∧ dgo B i = true then (0 : Int32) else nI (g i + 1)) = if u < q + 1 ∧ dgo B i = true then 0 else nI (g i + 1)
              rw [if_neg hc, if_neg (fun hx => hc (this.mpr hx))]
    | some f =>
      have hf := (fst_some e).1
      have h7 : B 7 f = nI q := (fh_eq h (by omega) hf).mp e
      have hgf := IJ_lt (CP_g h) hf
      have hwf : waB B f = false := by unfold waB; rw [h7, beq_eq_false_iff_ne]; exact nI_nm1 (by omega)
      have hqf : qB B f = q := by unfold qB; rw [h7]; exact nI_clamp (by omega)
      have e4 : po (pdL s q).1 q 4 = nI (g f + 1) := by
        rw [(i4 q (by omega)).2]; unfold flD; rw [e]; exact if_neg (fun hx => by omega)
      have h0 : ¬ nI (g f + 1) = 0 := fun hh => by have := nI_inj (y := 0) (by omega) (by omega) hh; omega
      have ea : (nI (g f + 1) - 1).toNatClampNeg = g f := by rw [nI_pred, nI_clamp (by omega)]
      have hq0 : hqB B f q = false := by unfold hqB; rw [hqf]; simp
      have hq1 : hqB B f (q + 1) = true := by unfold hqB; rw [hqf, hwf]; simp
      have t3 : sl (pdL s q).1 (g f) 3 = B 5 f := by rw [i3 f hf 3 (by omega), if_neg (by omega), if_pos rfl, hq0]; rfl
      have t4 : sl (pdL s q).1 (g f) 4 = B 6 f := by rw [i3 f hf 4 (by omega), if_pos rfl, hq0]; rfl
      have t1 : sl (pdL s q).1 (g f) 1 = B 3 f := by rw [i3 f hf 1 (by omega), if_neg (by omega), if_neg (by omega)]; exact (CP_sl h hf).2.1
      have t2 : sl (pdL s q).1 (g f) 2 = B 4 f := by rw [i3 f hf 2 (by omega), if_neg (by omega), if_neg (by omega)]; exact (CP_sl h hf).2.2.1
      have ec : sl (pdL s q).1 (g f) 4 + po (pdL s q).1 q 3 = dcn B f := by
        rw [t4, (i4 q (by omega)).1 3 (by omega), (CP_po h (by omega : q < p)).2.2.2.1]
        unfold dcn; rw [hwf, hqf]; rfl
      have er : mn50 (sl (pdL s q).1 (g f) 3 + 1) = drn B f := by
        rw [t3, mn_eq]; unfold drn; rw [hwf]; rfl
      have slr : ∀ b w, w < 6 → sl (rnS (pdL s q).1 q (g f)) b w = if b = g f ∧ w = 3 then drn B f else if b = g f ∧ w = 4 then dcn B f else sl (pdL s q).1 b w := by
        intro b w hw
        rw [rn_sl hw, ec, er]
      have eft : ftM (rnS (pdL s q).1 q (g f)) (g f) q = dft B f := by
        have hpo := CP_po h (show q < p by omega)
        unfold ftM dft
        rw [rn_po hgf, rn_po hgf, rn_po hgf, slr _ 1 (by omega), slr _ 2 (by omega), slr _ 3 (by omega), if_neg (by omega), if_neg (by omega), if_neg (by omega), if_neg (by omega), if_pos ⟨rfl, rfl⟩, t1, t2, (i4 q (by omega)).1 0 (by omega), (i4 q (by omega)).1 1 (by omega), (i4 q (by omega)).1 2 (by omega), hpo.1, hpo.2.1, hpo.2.2.1, hqf, chr_sh (h.1.2.2.1 q (by omega)).1, chr_sh (Or.inr (CP_sh h hf))]
      have edg : dgo B f = !(dft B f) := by unfold dgo; rw [hwf]; rfl
      have edp : dgP B k q = dgo B f := by unfold dgP; rw [e]
      -- the slots behind the step
      have S2 : ∀ a, a < 10 → noS g k a → ∀ w, w < 6 → sl (rnS (pdL s q).1 q (g f)) a w = sl s a w := by
        intro a ha hn w hw
        have hne : a ≠ g f := fun hx => hn f hf hx.symm
        rw [slr a w hw, if_neg (fun hx => hne hx.1), if_neg (fun hx => hne hx.1), i2 a ha hn w hw]
      have S3 : ∀ i, i < k → ∀ w, w < 6 → sl (rnS (pdL s q).1 q (g f)) (g i) w = if w = 4 then (if hqB B i (q + 1) = true then dcn B i else B 6 i) else if w = 3 then (if hqB B i (q + 1) = true then drn B i else B 5 i) else sl s (g i) w := by
        intro i hi w hw
        rw [slr (g i) w hw]
        by_cases hif : i = f
        · subst hif
          rw [hq1]
          by_cases w3 : w = 3
          · subst w3; simp
          · by_cases w4 : w = 4
            · subst w4; simp
            · rw [if_neg (fun hx => w3 hx.2), if_neg (fun hx => w4 hx.2), if_neg w4, if_neg w3, i3 i hi w hw, if_neg w4, if_neg w3]
        · have hne : g i ≠ g f := fun hx => hif (IJ_in (CP_g h) hi hf hx)
          rw [if_neg (fun hx => hne hx.1), if_neg (fun hx => hne hx.1), hq_oth h (by omega) hf h7 hi hif]
          exact i3 i hi w hw
      have S4 : ∀ u, u < p → u ≠ q → po (pdL s q).1 u 4 = flD B k g (q + 1) u := by
        intro u hu huq
        rw [(i4 u hu).2]
        unfold flD
        cases fh B k (nI u) with
        | none => rfl
        | some i =>
          show (if u < q ∧ dgo B i = true then (0 : Int32) else nI (g i + 1)) = if u < q + 1 ∧ dgo B i = true then 0 else nI (g i + 1)
          by_cases hc : u < q ∧ dgo B i = true
          · rw [if_pos hc, if_pos ⟨by omega, hc.2⟩]
          · rw [if_neg hc, if_neg (fun hx => hc ⟨by omega, hx.2⟩)]
      have F4 : flD B k g (q + 1) q = if dgo B f = true then 0 else nI (g f + 1) := by
        unfold flD; rw [e]
        show (if q < q + 1 ∧ dgo B f = true then (0 : Int32) else nI (g f + 1)) = _
        by_cases hc : dgo B f = true
        · rw [if_pos hc, if_pos ⟨by omega, hc⟩]
        · rw [if_neg hc, if_neg (fun hx => hc hx.2)]
      rw [pdL, e4, if_neg h0, ea, eft]
      by_cases hd : dft B f = true
      · have hdg : dgo B f = false := by rw [edg, hd]; rfl
        rw [if_pos hd]
        refine ⟨⟨fun j hj => (rn_lo hj).trans (i1 j hj), S2, S3, fun u hu => ⟨fun w hw => (rn_po hgf).trans ((i4 u hu).1 w hw), ?_⟩⟩, by rw [cnt_f (edp.trans hdg)]; exact i5⟩
        show po (rnS _ _ _) u 4 = _
        rw [rn_po hgf]
        by_cases huq : u = q
        · subst huq; rw [e4, F4, hdg]; rfl
        · exact S4 u hu huq
      · have hdg : dgo B f = true := by rw [edg]; simpa using hd
        rw [if_neg hd]
        refine ⟨⟨fun j hj => ?_, fun a ha hn w hw => ?_, fun i hi w hw => ?_, fun u hu => ⟨fun w hw => ?_, ?_⟩⟩, by rw [cnt_t (edp.trans hdg)]; show (pdL s q).2 + 1 = _; rw [i5]⟩
        · show su _ _ _ j = _
          rw [su_ne (by omega), rn_lo hj]; exact i1 j hj
        · show sl (su _ _ _) a w = _
          rw [sl_su_p ha hw (by omega)]; exact S2 a ha hn w hw
        · show sl (su _ _ _) (g i) w = _
          rw [sl_su_p (IJ_lt (CP_g h) hi) hw (by omega)]; exact S3 i hi w hw
        · show po (su _ _ _) u w = _
          rw [po_su_p (by omega) (by omega), if_neg (fun hx => by omega), rn_po hgf]; exact (i4 u hu).1 w hw
        · show po (su _ _ _) u 4 = _
          rw [po_su_p (by omega) (by omega), rn_po hgf]
          by_cases huq : u = q
          · subst huq; rw [if_pos ⟨rfl, rfl⟩, F4, hdg]; rfl
          · rw [if_neg (fun hx => huq hx.1)]; exact S4 u hu huq
theorem day_c {B : Bd} {k c : Nat} (hc : c = 1 ∨ c = 2 ∨ c = 3 ∨ c = 4 ∨ 8 ≤ c) : dayB B k c = B c := dayS_n (by omega) (by omega) (by omega) (by omega)
theorem day_5 {B : Bd} {k j : Nat} (hj : j < k) : dayB B k 5 j = drn B j := by unfold dayB; rw [dayS_5]; exact if_pos hj
theorem day_6 {B : Bd} {k j : Nat} (hj : j < k) : dayB B k 6 j = dcn B j := by unfold dayB; rw [dayS_6]; exact if_pos hj
theorem day_7 {B : Bd} {k j : Nat} (hj : j < k) : dayB B k 7 j = dpn B j := by unfold dayB; rw [dayS_7]; exact if_pos hj
theorem day_0 {B : Bd} {k : Nat} : dayB B k 0 2 = B 0 2 + 1 := by
  unfold dayB dayS; rw [us_ne (by omega), us_ne (by omega), us_ne (by omega), ud_eq]
theorem hq_p (h : CP B s k p g) {i : Nat} (hi : i < k) : hqB B i p = !(waB B i) := by
  unfold hqB
  cases hw : waB B i with
  | true => rfl
  | false => rw [decide_eq_true (PV_q (CP_pv h) hi (CP_p h) hw).1]; rfl
theorem dr_le (h : CP B s k p g) {i : Nat} (hi : i < k) : ∃ w, w ≤ 50 ∧ drn B i = nI w := by
  obtain ⟨r, hr, e⟩ := CP_ra h hi
  unfold drn
  by_cases hw : waB B i = true
  · rw [if_pos hw]; exact ⟨r, hr, e⟩
  · rw [if_neg hw, e, nI_s1]
    unfold mn5
    by_cases h50 : (50 : Int32) < nI (r + 1)
    · rw [if_pos h50]; exact ⟨50, by omega, rfl⟩
    · rw [if_neg h50]
      rw [show (50 : Int32) = nI 50 from rfl, nI_ltI (by omega) (by omega)] at h50
      exact ⟨r + 1, by omega, rfl⟩
theorem CP_day (h : CP B s k p g) : CP (dayB B k) (pdS s p) k p g := by
  have hp := CP_p h
  obtain ⟨⟨i1, i2, i3, i4⟩, _⟩ := pd_inv h p (Nat.le_refl p)
  obtain ⟨hw, ha, hq, hh⟩ := h.1
  have hpv := CP_pv h
  have ps : ∀ j, j ≠ 1 → pdS s p j = (pdL s p).1 j := fun j hj => by unfold pdS; exact su_ne hj
  have psl : ∀ a w, sl (pdS s p) a w = sl (pdL s p).1 a w := fun a w => ps _ (by omega)
  have ppo : ∀ a w, po (pdS s p) a w = po (pdL s p).1 a w := fun a w => ps _ (by omega)
  have d7 : ∀ j, j < k → dayB B k 7 j = if dgo B j = true then -1 else B 7 j := fun j hj => by rw [day_7 hj]; rfl
  have hft : ∀ j, j < k → waB B j = false → dgo B j = false → ftB (dayB B k) j (qB B j) = true := by
    intro j hj h1 h2
    unfold dgo at h2
    rw [h1] at h2
    have h3 : dft B j = true := by simpa using h2
    unfold ftB
    rw [day_c (by omega), day_c (by omega), day_c (by omega), day_c (by omega), day_c (by omega), day_5 hj]
    exact h3
  have hfh : ∀ u, u < p → fh (dayB B k) k (nI u) = match fh B k (nI u) with
      | none => none
      | some i => if dgo B i = true then none else some i := by
    intro u hu
    cases e : fh B k (nI u) with
    | none =>
      have hn := fst_none e
      refine fst_of0 fun j hj => ?_
      show (dayB B k 7 j == nI u) = false
      rw [d7 j hj]
      by_cases hd : dgo B j = true
      · rw [if_pos hd, beq_eq_false_iff_ne]; exact fun hx => nI_nm1 (by omega) hx.symm
      · rw [if_neg hd]; exact hn j hj
    | some i =>
      have hi := (fst_some e).1
      have h7 := (fh_eq h (by omega) hi).mp e
      show _ = if dgo B i = true then none else some i
      by_cases hd : dgo B i = true
      · rw [if_pos hd]
        refine fst_of0 fun j hj => ?_
        show (dayB B k 7 j == nI u) = false
        rw [d7 j hj]
        by_cases hd2 : dgo B j = true
        · rw [if_pos hd2, beq_eq_false_iff_ne]; exact fun hx => nI_nm1 (by omega) hx.symm
        · rw [if_neg hd2, beq_eq_false_iff_ne]
          intro hx
          have : j = i := hh.1 j i hj hi (by rw [hx]; exact nI_nm1 (by omega)) (by rw [hx, h7])
          subst this; exact hd2 hd
      · rw [if_neg hd]
        refine fst_u hi ?_ fun j hj hx => ?_
        · show (dayB B k 7 i == nI u) = true
          rw [d7 i hi, if_neg hd, h7]; simp
        · have hx' : dayB B k 7 j = nI u := by simpa using hx
          rw [d7 j hj] at hx'
          by_cases hd2 : dgo B j = true
          · rw [if_pos hd2] at hx'; exact absurd hx'.symm (nI_nm1 (by omega))
          · rw [if_neg hd2] at hx'
            exact hh.1 j i hj hi (by rw [hx']; exact nI_nm1 (by omega)) (by rw [hx', h7])
  refine ⟨⟨WB_day hw, ⟨?_, ?_, fun j hj => ?_⟩, fun q hqp => ?_, ⟨fun i j hi hj => ?_, fun j hj => ?_⟩⟩, CP_g h, ⟨?_, ?_, ?_⟩, fun j hj => ?_, fun a ha2 hna w hw2 => ?_, fun u hu => ?_⟩
  · rw [day_c (by omega), day_c (by omega)]; exact ha.1
  · rw [day_c (by omega)]; exact ha.2.1
  · rw [day_c (c := 3) (by omega), day_c (c := 4) (by omega), day_c (c := 8) (by omega), day_5 hj]
    have := ha.2.2 j hj
    exact ⟨this.1, this.2.1, dr_le h hj, this.2.2.2⟩
  · rw [day_c (by omega), day_c (by omega), day_c (by omega), day_c (by omega)]; exact hq q hqp
  · rw [d7 i hi, d7 j hj]
    by_cases h1 : dgo B i = true
    · rw [if_pos h1]; intro hx; exact absurd rfl hx
    · rw [if_neg h1]
      by_cases h2 : dgo B j = true
      · rw [if_pos h2]; intro hx hy; exact absurd hy hx
      · rw [if_neg h2]; exact hh.1 i j hi hj
  · rw [d7 j hj]
    by_cases h1 : dgo B j = true
    · rw [if_pos h1]; intro hx; exact absurd rfl hx
    · rw [if_neg h1]
      intro h7
      exact hft j hj (by unfold waB; rw [beq_eq_false_iff_ne]; exact h7) (by simpa using h1)
  · rw [ps 0 (by omega), i1 0 (by omega), day_c (by omega)]; exact h.2.2.1.1
  · rw [day_0]; unfold pdS; rw [su_eq, h.2.2.1.2.1]
  · rw [ps 2 (by omega), i1 2 (by omega)]; exact h.2.2.1.2.2
  · unfold CSl
    rw [psl, psl, psl, psl, psl, psl, i3 j hj 0 (by omega), i3 j hj 1 (by omega), i3 j hj 2 (by omega), i3 j hj 3 (by omega), i3 j hj 4 (by omega), i3 j hj 5 (by omega), day_c (c := 2) (by omega), day_c (c := 3) (by omega), day_c (c := 4) (by omega), day_c (c := 8) (by omega), day_5 hj, day_6 hj, hq_p h hj]
    have hs := CP_sl h hj
    refine ⟨hs.1, hs.2.1, hs.2.2.1, ?_, ?_, hs.2.2.2.2.2⟩
    · show (if (!(waB B j)) = true then drn B j else B 5 j) = drn B j
      cases e : waB B j with
      | false => rfl
      | true => unfold drn; rw [e]; rfl
    · show (if (!(waB B j)) = true then dcn B j else B 6 j) = dcn B j
      cases e : waB B j with
      | false => rfl
      | true => unfold dcn; rw [e]; rfl
  · rw [psl, i2 a ha2 hna w hw2]; exact CP_no h ha2 hna hw2
  · have hpo := CP_po h hu
    unfold CPo flB2
    rw [ppo, ppo, ppo, ppo, ppo, (i4 u hu).1 0 (by omega), (i4 u hu).1 1 (by omega), (i4 u hu).1 2 (by omega), (i4 u hu).1 3 (by omega), (i4 u hu).2, day_c (by omega), day_c (by omega), day_c (by omega), day_c (by omega), hfh u hu]
    refine ⟨hpo.1, hpo.2.1, hpo.2.2.1, hpo.2.2.2.1, ?_⟩
    unfold flD
    cases fh B k (nI u) with
    | none => rfl
    | some i =>
      show (if u < p ∧ dgo B i = true then (0 : Int32) else nI (g i + 1)) = match (if dgo B i = true then none else some i) with
        | none => 0
        | some i => nI (g i + 1)
      by_cases hd : dgo B i = true
      · rw [if_pos hd, if_pos ⟨hu, hd⟩]
      · rw [if_neg hd, if_neg (fun hx => hd hx.2)]
theorem cnt_day (h : CP B s k p g) : cnt (dgP B k) p = cnt (dgo B) k := by
  have hp := CP_p h
  have hk := CP_k h
  have e1 : ∀ t, t < p → (if dgP B k t = true then (1 : Int32) else 0) = sm (fun i => if B 7 i = nI t ∧ dgo B i = true then 1 else 0) k := by
    intro t ht
    unfold dgP
    cases e : fh B k (nI t) with
    | none =>
      have hn := fst_none e
      exact (sm_0 (fun i hi => if_neg (fun hx => by have := hn i hi; rw [hx.1] at this; simp at this))).symm
    | some i =>
      have hi := (fst_some e).1
      have h7 := (fh_eq h (by omega) hi).mp e
      rw [sm_one hi (fun j hj hne => if_neg fun hx => hne (h.1.2.2.2.1 j i hj hi (by rw [hx.1]; exact nI_nm1 (by omega)) (by rw [hx.1, h7])))]
      show (if dgo B i = true then (1 : Int32) else 0) = if B 7 i = nI t ∧ dgo B i = true then 1 else 0
      by_cases hd : dgo B i = true
      · rw [if_pos hd, if_pos ⟨h7, hd⟩]
      · rw [if_neg hd, if_neg (fun hx => hd hx.2)]
  have e2 : ∀ i, i < k → (if dgo B i = true then (1 : Int32) else 0) = sm (fun t => if B 7 i = nI t ∧ dgo B i = true then 1 else 0) p := by
    intro i hi
    rcases CP_pv h i hi with e | ⟨t, ht, e⟩
    · have : dgo B i = false := by unfold dgo waB; rw [e]; rfl
      rw [this]
      exact (sm_0 (fun q hq => if_neg (by rw [e]; exact fun hh => nI_nm1 (by omega) hh.1.symm))).symm
    · rw [sm_one ht (fun q hq hne => if_neg (by rw [e]; exact fun hh => hne (nI_inj (by omega) (by omega) hh.1).symm))]
      by_cases hd : dgo B i = true
      · rw [if_pos hd, if_pos ⟨e, hd⟩]
      · rw [if_neg hd, if_neg (fun hx => hd hx.2)]
  have : nI (cnt (dgP B k) p) = nI (cnt (dgo B) k) := by
    rw [← sm_cnt, ← sm_cnt, sm_cg e1, sm_cg e2, sm_swap]
  have l1 := cnt_le (dgP B k) p
  have l2 := cnt_le (dgo B) k
  exact nI_inj (by omega) (by omega) this
theorem O_pd (h : CP B s k p g) : ∀ t, CP (dyS B k t).1 (pdN s p t).1 k p g ∧ (dyS B k t).2 = (pdN s p t).2 := by
  intro t
  induction t with
  | zero => exact ⟨h, rfl⟩
  | succ t ih =>
    rw [dyS, pdN]
    refine ⟨CP_day ih.1, ?_⟩
    show (dyS B k t).2 + cnt (dgo (dyS B k t).1) k = (pdN s p t).2 + (pdL (pdN s p t).1 p).2
    rw [ih.2, (pd_inv ih.1 p (Nat.le_refl p)).2, cnt_day ih.1]
end
