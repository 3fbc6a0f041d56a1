/-! WHAT A CHANGE DOES, part 1: kept, pushed, taken back. -/
theorem EB_tr {B B' B'' : Bd} (h : EB B B') (h' : EB B' B'') : EB B B'' := ⟨⟨h.1.1.trans h'.1.1, h.1.2.1.trans h'.1.2.1, h.1.2.2.1.trans h'.1.2.2.1, h.1.2.2.2.trans h'.1.2.2.2⟩, fun c i a b d => (h.2.1 c i a b d).trans (h'.2.1 c i a b d), fun c i a b d => (h.2.2 c i a b d).trans (h'.2.2 c i a b d)⟩
theorem HW_c {X Y : Bd} (h : HW X) (h' : ∀ i, Y 1 i = X 1 i) : HW Y := fun i hi => by rw [h']; exact h i hi
theorem HD_c {X Y : Bd} (h : HD X) (h' : ∀ i, Y 1 i = X 1 i) : HD Y := fun i j hi hj hx => h i j hi hj (by rw [← h', ← h']; exact hx)
theorem fi_HG {m : Mm} {u : Nat} {Φ : Nat → Bd → Prop} {Ψ : Bd → Prop} (hcp : ∀ X B, Ψ B → Ψ (cpB X B)) (hW : HW (m 11)) (hD : HD (m 11)) (hu : u ≤ 8) (hP : ∀ v, v < u → Φ v (m (hix (m 11) v))) (h0 : Ψ (m 1)) : HW (fiM m u 11) ∧ HD (fiM m u 11) ∧ fiM m u 11 0 4 = nI (frU u + 1) ∧ (∀ v, v < frU u + 1 → (if v = frU u then Ψ else if u < 8 then Φ v else Φ (v + 1)) (fiM m u (hix (fiM m u 11) v))) ∧ (∀ b, b < 3 ∨ b = 12 → fiM m u b = m b) ∧ (∀ c i, c ≠ 0 → c ≠ 1 → fiM m u 11 c i = m 11 c i) ∧ ∀ i, i ≠ 4 → fiM m u 11 0 i = m 11 0 i := by
  obtain ⟨s1, s2, s3⟩ := HW_sl hW hu
  have e11 : fiM m u 11 = ud (frM m u 11) 0 4 (nI (frU u + 1)) := by unfold fiM; rw [sb_eq]
  have e1 : ∀ v, v < 8 → fiM m u 11 1 v = if u < 8 then m 11 1 v else if v = 7 then m 11 1 0 else m 11 1 (v + 1) := by
    intro v hv; rw [e11, ud_nc (by omega), fr_1 hv]
  have frb : ∀ b, b ≠ 11 → frM m u b = m b := fun b hb => frM_b hb
  have fib : ∀ b, b ≠ 11 → b ≠ slU m u → fiM m u b = m b := fun b h1 h2 => fiM_b h1 h2
  have fis : fiM m u (slU m u) = cpB (m (slU m u)) (m 1) := by
    unfold fiM; rw [sb_ne (by omega), sb_eq, frb _ (by omega)]
  have hfu : frU u < 8 := by unfold frU; split <;> omega
  have hW' : HW (fiM m u 11) := by
    intro v hv
    rw [e1 v hv]
    by_cases h : u < 8
    · rw [if_pos h]; exact hW v hv
    · rw [if_neg h]
      by_cases h7 : v = 7
      · rw [if_pos h7]; exact hW 0 (by omega)
      · rw [if_neg h7]; exact hW (v + 1) (by omega)
  have hD' : HD (fiM m u 11) := by
    intro i j hi hj hx
    rw [e1 i hi, e1 j hj] at hx
    by_cases h : u < 8
    · rw [if_pos h, if_pos h] at hx; exact hD i j hi hj hx
    · rw [if_neg h, if_neg h] at hx
      by_cases h7 : i = 7 <;> by_cases h8 : j = 7
      · omega
      · rw [if_pos h7, if_neg h8] at hx; have := hD 0 (j + 1) (by omega) (by omega) hx; omega
      · rw [if_neg h7, if_pos h8] at hx; have := hD (i + 1) 0 (by omega) (by omega) hx; omega
      · rw [if_neg h7, if_neg h8] at hx; have := hD (i + 1) (j + 1) (by omega) (by omega) hx; omega
  have es : hix (fiM m u 11) (frU u) = slU m u := by
    have : fiM m u 11 1 (frU u) = nI (slU m u) := by rw [e11, ud_nc (by omega)]; exact s3
    unfold hix; rw [this, nt_nI (by omega)]
  refine ⟨hW', hD', by rw [e11, ud_eq], fun v hv => ?_, fun b hb => fib b (by omega) (by omega), fun c i h0 h1 => ?_, fun i hi => ?_⟩
  · by_cases hvf : v = frU u
    · subst hvf
      rw [if_pos rfl, es, fis]
      exact hcp _ _ h0
    · rw [if_neg hvf]
      have hv8 : v < 8 := by omega
      obtain ⟨a1, a2, a3⟩ := hix_e hW' hv8
      have hne : hix (fiM m u 11) v ≠ slU m u := by
        intro hx
        rw [← es] at hx
        refine hvf (hD' v (frU u) hv8 hfu ?_)
        rw [a3, (hix_e hW' hfu).2.2, hx]
      rw [fib _ (by omega) hne]
      by_cases h : u < 8
      · rw [if_pos h]
        have : hix (fiM m u 11) v = hix (m 11) v := by unfold hix; rw [e1 v hv8, if_pos h]
        rw [this]
        refine hP v ?_
        unfold frU at hv hvf; rw [if_pos h] at hv hvf; omega
      · rw [if_neg h]
        have hfr : frU u = 7 := by unfold frU; rw [if_neg h]
        have : hix (fiM m u 11) v = hix (m 11) (v + 1) := by unfold hix; rw [e1 v hv8, if_neg h, if_neg (by omega)]
        rw [this]
        exact hP (v + 1) (by omega)
  · rw [e11, ud_nc h0]
    unfold frM
    by_cases h : u < 8
    · rw [if_pos h]
    · rw [if_neg h, sb_eq, ud_nc h0, us_ne h1]
  · rw [e11, ud_ni hi]
    unfold frM
    by_cases h : u < 8
    · rw [if_pos h]
    · rw [if_neg h, sb_eq, ud_ni hi, us_ne (by omega)]
def KEEP (mm mm' : Mm) : Prop := (∀ b, b ≠ 1 → b ≠ 11 → mm' b = mm b) ∧ ∀ c i, c < 3 ∨ 9 ≤ c → mm' 11 c i = mm 11 c i
def PUSH (mm mm' : Mm) (B' : Bd) : Prop := ∃ M u, mm 11 0 4 = nI u ∧ u ≤ 8 ∧ mm' = fiM M u ∧ (∀ b, b ≠ 0 → b ≠ 1 → b ≠ 11 → M b = mm b) ∧ M 0 = B' ∧ M 1 = cpB (mm 1) (mm 0) ∧ ∀ c i, c < 3 ∨ 9 ≤ c → M 11 c i = mm 11 c i
theorem KEEP_rfl (mm : Mm) : KEEP mm mm := ⟨fun _ _ _ => rfl, fun _ _ _ => rfl⟩
theorem KEEP_bg (mm : Mm) : KEEP mm (bgM mm) := ⟨fun b h1 _ => bg_ne h1, fun c i _ => by rw [bg_ne (by omega)]⟩
theorem KEEP_11 {mm : Mm} {X : Bd} (h : ∀ c i, c < 3 ∨ 9 ≤ c → X c i = mm 11 c i) : KEEP mm (sb mm 11 X) := ⟨fun b _ h11 => sb_ne h11, fun c i hc => by rw [sb_eq]; exact h c i hc⟩
theorem KEEP_tr {mm m1 m2 : Mm} (h : KEEP mm m1) (h' : KEEP m1 m2) : KEEP mm m2 := ⟨fun b h1 h2 => (h'.1 b h1 h2).trans (h.1 b h1 h2), fun c i hc => (h'.2 c i hc).trans (h.2 c i hc)⟩
theorem PUSH_ch {mm : Mm} {B' : Bd} {u : Nat} (hu : mm 11 0 4 = nI u) (hu8 : u ≤ 8) : PUSH mm (chM mm B' u) B' := ⟨sb (bgM mm) 0 B', u, hu, hu8, rfl, fun b h0 h1 _ => by rw [sb_ne h0, bg_ne h1], sb_eq .., by rw [sb_ne (by omega)]; unfold bgM; rw [sb_eq], fun c i _ => by rw [sb_ne (by omega), bg_ne (by omega)]⟩
/-- the history: its last boards -/
def HIS (mm : Mm) (dn : Nat) (Bt : Nat → Bd) : Prop := ∃ u, u ≤ 8 ∧ dn ≤ u ∧ mm 11 0 4 = nI u ∧ HW (mm 11) ∧ HD (mm 11) ∧ ∀ t, t < dn → EB (mm (hix (mm 11) (u - dn + t))) (Bt t)
theorem HI_0 {mm : Mm} {dn : Nat} {Bt Bt' : Nat → Bd} (h : HIS mm dn Bt) : HIS mm 0 Bt' := by
  obtain ⟨u, a1, a2, a3, a4, a5, a6⟩ := h
  exact ⟨u, a1, Nat.zero_le _, a3, a4, a5, fun t ht => absurd ht (Nat.not_lt_zero t)⟩
theorem HI_keep {mm mm' : Mm} {dn : Nat} {Bt : Nat → Bd} (h : HIS mm dn Bt) (hk : KEEP mm mm') : HIS mm' dn Bt := by
  obtain ⟨u, a1, a2, a3, a4, a5, a6⟩ := h
  have e1 : ∀ i, mm' 11 1 i = mm 11 1 i := fun i => hk.2 1 i (by omega)
  refine ⟨u, a1, a2, by rw [hk.2 0 4 (by omega)]; exact a3, HW_c a4 e1, HD_c a5 e1, fun t ht => ?_⟩
  have e : hix (mm' 11) (u - dn + t) = hix (mm 11) (u - dn + t) := by unfold hix; rw [e1]
  obtain ⟨b1, b2, _⟩ := hix_e a4 (show u - dn + t < 8 by omega)
  rw [e, hk.1 _ (by omega) (by omega)]
  exact a6 t ht
theorem HI_push {mm mm' : Mm} {B' : Bd} {dn : Nat} {Bt : Nat → Bd} (h : HIS mm dn Bt) (hd : dn ≤ 7) (hp : PUSH mm mm' B') (hB : Bt dn = mm 0) : HIS mm' (dn + 1) Bt ∧ mm' 0 = B' ∧ ∀ c i, c ≠ 0 → c ≠ 1 → c < 3 ∨ 9 ≤ c → mm' 11 c i = mm 11 c i := by
  obtain ⟨u, a1, a2, a3, a4, a5, a6⟩ := h
  obtain ⟨M, u', b1, b2, b3, b4, b5, b6, b7⟩ := hp
  have hu : u' = u := by
    have := b1.symm.trans a3
    exact (nI_eq (by omega) (by omega)).mp this
  subst hu
  have e1 : ∀ i, M 11 1 i = mm 11 1 i := fun i => b7 1 i (by omega)
  obtain ⟨c1, c2, c3, c4, c5, c6, c7⟩ := fi_HG (m := M) (u := u') (Φ := fun v B => ∀ t, t < dn → u' - dn + t = v → EB B (Bt t)) (Ψ := fun B => EB B (mm 0)) (fun X B h => EB_tr (EB_cp X B) h) (HW_c a4 e1) (HD_c a5 e1) b2 (fun v hv t ht hvt => by
    subst hvt
    have e : hix (M 11) (u' - dn + t) = hix (mm 11) (u' - dn + t) := by unfold hix; rw [e1]
    obtain ⟨x1, x2, _⟩ := hix_e a4 (show u' - dn + t < 8 by omega)
    rw [e, b4 _ (by omega) (by omega) (by omega)]
    exact a6 t ht) (by rw [b6]; exact EB_cp _ _)
  subst b3
  refine ⟨⟨frU u' + 1, by unfold frU; split <;> omega, by unfold frU; split <;> omega, c3, c1, c2, fun t ht => ?_⟩, by rw [c5 0 (by omega)]; exact b5, fun c i h0 h1 hc => by rw [c6 c i h0 h1]; exact b7 c i hc⟩
  have hfr : frU u' = if u' < 8 then u' else 7 := rfl
  have hv := c4 (frU u' + 1 - (dn + 1) + t) (by rw [hfr]; split <;> omega)
  by_cases htd : t = dn
  · rw [if_pos (by rw [hfr]; split <;> omega)] at hv
    rw [htd, hB]
    rw [htd] at hv
    exact hv
  · rw [if_neg (by rw [hfr]; split <;> omega)] at hv
    by_cases hu8 : u' < 8
    · rw [if_pos hu8] at hv
      exact hv t (by omega) (by rw [hfr, if_pos hu8]; omega)
    · rw [if_neg hu8] at hv
      exact hv t (by omega) (by rw [hfr, if_neg hu8]; omega)
