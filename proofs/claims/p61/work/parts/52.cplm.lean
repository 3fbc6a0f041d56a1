/-! CLASS AND MODEL TOGETHER, part 20: copies, what can be undone, what is saved. -/
theorem cpf_in {f g : Nat → Int32} {n j : Nat} (h : j < n) : cpf f g 0 0 n j = f j := by
  unfold cpf; rw [if_pos (by omega)]; rfl
theorem EB_cp (B B' : Bd) : EB (cpB B B') B' := by
  refine ⟨⟨?_, ?_, ?_, ?_⟩, fun c i h1 h2 hi => ?_, fun c i h1 h2 hi => ?_⟩
  · unfold cpB; rw [ud_eq]
  · unfold cpB cpP cpA
    rw [ud_nc (by omega), us_ne (by omega), us_ne (by omega), us_ne (by omega), us_ne (by omega), ud_nc (by omega), us_ne (by omega), us_ne (by omega), us_ne (by omega), us_ne (by omega), us_ne (by omega), us_ne (by omega), us_ne (by omega), ud_ni (by omega), ud_eq]
  · unfold cpB cpP cpA
    rw [ud_nc (by omega), us_ne (by omega), us_ne (by omega), us_ne (by omega), us_ne (by omega), ud_nc (by omega), us_ne (by omega), us_ne (by omega), us_ne (by omega), us_ne (by omega), us_ne (by omega), us_ne (by omega), us_ne (by omega), ud_eq]
  · unfold cpB cpP
    rw [ud_nc (by omega), us_ne (by omega), us_ne (by omega), us_ne (by omega), us_ne (by omega), ud_eq]
  · have e : cpB B B' c = cpA B B' c := by
      unfold cpB cpP
      rw [ud_nc (by omega), us_ne (by omega), us_ne (by omega), us_ne (by omega), us_ne (by omega), ud_nc (by omega)]
    have e2 : cpA B B' c = cpf (B' c) (B c) 0 0 10 := by
      unfold cpA
      have : c = 2 ∨ c = 3 ∨ c = 4 ∨ c = 5 ∨ c = 6 ∨ c = 7 ∨ c = 8 := by omega
      rcases this with h | h | h | h | h | h | h <;> subst h <;> simp [us]
    rw [e, e2, cpf_in hi]
  · have e2 : cpB B B' c = cpf (B' c) (B c) 0 0 6 := by
      have hA : ∀ c, 10 ≤ c → cpA B B' c = B c := by
        intro c hc
        unfold cpA
        rw [us_ne (by omega), us_ne (by omega), us_ne (by omega), us_ne (by omega), us_ne (by omega), us_ne (by omega), us_ne (by omega), ud_nc (by omega), ud_nc (by omega)]
      unfold cpB cpP
      rw [hA 10 (by omega), hA 11 (by omega), hA 12 (by omega), hA 13 (by omega)]
      have : c = 10 ∨ c = 11 ∨ c = 12 ∨ c = 13 := by omega
      rcases this with h | h | h | h <;> subst h <;> simp [us, ud]
    rw [e2, cpf_in hi]
/-- board and numbers go together -/
def RE (B : Bd) (s : Nat → Int32) (C : Nat) : Prop := ∃ k p g, CP B s k p g ∧ CB B k C
theorem RE_ext {B B' : Bd} {s s' : Nat → Int32} {C C' : Nat} (h : RE B s C) (hB : EB B B') (hs : ∀ j, j < 93 → s j = s' j) (hC : C ≤ C') : RE B' s' C' := by
  obtain ⟨k, p, g, h1, h2⟩ := h
  have hk := CP_k h1
  refine ⟨k, p, g, CP_ext h1 hB hs, CB_le (CB_c h2 ?_ fun i hi => ?_) hC⟩
  · exact hB.1.2.2.1.symm
  · exact (hB.2.1 6 i (by omega) (by omega) (by omega)).symm
theorem EB_rfl (B : Bd) : EB B B := ⟨⟨rfl, rfl, rfl, rfl⟩, fun _ _ _ _ _ => rfl, fun _ _ _ _ _ => rfl⟩
theorem EB_symm {B B' : Bd} (h : EB B B') : EB B' B := ⟨⟨h.1.1.symm, h.1.2.1.symm, h.1.2.2.1.symm, h.1.2.2.2.symm⟩, fun c i a b d => (h.2.1 c i a b d).symm, fun c i a b d => (h.2.2 c i a b d).symm⟩
theorem RE_cp {B X : Bd} {s s' : Nat → Int32} {C C' : Nat} (h : RE B s C) (hs : ∀ j, j < 93 → s j = s' j) (hC : C ≤ C') : RE (cpB X B) s' C' := RE_ext h (EB_symm (EB_cp X B)) hs hC
def HD (X : Bd) : Prop := ∀ i j, i < 8 → j < 8 → X 1 i = X 1 j → i = j
def hix (X : Bd) (v : Nat) : Nat := nt (X 1 v)
theorem hix_e {X : Bd} (h : HW X) {v : Nat} (hv : v < 8) : 3 ≤ hix X v ∧ hix X v < 11 ∧ X 1 v = nI (hix X v) := by
  obtain ⟨j, h1, h2, h3⟩ := h v hv
  have : hix X v = j := by unfold hix; rw [h3, nt_nI (by omega)]
  rw [this]; exact ⟨h1, h2, h3⟩
theorem fr_1 {m : Mm} {u v : Nat} (hv : v < 8) : frM m u 11 1 v = if u < 8 then m 11 1 v else if v = 7 then m 11 1 0 else m 11 1 (v + 1) := by
  unfold frM
  by_cases h : u < 8
  · rw [if_pos h, if_pos h]
  · rw [if_neg h, if_neg h, sb_eq, ud_nc (by omega), us_eq]
    unfold rot rotS
    by_cases h7 : v = 7
    · rw [if_pos h7, if_pos h7]
    · rw [if_neg h7, if_neg h7, if_pos (by omega)]
/-- what a change does to the history -/
theorem fi_HS {m : Mm} {u C : Nat} {P : Nat → Nat → Int32} {s0 : Nat → Int32} (hW : HW (m 11)) (hD : HD (m 11)) (hu : u ≤ 8) (hP : ∀ v, v < u → RE (m (hix (m 11) v)) (P v) C) (h0 : RE (m 1) s0 C) : HW (fiM m u 11) ∧ HD (fiM m u 11) ∧ fiM m u 11 0 4 = nI (frU u + 1) ∧ (∀ v, v < frU u + 1 → RE (fiM m u (hix (fiM m u 11) v)) (if v = frU u then s0 else if u < 8 then P v else P (v + 1)) C) ∧ (∀ b, b < 3 ∨ b = 12 → fiM m u b = m b) ∧ (∀ c i, c ≠ 0 → c ≠ 1 → fiM m u 11 c i = m 11 c i) ∧ ∀ i, i ≠ 4 → fiM m u 11 0 i = m 11 0 i := by
  obtain ⟨s1, s2, s3⟩ := HW_sl hW hu
  have e11 : fiM m u 11 = ud (frM m u 11) 0 4 (nI (frU u + 1)) := by unfold fiM; rw [sb_eq]
  have e1 : ∀ v, v < 8 → fiM m u 11 1 v = if u < 8 then m 11 1 v else if v = 7 then m 11 1 0 else m 11 1 (v + 1) := by
    intro v hv; rw [e11, ud_nc (by omega), fr_1 hv]
  have frb : ∀ b, b ≠ 11 → frM m u b = m b := fun b hb => frM_b hb
  have fib : ∀ b, b ≠ 11 → b ≠ slU m u → fiM m u b = m b := fun b h1 h2 => fiM_b h1 h2
  have fis : fiM m u (slU m u) = cpB (m (slU m u)) (m 1) := by
    unfold fiM; rw [sb_ne (by omega), sb_eq, frb _ (by omega)]
  have hfu : frU u < 8 := by unfold frU; split <;> omega
  have hW' : HW (fiM m u 11) := by
    intro v hv
    rw [e1 v hv]
    by_cases h : u < 8
    · rw [if_pos h]; exact hW v hv
    · rw [if_neg h]
      by_cases h7 : v = 7
      · rw [if_pos h7]; exact hW 0 (by omega)
      · rw [if_neg h7]; exact hW (v + 1) (by omega)
  have hD' : HD (fiM m u 11) := by
    intro i j hi hj hx
    rw [e1 i hi, e1 j hj] at hx
    by_cases h : u < 8
    · rw [if_pos h, if_pos h] at hx; exact hD i j hi hj hx
    · rw [if_neg h, if_neg h] at hx
      by_cases h7 : i = 7 <;> by_cases h8 : j = 7
      · omega
      · rw [if_pos h7, if_neg h8] at hx; have := hD 0 (j + 1) (by omega) (by omega) hx; omega
      · rw [if_neg h7, if_pos h8] at hx; have := hD (i + 1) 0 (by omega) (by omega) hx; omega
      · rw [if_neg h7, if_neg h8] at hx; have := hD (i + 1) (j + 1) (by omega) (by omega) hx; omega
  have es : hix (fiM m u 11) (frU u) = slU m u := by
    have : fiM m u 11 1 (frU u) = nI (slU m u) := by rw [e11, ud_nc (by omega)]; exact s3
    unfold hix; rw [this, nt_nI (by omega)]
  refine ⟨hW', hD', by rw [e11, ud_eq], fun v hv => ?_, fun b hb => fib b (by omega) (by omega), fun c i h0 h1 => ?_, fun i hi => ?_⟩
  · by_cases hvf : v = frU u
    · subst hvf
      rw [if_pos rfl, es, fis]
      exact RE_cp h0 (fun _ _ => rfl) (Nat.le_refl _)
    · rw [if_neg hvf]
      have hv8 : v < 8 := by omega
      obtain ⟨a1, a2, a3⟩ := hix_e hW' hv8
      have hne : hix (fiM m u 11) v ≠ slU m u := by
        intro hx
        rw [← es] at hx
        refine hvf (hD' v (frU u) hv8 hfu ?_)
        rw [a3, (hix_e hW' hfu).2.2, hx]
      rw [fib _ (by omega) hne]
      by_cases h : u < 8
      · rw [if_pos h]
        have : hix (fiM m u 11) v = hix (m 11) v := by unfold hix; rw [e1 v hv8, if_pos h]
        rw [this]
        refine hP v ?_
        unfold frU at hv hvf; rw [if_pos h] at hv hvf; omega
      · rw [if_neg h]
        have hfr : frU u = 7 := by unfold frU; rw [if_neg h]
        have : hix (fiM m u 11) v = hix (m 11) (v + 1) := by unfold hix; rw [e1 v hv8, if_neg h, if_neg (by omega)]
        rw [this]
        exact hP (v + 1) (by omega)
  · rw [e11, ud_nc h0]
    unfold frM
    by_cases h : u < 8
    · rw [if_pos h]
    · rw [if_neg h, sb_eq, ud_nc h0, us_ne h1]
  · rw [e11, ud_ni hi]
    unfold frM
    by_cases h : u < 8
    · rw [if_pos h]
    · rw [if_neg h, sb_eq, ud_ni hi, us_ne (by omega)]
/-- the model's history -/
def pst (D : Bd) (v : Nat) : Nat → Int32 := fun j => D 4 (93 * v + j)
theorem en_P {D : Bd} {s : Nat → Int32} {u v j : Nat} (hu : u ≤ 8) (hv : v < frU u + 1) (hj : j < 93) : pst (enD (kD D s) u) v j = (if v = frU u then s else if u < 8 then pst D v else pst D (v + 1)) j := by
  have e2 : kD D s 2 = cpf s (D 2) 0 0 93 := kD_2 D s
  have e4 : kD D s 4 = D 4 := by unfold kD; rw [us_ne (by omega), ud_nc (by omega)]
  have eU : enU u = frU u := by
    unfold enU frU
    by_cases h : u = 8
    · rw [if_pos h, if_neg (by omega)]
    · rw [if_neg h, if_pos (by omega)]
  have eE : enD (kD D s) u 4 = cpf (kD D s 2) (enP (kD D s) u 4) 0 (93 * frU u) 93 := by
    unfold enD; rw [ud_nc (by omega), us_eq, eU]
  show enD (kD D s) u 4 (93 * v + j) = _
  rw [eE]
  by_cases hvf : v = frU u
  · rw [if_pos hvf, ← hvf]
    unfold cpf
    rw [if_pos (by omega), show 93 * v + j - 93 * v + 0 = j by omega, e2, cpf_in hj]
  · rw [if_neg hvf]
    have : cpf (kD D s 2) (enP (kD D s) u 4) 0 (93 * frU u) 93 (93 * v + j) = enP (kD D s) u 4 (93 * v + j) := by
      unfold cpf; rw [if_neg (by omega)]
    rw [this]
    unfold enP
    by_cases h : u = 8
    · rw [if_pos h, if_neg (show ¬ u < 8 by omega), ud_nc (by omega), us_eq, e4]
      have hfr : frU u = 7 := by unfold frU; rw [if_neg (by omega)]
      unfold cpf
      rw [if_pos (by omega)]
      show D 4 (93 * v + j - 0 + 93) = D 4 (93 * (v + 1) + j)
      congr 1; omega
    · rw [if_neg h, if_pos (show u < 8 by omega), e4]; rfl
theorem en_o {D : Bd} {s : Nat → Int32} {u : Nat} (hu : u ≤ 8) : enD (kD D s) u 0 5 = nI (frU u + 1) ∧ (∀ c, c ≠ 0 → c ≠ 2 → c ≠ 4 → enD (kD D s) u c = D c) ∧ (∀ i, i ≠ 5 → i ≠ 6 → enD (kD D s) u 0 i = D 0 i) ∧ enD (kD D s) u 0 6 = 0 := by
  have eU : enU u = frU u := by
    unfold enU frU
    by_cases h : u = 8
    · rw [if_pos h, if_neg (by omega)]
    · rw [if_neg h, if_pos (by omega)]
  have eP : ∀ c, c ≠ 0 → c ≠ 4 → enP (kD D s) u c = kD D s c := by
    intro c h0 h4
    unfold enP
    by_cases h : u = 8
    · rw [if_pos h, ud_nc h0, us_ne h4]
    · rw [if_neg h]
  have eP0 : ∀ i, i ≠ 5 → enP (kD D s) u 0 i = kD D s 0 i := by
    intro i hi
    unfold enP
    by_cases h : u = 8
    · rw [if_pos h, ud_ni hi, us_ne (by omega)]
    · rw [if_neg h]
  refine ⟨by unfold enD; rw [ud_eq, eU], fun c h0 h2 h4 => ?_, fun i h5 h6 => ?_, ?_⟩
  · unfold enD; rw [ud_nc h0, us_ne h4, eP c h0 h4]
    unfold kD; rw [us_ne h2, ud_nc h0]
  · unfold enD; rw [ud_ni h5, us_ne (by omega), eP0 i h5]
    unfold kD; rw [us_ne (by omega), ud_ni h6]
  · unfold enD; rw [ud_ni (by omega), us_ne (by omega), eP0 6 (by omega), kD_06]
