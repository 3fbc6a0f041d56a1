/-! THE MODEL ALONE: what every command keeps. -/
def FJ (s : Nat → Int32) : Prop := ∃ p, s 2 = nI p ∧ p ≤ 6 ∧ FV s p
section
variable {s : Nat → Int32} {p : Nat}
theorem FJ_np (h2 : s 2 = nI p) (hp : p ≤ 6) : np s = p := by unfold np; rw [h2]; exact nI_clamp (by omega)
theorem FJ_mk {s' : Nat → Int32} (h2 : s' 2 = nI p) (hp : p ≤ 6) (h : ∀ q, q < p → po s' q 4 = po s q 4 ∨ po s' q 4 = 0) (hF : FV s p) : FJ s' := by
  refine ⟨p, h2, hp, fun q hq => ?_⟩
  rcases h q hq with e | e
  · rw [e]; exact hF q hq
  · exact Or.inl e
theorem FJ_mt (hp : p ≤ 6) : ∀ (t : Nat) (s : Nat → Int32), s 2 = nI p → FV s p → (mtL p t s).1 2 = nI p ∧ FV (mtL p t s).1 p := by
  intro t
  induction t with
  | zero => intro s h2 hF; exact ⟨h2, hF⟩
  | succ t ih =>
    intro s h2 hF
    rw [mtL_s]
    unfold mtN
    cases e : nxM s p with
    | none => exact ⟨h2, hF⟩
    | some a =>
      have ha := (nx_ex e).1
      cases e2 : faM s p a true with
      | none => simp only [e2]; exact ⟨h2, hF⟩
      | some q =>
        simp only [e2]
        have hq := fa_lt e2
        exact ih (filS s q a) (by rw [fil_2]; exact h2) (FV_fil hF ha)
theorem FJ_mdo (C : Nat → Int32) (i : Nat) (h : FJ s) (h0 : (mdo s C i).1 = 0) : FJ (mdo s C i).2 := by
  obtain ⟨p, h2, hp, hF⟩ := h
  have enp := FJ_np h2 hp
  unfold mdo at h0 ⊢
  rw [enp] at h0 ⊢
  split at h0
  · -- dismiss
    rename_i hc
    rw [if_pos hc]
    unfold mv mDi at h0 ⊢
    split at h0
    · rename_i hx
      rw [if_pos hx]
      split at h0
      · cases h0
      · rename_i hz
        rw [if_neg hz]
        show FJ (su s (63 + 5 * (C (5 * i + 2)).toNatClampNeg + 4) 0)
        refine FJ_mk (s := s) (p := p) (by rw [su_ne (by omega)]; exact h2) hp (fun q hq => ?_) hF
        rw [po_su_p (by omega) (by omega)]
        split
        · exact Or.inr rfl
        · exact Or.inl rfl
    · cases h0
  rename_i hc; rw [if_neg hc]
  split at h0
  · -- apply
    rename_i hc
    rw [if_pos hc]
    unfold mv mAd at h0 ⊢
    split at h0
    · rename_i hx
      rw [if_pos hx]
      split at h0
      · cases h0
      · rename_i hz
        rw [if_neg hz]
        cases e : fst (fun a => !(uM s a)) 10 with
        | none => rw [e] at h0; cases h0
        | some a =>
          have ha := (fst_some e).1
          show FJ (addS s a _ _ _)
          have ea : ∀ j, j = 2 ∨ 63 ≤ j → ∀ sh w rr, addS s a sh w rr j = s j := by
            intro j hj sh w rr
            unfold addS
            rw [su_ne (by omega), su_ne (by omega), su_ne (by omega), su_ne (by omega), su_ne (by omega), su_ne (by omega), su_ne (by omega)]
          exact FJ_mk (s := s) (p := p) (by rw [ea 2 (Or.inl rfl)]; exact h2) hp (fun q hq => Or.inl (ea _ (Or.inr (by omega)) _ _ _)) hF
    · cases h0
  rename_i hc; rw [if_neg hc]
  split at h0
  · -- post
    rename_i hc
    rw [if_pos hc]
    unfold mv mOp at h0 ⊢
    split at h0
    · rename_i hx
      rw [if_pos hx]
      split at h0
      · cases h0
      · rename_i hz
        rw [if_neg hz]
        show FJ (opS s p (sh16 (C (5 * i + 1))) (C (5 * i + 2)) (C (5 * i + 3)) (C (5 * i + 4)))
        refine ⟨p + 1, ?_, by omega, fun q hq => ?_⟩
        · unfold opS; exact su_eq ..
        · have e : ∀ sh lo hi pay, po (opS s p sh lo hi pay) q 4 = if q = p then 0 else po s q 4 := by
            intro sh lo hi pay
            unfold opS
            rw [po_su_s (by omega), po_su_p (by omega) (by omega), po_su_p (by omega) (by omega), po_su_p (by omega) (by omega), po_su_p (by omega) (by omega), show (63 + 5 * p : Nat) = 63 + 5 * p + 0 from rfl, po_su_p (by omega) (by omega)]
            by_cases hqp : q = p <;> simp [hqp]
          rw [e]
          by_cases hqp : q = p
          · rw [if_pos hqp]; exact Or.inl rfl
          · rw [if_neg hqp]; exact hF q (by omega)
    · cases h0
  rename_i hc; rw [if_neg hc]
  split at h0
  · -- leave
    rename_i hc
    rw [if_pos hc]
    unfold mv mRm at h0 ⊢
    cases e : soM s (C (5 * i + 2)) with
    | none => rw [e] at h0; cases h0
    | some a =>
      have ha := lasM_lt e
      show FJ (goS s p a)
      refine FJ_mk (s := s) (p := p) (by rw [go_lo ha (by omega)]; exact h2) hp (fun q hq => ?_) hF
      rw [go_po ha (by omega)]
      split
      · exact Or.inr rfl
      · exact Or.inl rfl
  rename_i hc; rw [if_neg hc]
  split at h0
  · -- close
    rename_i hc
    rw [if_pos hc]
    unfold mv mCl at h0 ⊢
    split at h0
    · rename_i hx
      rw [if_pos hx]
      obtain ⟨q, hq, e⟩ := lt_N hp hx
      show FJ (clS s p (C (5 * i + 2)).toNatClampNeg)
      rw [e, nI_clamp (by omega)]
      refine ⟨p - 1, by unfold clS; exact su_eq .., by omega, fun t ht => ?_⟩
      rw [cl_po hq ht (by omega)]
      exact hF _ (skp_lt hq ht)
    · cases h0
  rename_i hc; rw [if_neg hc]
  split at h0
  · -- hire
    rename_i hc
    rw [if_pos hc]
    unfold mv mHi at h0 ⊢
    split at h0
    · rename_i hx
      rw [if_pos hx]
      cases e : soM s (C (5 * i + 3)) with
      | none => rw [e] at h0; cases h0
      | some a =>
        have ha := lasM_lt e
        rw [e] at h0
        simp only [] at h0 ⊢
        split at h0
        · cases h0
        · rename_i h3
          rw [if_neg h3]
          split at h0
          · rename_i h4
            rw [if_pos h4]
            split at h0
            · rename_i h5
              rw [if_pos h5]
              show FJ (filS s (C (5 * i + 2)).toNatClampNeg a)
              exact ⟨p, by rw [fil_2]; exact h2, hp, FV_fil hF ha⟩
            · cases h0
          · cases h0
    · cases h0
  rename_i hc; rw [if_neg hc]
  split at h0
  · -- refer
    rename_i hc
    rw [if_pos hc]
    unfold mv mRf at h0 ⊢
    cases e : soM s (C (5 * i + 2)) with
    | none => rw [e] at h0; cases h0
    | some g =>
      rw [e] at h0
      simp only [] at h0 ⊢
      cases e2 : soM s (C (5 * i + 3)) with
      | none => rw [e2] at h0; cases h0
      | some a =>
        have ha := lasM_lt e2
        rw [e2] at h0
        simp only [] at h0 ⊢
        split at h0
        · cases h0
        · rename_i h3
          rw [if_neg h3]
          split at h0
          · cases h0
          · rename_i h4
            rw [if_neg h4]
            show FJ (su s (3 + 6 * a + 5) (sl s a 5 ||| one g))
            exact FJ_mk (s := s) (p := p) (by rw [su_ne (by omega)]; exact h2) hp (fun q hq => Or.inl (po_su_s (by omega))) hF
  rename_i hc; rw [if_neg hc]
  split at h0
  · -- match
    rename_i hc
    rw [if_pos hc]
    obtain ⟨m1, m2⟩ := FJ_mt hp (vaM s p) s h2 hF
    exact ⟨p, m1, hp, m2⟩
  · -- day
    rename_i hc
    rw [if_neg hc]
    have e : mPd s p 1 = (0, nI (pdN s p 1).2, (pdN s p 1).1) := by
      unfold mPd; rw [if_pos (show inR 1 1 30 = true by decide), show (1 : Int32).toNatClampNeg = 1 by decide]
    unfold mv
    rw [e]
    obtain ⟨m1, _, m2⟩ := pdN_n hF hp 1
    exact ⟨p, m1.trans h2, hp, m2⟩
theorem FJ_CP {B : Bd} {k : Nat} {g : Nat → Nat} (h : CP B s k p g) : FJ s := ⟨p, h.2.2.1.2.2, CP_p h, Q_FV h⟩
end
