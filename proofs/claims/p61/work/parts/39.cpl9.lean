/-! CLASS AND MODEL TOGETHER, part 9: going and closing, what they answer. -/
section
variable {B : Bd} {s : Nat → Int32} {k p : Nat} {g : Nat → Nat}
theorem O_lv (h : CP B s k p g) (x : Int32) : (∃ t, fx B k x = some t ∧ (tLv B k x).1 = 0 ∧ (mRm s p x).1 = 0 ∧ (mRm s p x).2.1 = B 6 t ∧ (tLv B k x).2 = rmB B k t ∧ ∃ g', CP (rmB B k t) (mRm s p x).2.2 (k - 1) p g') ∨ (fx B k x = none ∧ (tLv B k x).1 = 3 ∧ (mRm s p x).1 = 1) := by
  unfold tLv mRm
  cases e1 : fx B k x with
  | none => rw [soM_n h e1]; right; exact ⟨rfl, rfl, rfl⟩
  | some t =>
    rw [soM_s h e1]
    have ht := fx_k e1
    left
    exact ⟨t, rfl, rfl, rfl, (CP_sl h ht.1).2.2.2.2.1, rfl, _, CP_rm h ht.1⟩
theorem O_cl (h : CP B s k p g) (x : Int32) : ((tCl B k p x).1 = 0 ∧ (mCl s p x).1 = 0 ∧ (mCl s p x).2.1 = bI (fh B k x).isSome ∧ (tCl B k p x).2 = lvB (rmP B p x.toNatClampNeg) k x ∧ inR x 0 (nI p - 1) = true ∧ CP (tCl B k p x).2 (mCl s p x).2.2 k (p - 1) g) ∨ ((tCl B k p x).1 = 4 ∧ (mCl s p x).1 = 1 ∧ inR x 0 (nI p - 1) = false) := by
  have hp := CP_p h
  unfold tCl mCl
  by_cases hx : inR x 0 (nI p - 1) = true
  · obtain ⟨q, hq, rfl⟩ := inR_p h hx
    rw [if_pos hx, if_pos hx, nI_clamp (by omega)]
    left
    refine ⟨rfl, rfl, ?_, rfl, hx, CP_cl h hq⟩
    show (if po s q 4 ≤ 0 then (0 : Int32) else 1) = _
    cases e : fh B k (nI q) with
    | none => rw [poq_n h hq e]; rfl
    | some i =>
      have hgi := IJ_lt (CP_g h) (fst_some e).1
      rw [poq_s h hq e, if_neg (by rw [show (0 : Int32) = nI 0 from rfl, nI_leI (by omega) (by omega)]; omega)]; rfl
  · rw [if_neg hx, if_neg hx]
    right; exact ⟨rfl, rfl, by simpa using hx⟩
end
