/-! THE CLASS'S METHODS over the picture, part 0: answers, loops that search and count. -/
def vI (x : Int32) (σ : St) : Res := some (.inl (some (.int x)), σ)
def vR (x : Nat) (σ : St) : Res := some (.inl (some (.ref x)), σ)
def vV (σ : St) : Res := some (.inl none, σ)
theorem vI_def (x : Int32) (σ : St) : vI x σ = some (.inl (some (.int x)), σ) := rfl
theorem vR_def (x : Nat) (σ : St) : vR x σ = some (.inl (some (.ref x)), σ) := rfl
theorem vV_def (σ : St) : vV σ = some (.inl none, σ) := rfl
theorem lp_fI {F : Nat → Res} {n : Nat} {p : Nat → Bool} {σ : St} (h : ∀ i, i < n → F i = if p i = true then vI (nI i) σ else F (i + 1)) (h0 : F n = vI (-1) σ) : F 0 = vI (oI (fst p n)) σ := by
  rw [lp_fst h h0]; cases fst p n <;> rfl
def inR (x a c : Int32) : Bool := !decide (x < a) && !decide (c < x)
theorem inR_nI {x : Int32} {k : Nat} (hk : k < 2 ^ 31) : inR x 0 (nI k - 1) = true ↔ ∃ i, i < k ∧ x = nI i := by
  unfold inR
  constructor
  · intro h
    simp only [Bool.and_eq_true, Bool.not_eq_true', decide_eq_false_iff_not] at h
    obtain ⟨i, hi, rfl⟩ := nI_of h.1
    refine ⟨i, ?_, rfl⟩
    by_cases hk0 : k = 0
    · subst hk0
      exfalso
      apply h.2
      have e : (nI 0 - 1 : Int32) = -1 := by decide
      rw [e, Int32.lt_iff_toInt_lt, nI_toInt hi]
      have : (-1 : Int32).toInt = -1 := by decide
      omega
    · obtain ⟨k', rfl⟩ : ∃ k', k = k' + 1 := ⟨k - 1, by omega⟩
      have h2 := h.2
      rw [nI_pred, nI_ltI (by omega) hi] at h2
      omega
  · rintro ⟨i, hi, rfl⟩
    obtain ⟨k', rfl⟩ : ∃ k', k = k' + 1 := ⟨k - 1, by omega⟩
    rw [nI_pred]
    simp only [Bool.and_eq_true, Bool.not_eq_true', decide_eq_false_iff_not]
    exact ⟨nI_pos (by omega), by rw [nI_ltI (by omega) (by omega)]; omega⟩
section
variable {G : Glb} {A b n r k : Nat} {H : Hp} {m : Mm}
theorem s114 (d : Nat) (x a c : Int32) (σ : St) : call G d 114 [.int x, .int a, .int c] σ = vI (bI (inR x a c)) σ := by
  rw [b114_e]; unfold inR vI
  by_cases h : x < a <;> by_cases h2 : c < x <;> simp [h, h2, bI]
theorem s114c (d : Nat) (x a c : Int32) (σ : St) (K : Int32 → St → Res) : cI (call G d 114 [.int x, .int a, .int c] σ) K = K (bI (inR x a c)) σ := congrArg (fun z => cI z K) (show call G d 114 [.int x, .int a, .int c] σ = vI (bI (inR x a c)) σ from by apply s114 <;> assumption)
theorem s119 (hb : b < 11) (hn : m b 1 0 = nI k) (hk : k ≤ 10) (d : Nat) (x : Int32) : call G d 119 [.ref (ad A b 1), .int x] (S A H m n r) = vI (oI (fst (fun i => m b 2 i == x) k)) (S A H m n r) := by
  rw [b119_e]
  refine lp_fI (F := fun i => run G d 119 2 [some (.ref (ad A b 1)), some (.int x), some (.int (nI i))] [] (S A H m n r)) ?_ ?_
  · intro i hi
    have hi' : ¬ k ≤ i := by omega
    rw [b119_2]
    simp (disch := first | assumption | omega) only [rcB0, ↓rfB0_0b, ↓rfB0_1b, ↓rfB0_2b, ↓wfB0_2b, rcB1, ↓rfB1_0b, ↓wfB1_0b, ↓rfB1_1b, ↓wfB1_1b, ↓rfB1_2b, ↓rfB1_3b, ↓rfB1_4b, ↓rfB1_5b, ↓rfB1_6b, ↓rfB1_7b, ↓rfB1_8b, ↓raB2b, ↓waB2b, ↓naB2b, ↓raB3b, ↓waB3b, ↓naB3b, ↓raB4b, ↓waB4b, ↓naB4b, ↓raB5b, ↓waB5b, ↓naB5b, ↓raB6b, ↓waB6b, ↓naB6b, ↓raB7b, ↓waB7b, ↓naB7b, ↓raB8b, ↓waB8b, ↓naB8b, rcB9, ↓rfB9_0b, ↓wfB9_0b, ↓rfB9_1b, ↓rfB9_2b, ↓rfB9_3b, ↓rfB9_4b, ↓raB10b, ↓waB10b, ↓naB10b, ↓raB11b, ↓waB11b, ↓naB11b, ↓raB12b, ↓waB12b, ↓naB12b, ↓raB13b, ↓waB13b, ↓naB13b, rcX0, ↓rfX0_0b, ↓rfX0_1b, ↓rfX0_2b, ↓rfX0_3b, ↓rfX0_4b, ↓wfX0_4b, ↓rfX0_5b, ↓wfX0_5b, ↓rfX0_6b, ↓rfX0_7b, ↓rfX0_8b, ↓rfX0_9b, ↓wfX0_9b, ↓rfX0_10b, ↓wfX0_10b, rcX2, ↓rfX2_0b, ↓rfX2_1b, ↓rfX2_2b, ↓rfX2_3b, ↓rfX2_4b, ↓rfX2_5b, ↓raX3b, ↓waX3b, ↓naX3b, ↓raX4b, ↓waX4b, ↓naX4b, ↓raX5b, ↓waX5b, ↓naX5b, ↓raX6b, ↓waX6b, ↓naX6b, ↓raX7b, ↓waX7b, ↓raX7L0b, ↓waX7L0b, ↓naX7b, ↓raX8b, ↓waX8b, ↓naX8b, rcX11, ↓rfX11_0b, ↓rfX11_1b, ↓wfX11_1b, ↓rfX11_2b, ↓rfX11_3b, ↓wfX11_3b, ↓rfX11_4b, ↓wfX11_4b, ↓rfX11_5b, ↓wfX11_5b, ↓rfX11_6b, ↓rfX11_7b, ↓wfX11_7b, ↓raX12b, ↓waX12b, ↓naX12b, ↓raX13b, ↓waX13b, ↓naX13b, ↓raX14b, ↓waX14b, ↓raX14L0b, ↓waX14L0b, ↓raX14L1b, ↓waX14L1b, ↓raX14L2b, ↓waX14L2b, ↓naX14b, ↓caB2b, ↓caB2Lb, ↓caB3b, ↓caB3Lb, ↓caB4b, ↓caB4Lb, ↓caB5b, ↓caB5Lb, ↓caB6b, ↓caB6Lb, ↓caB7b, ↓caB7Lb, ↓caB8b, ↓caB8Lb, ↓caB10b, ↓caB10Lb, ↓caB11b, ↓caB11Lb, ↓caB12b, ↓caB12Lb, ↓caB13b, ↓caB13Lb, ↓raHb, ↓raH0b, ↓waHb, ↓waH7b, Option.bind_some, cI_ok, cR_ok, cV_ok, cN_ok, cN_nu, cI_ex, cR_ex, cV_ex, gI_sm, gR_sm, sb_eq, sb_sb, wexc_S, ↓reduceIte, eq_self, vI_def, vV_def, vR_def, nI_1, true_and, and_true, hn, nI_leI, hi', beq_iff_eq]
  · skip
    rw [b119_2]
    simp (disch := first | assumption | omega) only [rcB0, ↓rfB0_0b, ↓rfB0_1b, ↓rfB0_2b, ↓wfB0_2b, rcB1, ↓rfB1_0b, ↓wfB1_0b, ↓rfB1_1b, ↓wfB1_1b, ↓rfB1_2b, ↓rfB1_3b, ↓rfB1_4b, ↓rfB1_5b, ↓rfB1_6b, ↓rfB1_7b, ↓rfB1_8b, ↓raB2b, ↓waB2b, ↓naB2b, ↓raB3b, ↓waB3b, ↓naB3b, ↓raB4b, ↓waB4b, ↓naB4b, ↓raB5b, ↓waB5b, ↓naB5b, ↓raB6b, ↓waB6b, ↓naB6b, ↓raB7b, ↓waB7b, ↓naB7b, ↓raB8b, ↓waB8b, ↓naB8b, rcB9, ↓rfB9_0b, ↓wfB9_0b, ↓rfB9_1b, ↓rfB9_2b, ↓rfB9_3b, ↓rfB9_4b, ↓raB10b, ↓waB10b, ↓naB10b, ↓raB11b, ↓waB11b, ↓naB11b, ↓raB12b, ↓waB12b, ↓naB12b, ↓raB13b, ↓waB13b, ↓naB13b, rcX0, ↓rfX0_0b, ↓rfX0_1b, ↓rfX0_2b, ↓rfX0_3b, ↓rfX0_4b, ↓wfX0_4b, ↓rfX0_5b, ↓wfX0_5b, ↓rfX0_6b, ↓rfX0_7b, ↓rfX0_8b, ↓rfX0_9b, ↓wfX0_9b, ↓rfX0_10b, ↓wfX0_10b, rcX2, ↓rfX2_0b, ↓rfX2_1b, ↓rfX2_2b, ↓rfX2_3b, ↓rfX2_4b, ↓rfX2_5b, ↓raX3b, ↓waX3b, ↓naX3b, ↓raX4b, ↓waX4b, ↓naX4b, ↓raX5b, ↓waX5b, ↓naX5b, ↓raX6b, ↓waX6b, ↓naX6b, ↓raX7b, ↓waX7b, ↓raX7L0b, ↓waX7L0b, ↓naX7b, ↓raX8b, ↓waX8b, ↓naX8b, rcX11, ↓rfX11_0b, ↓rfX11_1b, ↓wfX11_1b, ↓rfX11_2b, ↓rfX11_3b, ↓wfX11_3b, ↓rfX11_4b, ↓wfX11_4b, ↓rfX11_5b, ↓wfX11_5b, ↓rfX11_6b, ↓rfX11_7b, ↓wfX11_7b, ↓raX12b, ↓waX12b, ↓naX12b, ↓raX13b, ↓waX13b, ↓naX13b, ↓raX14b, ↓waX14b, ↓raX14L0b, ↓waX14L0b, ↓raX14L1b, ↓waX14L1b, ↓raX14L2b, ↓waX14L2b, ↓naX14b, ↓caB2b, ↓caB2Lb, ↓caB3b, ↓caB3Lb, ↓caB4b, ↓caB4Lb, ↓caB5b, ↓caB5Lb, ↓caB6b, ↓caB6Lb, ↓caB7b, ↓caB7Lb, ↓caB8b, ↓caB8Lb, ↓caB10b, ↓caB10Lb, ↓caB11b, ↓caB11Lb, ↓caB12b, ↓caB12Lb, ↓caB13b, ↓caB13Lb, ↓raHb, ↓raH0b, ↓waHb, ↓waH7b, Option.bind_some, cI_ok, cR_ok, cV_ok, cN_ok, cN_nu, cI_ex, cR_ex, cV_ex, gI_sm, gR_sm, sb_eq, sb_sb, wexc_S, ↓reduceIte, eq_self, vI_def, vV_def, vR_def, nI_1, true_and, and_true, hn, nI_leI, Nat.le_refl]
theorem s119c (hb : b < 11) (hn : m b 1 0 = nI k) (hk : k ≤ 10) (d : Nat) (x : Int32) (K : Int32 → St → Res) : cI (call G d 119 [.ref (ad A b 1), .int x] (S A H m n r)) K = K (oI (fst (fun i => m b 2 i == x) k)) (S A H m n r) := congrArg (fun z => cI z K) (show call G d 119 [.ref (ad A b 1), .int x] (S A H m n r) = vI (oI (fst (fun i => m b 2 i == x) k)) (S A H m n r) from by apply s119 <;> assumption)
end
