/-! THE LAW'S SECOND CHECK: posts. -/
def bsI (B : Bd) (o : Option Nat) : Int32 := match o with
  | none => -13
  | some i => B 2 i
def fvI (o : Option Nat) : Int32 := match o with
  | none => -13
  | some q => nI q
def wgL (B : Bd) (k q : Nat) : Int32 := if (fh B k (nI q)).isSome = true then B 13 q else 0
def vqB (B : Bd) (k q : Nat) : Bool := (fh B k (nI q)).isNone
def cdB (B : Bd) (q i : Nat) : Bool := waB B i && ftB B i q
theorem best_s (P : Nat → Bool) (lt : Nat → Nat → Bool) (n : Nat) : best P lt (n + 1) = match best P lt n with
  | none => if P n = true then some n else none
  | some j => if P n = true ∧ lt n j = true then some n else some j := rfl
section
variable {G : Glb} {A n r k p : Nat} {H : Hp} {m : Mm}
/-- the candidates of a post -/
theorem pst_1 (hf : ∀ i, i < k → fx (m 0) k (m 0 2 i) = some i) (ho : ∀ i j, i < k → j < k → (m 0 2 j ≤ m 0 2 i ↔ j ≤ i)) (hn : m 0 1 0 = nI k) (hk : k ≤ 10) (hp : m 0 9 0 = nI p) (hq : p ≤ 6) (h0 : ∀ i, i < k → ¬ m 0 2 i < 0) {q : Nat} (hqp : q < p) {j : Nat} (hj : j < k) (d : Nat) (x2 x3 x5 : Int32) (o9 o10 o11 : Option Value) : ∃ o9' o10' o11', run G (d + 6) 189 36 [some (.ref (ad A 11 0)), some (.int (nI p)), some (.int x2), some (.int x3), some (.int (nI q)), some (.int x5), some (.int (nI (cnt (cdB (m 0) q) j))), some (.int (bsI (m 0) (best (cdB (m 0) q) (orB (m 0)) j))), some (.int (nI j)), o9, o10, o11] [] (S A H m n r) = run G (d + 6) 189 36 [some (.ref (ad A 11 0)), some (.int (nI p)), some (.int x2), some (.int x3), some (.int (nI q)), some (.int x5), some (.int (nI (cnt (cdB (m 0) q) (j + 1)))), some (.int (bsI (m 0) (best (cdB (m 0) q) (orB (m 0)) (j + 1)))), some (.int (nI (j + 1))), o9', o10', o11'] [] (S A H m n r) := by
  have hle : ¬ k ≤ j := by omega
  -- the end of the turn: suits
  have e127 : ∀ (x6 z : Int32) o7 o11, run G (d + 6) 189 127 [some (.ref (ad A 11 0)), some (.int (nI p)), some (.int x2), some (.int x3), some (.int (nI q)), some (.int x5), some (.int x6), o7, some (.int (nI j)), some (.int (m 0 2 j)), some (.int (bI (ftB (m 0) j q))), o11] [.int z] (S A H m n r) = run G (d + 6) 189 36 [some (.ref (ad A 11 0)), some (.int (nI p)), some (.int x2), some (.int x3), some (.int (nI q)), some (.int x5), some (.int x6), some (.int z), some (.int (nI (j + 1))), some (.int (m 0 2 j)), some (.int (bI (ftB (m 0) j q))), o11] [] (S A H m n r) := by
    intro x6 z o7 o11
    rw [b189_127]
    cases hft : ftB (m 0) j q
    · simp (disch := first | assumption | omega | (refine sbh ?_ ?_ <;> first | assumption | omega) | (refine sbPV ?_ ?_ <;> first | assumption | omega)) only [rcB0, ↓rfB0_0b, ↓rfB0_1b, ↓rfB0_2b, ↓wfB0_2b, rcB1, ↓rfB1_0b, ↓wfB1_0b, ↓rfB1_1b, ↓wfB1_1b, ↓rfB1_2b, ↓rfB1_3b, ↓rfB1_4b, ↓rfB1_5b, ↓rfB1_6b, ↓rfB1_7b, ↓rfB1_8b, ↓raB2b, ↓waB2b, ↓naB2b, ↓raB3b, ↓waB3b, ↓naB3b, ↓raB4b, ↓waB4b, ↓naB4b, ↓raB5b, ↓waB5b, ↓naB5b, ↓raB6b, ↓waB6b, ↓naB6b, ↓raB7b, ↓waB7b, ↓naB7b, ↓raB8b, ↓waB8b, ↓naB8b, rcB9, ↓rfB9_0b, ↓wfB9_0b, ↓rfB9_1b, ↓rfB9_2b, ↓rfB9_3b, ↓rfB9_4b, ↓raB10b, ↓waB10b, ↓naB10b, ↓raB11b, ↓waB11b, ↓naB11b, ↓raB12b, ↓waB12b, ↓naB12b, ↓raB13b, ↓waB13b, ↓naB13b, rcX0, ↓rfX0_0b, ↓rfX0_1b, ↓rfX0_2b, ↓rfX0_3b, ↓rfX0_4b, ↓wfX0_4b, ↓rfX0_5b, ↓wfX0_5b, ↓rfX0_6b, ↓rfX0_7b, ↓rfX0_8b, ↓rfX0_9b, ↓wfX0_9b, ↓rfX0_10b, ↓wfX0_10b, rcX2, ↓rfX2_0b, ↓rfX2_1b, ↓rfX2_2b, ↓rfX2_3b, ↓rfX2_4b, ↓rfX2_5b, ↓raX3b, ↓waX3b, ↓naX3b, ↓raX4b, ↓waX4b, ↓naX4b, ↓raX5b, ↓waX5b, ↓naX5b, ↓raX6b, ↓waX6b, ↓naX6b, ↓raX7b, ↓waX7b, ↓raX7L0b, ↓waX7L0b, ↓naX7b, ↓raX8b, ↓waX8b, ↓naX8b, rcX11, ↓rfX11_0b, ↓rfX11_1b, ↓wfX11_1b, ↓rfX11_2b, ↓rfX11_3b, ↓wfX11_3b, ↓rfX11_4b, ↓wfX11_4b, ↓rfX11_5b, ↓wfX11_5b, ↓rfX11_6b, ↓rfX11_7b, ↓wfX11_7b, ↓raX12b, ↓waX12b, ↓naX12b, ↓raX13b, ↓waX13b, ↓naX13b, ↓raX14b, ↓waX14b, ↓raX14L0b, ↓waX14L0b, ↓raX14L1b, ↓waX14L1b, ↓raX14L2b, ↓waX14L2b, ↓naX14b, ↓caB2b, ↓caB2Lb, ↓caB3b, ↓caB3Lb, ↓caB4b, ↓caB4Lb, ↓caB5b, ↓caB5Lb, ↓caB6b, ↓caB6Lb, ↓caB7b, ↓caB7Lb, ↓caB8b, ↓caB8Lb, ↓caB10b, ↓caB10Lb, ↓caB11b, ↓caB11Lb, ↓caB12b, ↓caB12Lb, ↓caB13b, ↓caB13Lb, ↓raHb, ↓raH0b, ↓waHb, ↓waH7b, Option.bind_some, cI_ok, cR_ok, cV_ok, cN_ok, cN_nu, cI_ex, cR_ex, cV_ex, gI_sm, gR_sm, sb_eq, sb_sb, wexc_S, ↓reduceIte, eq_self, vI_def, vV_def, vR_def, nI_1, true_and, and_true, ↓s25c, hft, bI_f, b189_147]
    · simp (disch := first | assumption | omega | (refine sbh ?_ ?_ <;> first | assumption | omega) | (refine sbPV ?_ ?_ <;> first | assumption | omega)) only [rcB0, ↓rfB0_0b, ↓rfB0_1b, ↓rfB0_2b, ↓wfB0_2b, rcB1, ↓rfB1_0b, ↓wfB1_0b, ↓rfB1_1b, ↓wfB1_1b, ↓rfB1_2b, ↓rfB1_3b, ↓rfB1_4b, ↓rfB1_5b, ↓rfB1_6b, ↓rfB1_7b, ↓rfB1_8b, ↓raB2b, ↓waB2b, ↓naB2b, ↓raB3b, ↓waB3b, ↓naB3b, ↓raB4b, ↓waB4b, ↓naB4b, ↓raB5b, ↓waB5b, ↓naB5b, ↓raB6b, ↓waB6b, ↓naB6b, ↓raB7b, ↓waB7b, ↓naB7b, ↓raB8b, ↓waB8b, ↓naB8b, rcB9, ↓rfB9_0b, ↓wfB9_0b, ↓rfB9_1b, ↓rfB9_2b, ↓rfB9_3b, ↓rfB9_4b, ↓raB10b, ↓waB10b, ↓naB10b, ↓raB11b, ↓waB11b, ↓naB11b, ↓raB12b, ↓waB12b, ↓naB12b, ↓raB13b, ↓waB13b, ↓naB13b, rcX0, ↓rfX0_0b, ↓rfX0_1b, ↓rfX0_2b, ↓rfX0_3b, ↓rfX0_4b, ↓wfX0_4b, ↓rfX0_5b, ↓wfX0_5b, ↓rfX0_6b, ↓rfX0_7b, ↓rfX0_8b, ↓rfX0_9b, ↓wfX0_9b, ↓rfX0_10b, ↓wfX0_10b, rcX2, ↓rfX2_0b, ↓rfX2_1b, ↓rfX2_2b, ↓rfX2_3b, ↓rfX2_4b, ↓rfX2_5b, ↓raX3b, ↓waX3b, ↓naX3b, ↓raX4b, ↓waX4b, ↓naX4b, ↓raX5b, ↓waX5b, ↓naX5b, ↓raX6b, ↓waX6b, ↓naX6b, ↓raX7b, ↓waX7b, ↓raX7L0b, ↓waX7L0b, ↓naX7b, ↓raX8b, ↓waX8b, ↓naX8b, rcX11, ↓rfX11_0b, ↓rfX11_1b, ↓wfX11_1b, ↓rfX11_2b, ↓rfX11_3b, ↓wfX11_3b, ↓rfX11_4b, ↓wfX11_4b, ↓rfX11_5b, ↓wfX11_5b, ↓rfX11_6b, ↓rfX11_7b, ↓wfX11_7b, ↓raX12b, ↓waX12b, ↓naX12b, ↓raX13b, ↓waX13b, ↓naX13b, ↓raX14b, ↓waX14b, ↓raX14L0b, ↓waX14L0b, ↓raX14L1b, ↓waX14L1b, ↓raX14L2b, ↓waX14L2b, ↓naX14b, ↓caB2b, ↓caB2Lb, ↓caB3b, ↓caB3Lb, ↓caB4b, ↓caB4Lb, ↓caB5b, ↓caB5Lb, ↓caB6b, ↓caB6Lb, ↓caB7b, ↓caB7Lb, ↓caB8b, ↓caB8Lb, ↓caB10b, ↓caB10Lb, ↓caB11b, ↓caB11Lb, ↓caB12b, ↓caB12Lb, ↓caB13b, ↓caB13Lb, ↓raHb, ↓raH0b, ↓waHb, ↓waH7b, Option.bind_some, cI_ok, cR_ok, cV_ok, cN_ok, cN_nu, cI_ex, cR_ex, cV_ex, gI_sm, gR_sm, sb_eq, sb_sb, wexc_S, ↓reduceIte, eq_self, vI_def, vV_def, vR_def, nI_1, true_and, and_true, ↓s25c, hft, bI_t, not1, b189_147]
  -- no candidate
  have no : ∀ o11, cdB (m 0) q j = false → ∃ o9' o10' o11', run G (d + 6) 189 82 [some (.ref (ad A 11 0)), some (.int (nI p)), some (.int x2), some (.int x3), some (.int (nI q)), some (.int x5), some (.int (nI (cnt (cdB (m 0) q) j))), some (.int (bsI (m 0) (best (cdB (m 0) q) (orB (m 0)) j))), some (.int (nI j)), some (.int (m 0 2 j)), some (.int (bI (ftB (m 0) j q))), o11] [.int 0] (S A H m n r) = run G (d + 6) 189 36 [some (.ref (ad A 11 0)), some (.int (nI p)), some (.int x2), some (.int x3), some (.int (nI q)), some (.int x5), some (.int (nI (cnt (cdB (m 0) q) (j + 1)))), some (.int (bsI (m 0) (best (cdB (m 0) q) (orB (m 0)) (j + 1)))), some (.int (nI (j + 1))), o9', o10', o11'] [] (S A H m n r) := by
    intro o11 hc
    have ec : cnt (cdB (m 0) q) (j + 1) = cnt (cdB (m 0) q) j := by show cnt _ j + (if cdB (m 0) q j = true then 1 else 0) = _; rw [hc]; rfl
    have eb : best (cdB (m 0) q) (orB (m 0)) (j + 1) = best (cdB (m 0) q) (orB (m 0)) j := by
      rw [best_s, hc]
      cases best (cdB (m 0) q) (orB (m 0)) j with
      | none => rfl
      | some i => exact if_neg (fun z => by cases z.1)
    refine ⟨some (.int (m 0 2 j)), some (.int (bI (ftB (m 0) j q))), some (.int 0), ?_⟩
    rw [ec, eb, b189_82, if_pos rfl, b189_96, if_pos rfl, b189_125, Int32.add_zero]
    exact e127 _ _ _ _
  rw [b189_36]
  simp (disch := first | assumption | omega | (refine sbh ?_ ?_ <;> first | assumption | omega) | (refine sbPV ?_ ?_ <;> first | assumption | omega)) only [rcB0, ↓rfB0_0b, ↓rfB0_1b, ↓rfB0_2b, ↓wfB0_2b, rcB1, ↓rfB1_0b, ↓wfB1_0b, ↓rfB1_1b, ↓wfB1_1b, ↓rfB1_2b, ↓rfB1_3b, ↓rfB1_4b, ↓rfB1_5b, ↓rfB1_6b, ↓rfB1_7b, ↓rfB1_8b, ↓raB2b, ↓waB2b, ↓naB2b, ↓raB3b, ↓waB3b, ↓naB3b, ↓raB4b, ↓waB4b, ↓naB4b, ↓raB5b, ↓waB5b, ↓naB5b, ↓raB6b, ↓waB6b, ↓naB6b, ↓raB7b, ↓waB7b, ↓naB7b, ↓raB8b, ↓waB8b, ↓naB8b, rcB9, ↓rfB9_0b, ↓wfB9_0b, ↓rfB9_1b, ↓rfB9_2b, ↓rfB9_3b, ↓rfB9_4b, ↓raB10b, ↓waB10b, ↓naB10b, ↓raB11b, ↓waB11b, ↓naB11b, ↓raB12b, ↓waB12b, ↓naB12b, ↓raB13b, ↓waB13b, ↓naB13b, rcX0, ↓rfX0_0b, ↓rfX0_1b, ↓rfX0_2b, ↓rfX0_3b, ↓rfX0_4b, ↓wfX0_4b, ↓rfX0_5b, ↓wfX0_5b, ↓rfX0_6b, ↓rfX0_7b, ↓rfX0_8b, ↓rfX0_9b, ↓wfX0_9b, ↓rfX0_10b, ↓wfX0_10b, rcX2, ↓rfX2_0b, ↓rfX2_1b, ↓rfX2_2b, ↓rfX2_3b, ↓rfX2_4b, ↓rfX2_5b, ↓raX3b, ↓waX3b, ↓naX3b, ↓raX4b, ↓waX4b, ↓naX4b, ↓raX5b, ↓waX5b, ↓naX5b, ↓raX6b, ↓waX6b, ↓naX6b, ↓raX7b, ↓waX7b, ↓raX7L0b, ↓waX7L0b, ↓naX7b, ↓raX8b, ↓waX8b, ↓naX8b, rcX11, ↓rfX11_0b, ↓rfX11_1b, ↓wfX11_1b, ↓rfX11_2b, ↓rfX11_3b, ↓wfX11_3b, ↓rfX11_4b, ↓wfX11_4b, ↓rfX11_5b, ↓wfX11_5b, ↓rfX11_6b, ↓rfX11_7b, ↓wfX11_7b, ↓raX12b, ↓waX12b, ↓naX12b, ↓raX13b, ↓waX13b, ↓naX13b, ↓raX14b, ↓waX14b, ↓raX14L0b, ↓waX14L0b, ↓raX14L1b, ↓waX14L1b, ↓raX14L2b, ↓waX14L2b, ↓naX14b, ↓caB2b, ↓caB2Lb, ↓caB3b, ↓caB3Lb, ↓caB4b, ↓caB4Lb, ↓caB5b, ↓caB5Lb, ↓caB6b, ↓caB6Lb, ↓caB7b, ↓caB7Lb, ↓caB8b, ↓caB8Lb, ↓caB10b, ↓caB10Lb, ↓caB11b, ↓caB11Lb, ↓caB12b, ↓caB12Lb, ↓caB13b, ↓caB13Lb, ↓raHb, ↓raH0b, ↓waHb, ↓waH7b, Option.bind_some, cI_ok, cR_ok, cV_ok, cN_ok, cN_nu, cI_ex, cR_ex, cV_ex, gI_sm, gR_sm, sb_eq, sb_sb, wexc_S, ↓reduceIte, eq_self, vI_def, vV_def, vR_def, nI_1, true_and, and_true, ↓s48c, nI_leI, hle, ↓s5c, ↓s42c]
  cases hft : ftB (m 0) j q with
  | false =>
    have hc : cdB (m 0) q j = false := by unfold cdB; rw [hft, Bool.and_false]
    have h9 := no o11 hc
    rw [hft] at h9
    simp (disch := first | assumption | omega | (refine sbh ?_ ?_ <;> first | assumption | omega) | (refine sbPV ?_ ?_ <;> first | assumption | omega)) only [rcB0, ↓rfB0_0b, ↓rfB0_1b, ↓rfB0_2b, ↓wfB0_2b, rcB1, ↓rfB1_0b, ↓wfB1_0b, ↓rfB1_1b, ↓wfB1_1b, ↓rfB1_2b, ↓rfB1_3b, ↓rfB1_4b, ↓rfB1_5b, ↓rfB1_6b, ↓rfB1_7b, ↓rfB1_8b, ↓raB2b, ↓waB2b, ↓naB2b, ↓raB3b, ↓waB3b, ↓naB3b, ↓raB4b, ↓waB4b, ↓naB4b, ↓raB5b, ↓waB5b, ↓naB5b, ↓raB6b, ↓waB6b, ↓naB6b, ↓raB7b, ↓waB7b, ↓naB7b, ↓raB8b, ↓waB8b, ↓naB8b, rcB9, ↓rfB9_0b, ↓wfB9_0b, ↓rfB9_1b, ↓rfB9_2b, ↓rfB9_3b, ↓rfB9_4b, ↓raB10b, ↓waB10b, ↓naB10b, ↓raB11b, ↓waB11b, ↓naB11b, ↓raB12b, ↓waB12b, ↓naB12b, ↓raB13b, ↓waB13b, ↓naB13b, rcX0, ↓rfX0_0b, ↓rfX0_1b, ↓rfX0_2b, ↓rfX0_3b, ↓rfX0_4b, ↓wfX0_4b, ↓rfX0_5b, ↓wfX0_5b, ↓rfX0_6b, ↓rfX0_7b, ↓rfX0_8b, ↓rfX0_9b, ↓wfX0_9b, ↓rfX0_10b, ↓wfX0_10b, rcX2, ↓rfX2_0b, ↓rfX2_1b, ↓rfX2_2b, ↓rfX2_3b, ↓rfX2_4b, ↓rfX2_5b, ↓raX3b, ↓waX3b, ↓naX3b, ↓raX4b, ↓waX4b, ↓naX4b, ↓raX5b, ↓waX5b, ↓naX5b, ↓raX6b, ↓waX6b, ↓naX6b, ↓raX7b, ↓waX7b, ↓raX7L0b, ↓waX7L0b, ↓naX7b, ↓raX8b, ↓waX8b, ↓naX8b, rcX11, ↓rfX11_0b, ↓rfX11_1b, ↓wfX11_1b, ↓rfX11_2b, ↓rfX11_3b, ↓wfX11_3b, ↓rfX11_4b, ↓wfX11_4b, ↓rfX11_5b, ↓wfX11_5b, ↓rfX11_6b, ↓rfX11_7b, ↓wfX11_7b, ↓raX12b, ↓waX12b, ↓naX12b, ↓raX13b, ↓waX13b, ↓naX13b, ↓raX14b, ↓waX14b, ↓raX14L0b, ↓waX14L0b, ↓raX14L1b, ↓waX14L1b, ↓raX14L2b, ↓waX14L2b, ↓naX14b, ↓caB2b, ↓caB2Lb, ↓caB3b, ↓caB3Lb, ↓caB4b, ↓caB4Lb, ↓caB5b, ↓caB5Lb, ↓caB6b, ↓caB6Lb, ↓caB7b, ↓caB7Lb, ↓caB8b, ↓caB8Lb, ↓caB10b, ↓caB10Lb, ↓caB11b, ↓caB11Lb, ↓caB12b, ↓caB12Lb, ↓caB13b, ↓caB13Lb, ↓raHb, ↓raH0b, ↓waHb, ↓waH7b, Option.bind_some, cI_ok, cR_ok, cV_ok, cN_ok, cN_nu, cI_ex, cR_ex, cV_ex, gI_sm, gR_sm, sb_eq, sb_sb, wexc_S, ↓reduceIte, eq_self, vI_def, vV_def, vR_def, nI_1, true_and, and_true, bI_f, b189_81]
    exact h9
  | true =>
    cases hw : waB (m 0) j with
    | false =>
      have hc : cdB (m 0) q j = false := by unfold cdB; rw [hw, Bool.false_and]
      have h9 := no o11 hc
      rw [hft] at h9
      simp (disch := first | assumption | omega | (refine sbh ?_ ?_ <;> first | assumption | omega) | (refine sbPV ?_ ?_ <;> first | assumption | omega)) only [rcB0, ↓rfB0_0b, ↓rfB0_1b, ↓rfB0_2b, ↓wfB0_2b, rcB1, ↓rfB1_0b, ↓wfB1_0b, ↓rfB1_1b, ↓wfB1_1b, ↓rfB1_2b, ↓rfB1_3b, ↓rfB1_4b, ↓rfB1_5b, ↓rfB1_6b, ↓rfB1_7b, ↓rfB1_8b, ↓raB2b, ↓waB2b, ↓naB2b, ↓raB3b, ↓waB3b, ↓naB3b, ↓raB4b, ↓waB4b, ↓naB4b, ↓raB5b, ↓waB5b, ↓naB5b, ↓raB6b, ↓waB6b, ↓naB6b, ↓raB7b, ↓waB7b, ↓naB7b, ↓raB8b, ↓waB8b, ↓naB8b, rcB9, ↓rfB9_0b, ↓wfB9_0b, ↓rfB9_1b, ↓rfB9_2b, ↓rfB9_3b, ↓rfB9_4b, ↓raB10b, ↓waB10b, ↓naB10b, ↓raB11b, ↓waB11b, ↓naB11b, ↓raB12b, ↓waB12b, ↓naB12b, ↓raB13b, ↓waB13b, ↓naB13b, rcX0, ↓rfX0_0b, ↓rfX0_1b, ↓rfX0_2b, ↓rfX0_3b, ↓rfX0_4b, ↓wfX0_4b, ↓rfX0_5b, ↓wfX0_5b, ↓rfX0_6b, ↓rfX0_7b, ↓rfX0_8b, ↓rfX0_9b, ↓wfX0_9b, ↓rfX0_10b, ↓wfX0_10b, rcX2, ↓rfX2_0b, ↓rfX2_1b, ↓rfX2_2b, ↓rfX2_3b, ↓rfX2_4b, ↓rfX2_5b, ↓raX3b, ↓waX3b, ↓naX3b, ↓raX4b, ↓waX4b, ↓naX4b, ↓raX5b, ↓waX5b, ↓naX5b, ↓raX6b, ↓waX6b, ↓naX6b, ↓raX7b, ↓waX7b, ↓raX7L0b, ↓waX7L0b, ↓naX7b, ↓raX8b, ↓waX8b, ↓naX8b, rcX11, ↓rfX11_0b, ↓rfX11_1b, ↓wfX11_1b, ↓rfX11_2b, ↓rfX11_3b, ↓wfX11_3b, ↓rfX11_4b, ↓wfX11_4b, ↓rfX11_5b, ↓wfX11_5b, ↓rfX11_6b, ↓rfX11_7b, ↓wfX11_7b, ↓raX12b, ↓waX12b, ↓naX12b, ↓raX13b, ↓waX13b, ↓naX13b, ↓raX14b, ↓waX14b, ↓raX14L0b, ↓waX14L0b, ↓raX14L1b, ↓waX14L1b, ↓raX14L2b, ↓waX14L2b, ↓naX14b, ↓caB2b, ↓caB2Lb, ↓caB3b, ↓caB3Lb, ↓caB4b, ↓caB4Lb, ↓caB5b, ↓caB5Lb, ↓caB6b, ↓caB6Lb, ↓caB7b, ↓caB7Lb, ↓caB8b, ↓caB8Lb, ↓caB10b, ↓caB10Lb, ↓caB11b, ↓caB11Lb, ↓caB12b, ↓caB12Lb, ↓caB13b, ↓caB13Lb, ↓raHb, ↓raH0b, ↓waHb, ↓waH7b, Option.bind_some, cI_ok, cR_ok, cV_ok, cN_ok, cN_nu, cI_ex, cR_ex, cV_ex, gI_sm, gR_sm, sb_eq, sb_sb, wexc_S, ↓reduceIte, eq_self, vI_def, vV_def, vR_def, nI_1, true_and, and_true, bI_t, not1, ↓s9c, hw, Bool.not_false, b189_81]
      exact h9
    | true =>
      have hc : cdB (m 0) q j = true := by unfold cdB; rw [hw, hft]; rfl
      have ec : nI (cnt (cdB (m 0) q) j) + 1 = nI (cnt (cdB (m 0) q) (j + 1)) := by
        show _ = nI (cnt _ j + (if cdB (m 0) q j = true then 1 else 0))
        rw [hc]; exact nI_add _ 1
      have e3 := fun x6 z o7 o11 => e127 x6 z o7 o11
      rw [hft] at e3
      simp only [bI_t] at e3
      simp (disch := first | assumption | omega | (refine sbh ?_ ?_ <;> first | assumption | omega) | (refine sbPV ?_ ?_ <;> first | assumption | omega)) only [rcB0, ↓rfB0_0b, ↓rfB0_1b, ↓rfB0_2b, ↓wfB0_2b, rcB1, ↓rfB1_0b, ↓wfB1_0b, ↓rfB1_1b, ↓wfB1_1b, ↓rfB1_2b, ↓rfB1_3b, ↓rfB1_4b, ↓rfB1_5b, ↓rfB1_6b, ↓rfB1_7b, ↓rfB1_8b, ↓raB2b, ↓waB2b, ↓naB2b, ↓raB3b, ↓waB3b, ↓naB3b, ↓raB4b, ↓waB4b, ↓naB4b, ↓raB5b, ↓waB5b, ↓naB5b, ↓raB6b, ↓waB6b, ↓naB6b, ↓raB7b, ↓waB7b, ↓naB7b, ↓raB8b, ↓waB8b, ↓naB8b, rcB9, ↓rfB9_0b, ↓wfB9_0b, ↓rfB9_1b, ↓rfB9_2b, ↓rfB9_3b, ↓rfB9_4b, ↓raB10b, ↓waB10b, ↓naB10b, ↓raB11b, ↓waB11b, ↓naB11b, ↓raB12b, ↓waB12b, ↓naB12b, ↓raB13b, ↓waB13b, ↓naB13b, rcX0, ↓rfX0_0b, ↓rfX0_1b, ↓rfX0_2b, ↓rfX0_3b, ↓rfX0_4b, ↓wfX0_4b, ↓rfX0_5b, ↓wfX0_5b, ↓rfX0_6b, ↓rfX0_7b, ↓rfX0_8b, ↓rfX0_9b, ↓wfX0_9b, ↓rfX0_10b, ↓wfX0_10b, rcX2, ↓rfX2_0b, ↓rfX2_1b, ↓rfX2_2b, ↓rfX2_3b, ↓rfX2_4b, ↓rfX2_5b, ↓raX3b, ↓waX3b, ↓naX3b, ↓raX4b, ↓waX4b, ↓naX4b, ↓raX5b, ↓waX5b, ↓naX5b, ↓raX6b, ↓waX6b, ↓naX6b, ↓raX7b, ↓waX7b, ↓raX7L0b, ↓waX7L0b, ↓naX7b, ↓raX8b, ↓waX8b, ↓naX8b, rcX11, ↓rfX11_0b, ↓rfX11_1b, ↓wfX11_1b, ↓rfX11_2b, ↓rfX11_3b, ↓wfX11_3b, ↓rfX11_4b, ↓wfX11_4b, ↓rfX11_5b, ↓wfX11_5b, ↓rfX11_6b, ↓rfX11_7b, ↓wfX11_7b, ↓raX12b, ↓waX12b, ↓naX12b, ↓raX13b, ↓waX13b, ↓naX13b, ↓raX14b, ↓waX14b, ↓raX14L0b, ↓waX14L0b, ↓raX14L1b, ↓waX14L1b, ↓raX14L2b, ↓waX14L2b, ↓naX14b, ↓caB2b, ↓caB2Lb, ↓caB3b, ↓caB3Lb, ↓caB4b, ↓caB4Lb, ↓caB5b, ↓caB5Lb, ↓caB6b, ↓caB6Lb, ↓caB7b, ↓caB7Lb, ↓caB8b, ↓caB8Lb, ↓caB10b, ↓caB10Lb, ↓caB11b, ↓caB11Lb, ↓caB12b, ↓caB12Lb, ↓caB13b, ↓caB13Lb, ↓raHb, ↓raH0b, ↓waHb, ↓waH7b, Option.bind_some, cI_ok, cR_ok, cV_ok, cN_ok, cN_nu, cI_ex, cR_ex, cV_ex, gI_sm, gR_sm, sb_eq, sb_sb, wexc_S, ↓reduceIte, eq_self, vI_def, vV_def, vR_def, nI_1, true_and, and_true, bI_t, not1, ↓s9c, hw, Bool.not_true, bI_f, b189_82]
      rw [b189_96, if_neg not1, ec]
      cases hb : best (cdB (m 0) q) (orB (m 0)) j with
      | none =>
        have eb : best (cdB (m 0) q) (orB (m 0)) (j + 1) = some j := by rw [best_s, hb, hc]; rfl
        rw [eb]
        refine ⟨some (.int (m 0 2 j)), some (.int 1), some (.int 1), ?_⟩
        rw [if_pos (by show (-13 : Int32) < 0; decide), b189_120]
        exact e3 _ _ _ _
      | some i =>
        obtain ⟨hi, -⟩ := best_lt hb
        have hik : i < k := by omega
        have hl := h0 i hik
        have e43 := s43 (G := G) (A := A) (n := n) (r := r) (H := H) hj hik hf ho hn hk (d + 2)
        refine ⟨some (.int (m 0 2 j)), some (.int 1), some (.int 1), ?_⟩
        rw [if_neg (show ¬ bsI (m 0) (some i) < 0 from hl)]
        show cI (call G (d + 5) 43 [.ref (ad A 11 0), .int (m 0 2 j), .int (m 0 2 i)] (S A H m n r)) _ = _
        rw [cI_of (e43)]
        cases hor : orB (m 0) j i with
        | true =>
          have eb : best (cdB (m 0) q) (orB (m 0)) (j + 1) = some j := by rw [best_s, hb]; exact if_pos ⟨hc, hor⟩
          rw [eb, bI_t, if_neg not1, b189_120]
          exact e3 _ _ _ _
        | false =>
          have eb : best (cdB (m 0) q) (orB (m 0)) (j + 1) = some i := by rw [best_s, hb]; exact if_neg (fun z => by rw [hor] at z; cases z.2)
          rw [eb, bI_f, if_pos rfl, b189_125]
          exact e3 _ _ _ _
theorem pst_in (hf : ∀ i, i < k → fx (m 0) k (m 0 2 i) = some i) (ho : ∀ i j, i < k → j < k → (m 0 2 j ≤ m 0 2 i ↔ j ≤ i)) (hn : m 0 1 0 = nI k) (hk : k ≤ 10) (hp : m 0 9 0 = nI p) (hq : p ≤ 6) (h0 : ∀ i, i < k → ¬ m 0 2 i < 0) {q : Nat} (hqp : q < p) (d : Nat) (x2 x3 x5 : Int32) : ∀ t j, j + t = k → ∀ o9 o10 o11, ∃ o9' o10' o11', run G (d + 6) 189 36 [some (.ref (ad A 11 0)), some (.int (nI p)), some (.int x2), some (.int x3), some (.int (nI q)), some (.int x5), some (.int (nI (cnt (cdB (m 0) q) j))), some (.int (bsI (m 0) (best (cdB (m 0) q) (orB (m 0)) j))), some (.int (nI j)), o9, o10, o11] [] (S A H m n r) = run G (d + 6) 189 36 [some (.ref (ad A 11 0)), some (.int (nI p)), some (.int x2), some (.int x3), some (.int (nI q)), some (.int x5), some (.int (nI (cnt (cdB (m 0) q) k))), some (.int (bsI (m 0) (best (cdB (m 0) q) (orB (m 0)) k))), some (.int (nI k)), o9', o10', o11'] [] (S A H m n r) := by
  intro t
  induction t with
  | zero =>
    intro j hj o9 o10 o11
    have : j = k := by omega
    subst this
    exact ⟨o9, o10, o11, rfl⟩
  | succ t ih =>
    intro j hj o9 o10 o11
    obtain ⟨p9, p10, p11, e1⟩ := pst_1 (G := G) (A := A) (n := n) (r := r) (H := H) hf ho hn hk hp hq h0 hqp (j := j) (by omega) d x2 x3 x5 o9 o10 o11
    obtain ⟨q9, q10, q11, e2⟩ := ih (j + 1) (by omega) p9 p10 p11
    exact ⟨q9, q10, q11, e1.trans e2⟩
/-- the turn of a post -/
theorem pst_q (hf : ∀ i, i < k → fx (m 0) k (m 0 2 i) = some i) (ho : ∀ i j, i < k → j < k → (m 0 2 j ≤ m 0 2 i ↔ j ≤ i)) (hn : m 0 1 0 = nI k) (hk : k ≤ 10) (hp : m 0 9 0 = nI p) (hq : p ≤ 6) (hid : ∀ i, i < k → ¬ m 0 2 i = -1) (h0 : ∀ i, i < k → ¬ m 0 2 i < 0) (hwf : ∀ i q, i < k → q < p → fh (m 0) k (nI q) = some i → waB (m 0) i = false ∧ m 0 7 i = nI q ∧ ftB (m 0) i q = true) {q : Nat} (hqp : q < p) (d : Nat) (o5 o6 o7 o8 o9 o10 o11 : Option Value) : ∃ n' r' o5' o6' o7' o8' o9' o10' o11', n ≤ n' ∧ n' ≤ n + 2 ∧ r' ≤ r + 12 ∧ run G (d + 6) 189 12 [some (.ref (ad A 11 0)), some (.int (nI p)), some (.int (nI (cnt (vqB (m 0) k) q))), some (.int (sm (wgL (m 0) k) q)), some (.int (nI q)), o5, o6, o7, o8, o9, o10, o11] [] (S A H m n r) = run G (d + 6) 189 12 [some (.ref (ad A 11 0)), some (.int (nI p)), some (.int (nI (cnt (vqB (m 0) k) (q + 1)))), some (.int (sm (wgL (m 0) k) (q + 1))), some (.int (nI (q + 1))), o5', o6', o7', o8', o9', o10', o11'] [] (S A H m n' r') := by
  have hle : ¬ p ≤ q := by omega
  have ecd : (fun i => waB (m 0) i && ftB (m 0) i q) = cdB (m 0) q := rfl
  -- the best, as the class says it
  have e27 : ∀ n r, ∃ n' r', n ≤ n' ∧ n' ≤ n + 1 ∧ r' ≤ r + 6 ∧ call G (d + 5) 27 [.ref (ad A 11 0), .int (nI q)] (S A H m n r) = vI (bsI (m 0) (best (cdB (m 0) q) (orB (m 0)) k)) (S A H m n' r') := by
    intro n r
    cases hb : best (cdB (m 0) q) (orB (m 0)) k with
    | none => exact ⟨n + 1, r + 6, by omega, by omega, by omega, s27e hb hqp hn hk hp hq d⟩
    | some i => exact ⟨n, r, by omega, by omega, by omega, s27 hb hqp hn hk hp hq d⟩
  have e28 : ∀ n r, call G (d + 5) 28 [.ref (ad A 11 0), .int (nI q)] (S A H m n r) = vI (nI (cnt (cdB (m 0) q) k)) (S A H m n r) := fun n r => s28 hqp hn hk hp hq (d + 1)
  rw [b189_12]
  rw [if_neg (by rw [nI_leI (by omega) (by omega)]; exact hle)]
  have est : nI (cnt (cdB (m 0) q) 0) = 0 ∧ bsI (m 0) (best (cdB (m 0) q) (orB (m 0)) 0) = -13 ∧ nI 0 = 0 := ⟨rfl, rfl, rfl⟩
  cases hfh : fh (m 0) k (nI q) with
  | none =>
    have ev : nI (cnt (vqB (m 0) k) q) + 1 = nI (cnt (vqB (m 0) k) (q + 1)) := by
      show _ = nI (cnt _ q + (if vqB (m 0) k q = true then 1 else 0))
      have : vqB (m 0) k q = true := by unfold vqB; rw [hfh]; rfl
      rw [this]; exact nI_add _ 1
    have ew : sm (wgL (m 0) k) q + 0 = sm (wgL (m 0) k) (q + 1) := by
      show _ = sm _ q + wgL (m 0) k q
      have : wgL (m 0) k q = 0 := by unfold wgL; rw [hfh]; rfl
      rw [this]
    obtain ⟨p9, p10, p11, e1⟩ := pst_in (G := G) (A := A) (n := n + 1) (r := r + 6) (H := H) hf ho hn hk hp hq h0 hqp d (nI (cnt (vqB (m 0) k) q)) (sm (wgL (m 0) k) q) (-13) k 0 (by omega) o9 o10 o11
    rw [est.1, est.2.1, est.2.2] at e1
    obtain ⟨n2, r2, a1, a2, a3, e2⟩ := e27 (n + 1) (r + 6)
    refine ⟨n2, r2, some (.int (-13)), some (.int (nI (cnt (cdB (m 0) q) k))), some (.int (bsI (m 0) (best (cdB (m 0) q) (orB (m 0)) k))), some (.int (nI k)), p9, p10, p11, by omega, by omega, by omega, ?_⟩
    rw [s24e hqp hfh hn hk hp hq (d + 1)]
    show run G (d + 6) 189 36 _ [] (S A H m (n + 1) (r + 6)) = _
    rw [e1, b189_36]
    have eneg : ¬ (0 : Int32) ≤ -13 := by decide
    have elt : (-13 : Int32) < 0 := by decide
    simp (disch := first | assumption | omega | (refine sbh ?_ ?_ <;> first | assumption | omega) | (refine sbPV ?_ ?_ <;> first | assumption | omega)) only [rcB0, ↓rfB0_0b, ↓rfB0_1b, ↓rfB0_2b, ↓wfB0_2b, rcB1, ↓rfB1_0b, ↓wfB1_0b, ↓rfB1_1b, ↓wfB1_1b, ↓rfB1_2b, ↓rfB1_3b, ↓rfB1_4b, ↓rfB1_5b, ↓rfB1_6b, ↓rfB1_7b, ↓rfB1_8b, ↓raB2b, ↓waB2b, ↓naB2b, ↓raB3b, ↓waB3b, ↓naB3b, ↓raB4b, ↓waB4b, ↓naB4b, ↓raB5b, ↓waB5b, ↓naB5b, ↓raB6b, ↓waB6b, ↓naB6b, ↓raB7b, ↓waB7b, ↓naB7b, ↓raB8b, ↓waB8b, ↓naB8b, rcB9, ↓rfB9_0b, ↓wfB9_0b, ↓rfB9_1b, ↓rfB9_2b, ↓rfB9_3b, ↓rfB9_4b, ↓raB10b, ↓waB10b, ↓naB10b, ↓raB11b, ↓waB11b, ↓naB11b, ↓raB12b, ↓waB12b, ↓naB12b, ↓raB13b, ↓waB13b, ↓naB13b, rcX0, ↓rfX0_0b, ↓rfX0_1b, ↓rfX0_2b, ↓rfX0_3b, ↓rfX0_4b, ↓wfX0_4b, ↓rfX0_5b, ↓wfX0_5b, ↓rfX0_6b, ↓rfX0_7b, ↓rfX0_8b, ↓rfX0_9b, ↓wfX0_9b, ↓rfX0_10b, ↓wfX0_10b, rcX2, ↓rfX2_0b, ↓rfX2_1b, ↓rfX2_2b, ↓rfX2_3b, ↓rfX2_4b, ↓rfX2_5b, ↓raX3b, ↓waX3b, ↓naX3b, ↓raX4b, ↓waX4b, ↓naX4b, ↓raX5b, ↓waX5b, ↓naX5b, ↓raX6b, ↓waX6b, ↓naX6b, ↓raX7b, ↓waX7b, ↓raX7L0b, ↓waX7L0b, ↓naX7b, ↓raX8b, ↓waX8b, ↓naX8b, rcX11, ↓rfX11_0b, ↓rfX11_1b, ↓wfX11_1b, ↓rfX11_2b, ↓rfX11_3b, ↓wfX11_3b, ↓rfX11_4b, ↓wfX11_4b, ↓rfX11_5b, ↓wfX11_5b, ↓rfX11_6b, ↓rfX11_7b, ↓wfX11_7b, ↓raX12b, ↓waX12b, ↓naX12b, ↓raX13b, ↓waX13b, ↓naX13b, ↓raX14b, ↓waX14b, ↓raX14L0b, ↓waX14L0b, ↓raX14L1b, ↓waX14L1b, ↓raX14L2b, ↓waX14L2b, ↓naX14b, ↓caB2b, ↓caB2Lb, ↓caB3b, ↓caB3Lb, ↓caB4b, ↓caB4Lb, ↓caB5b, ↓caB5Lb, ↓caB6b, ↓caB6Lb, ↓caB7b, ↓caB7Lb, ↓caB8b, ↓caB8Lb, ↓caB10b, ↓caB10Lb, ↓caB11b, ↓caB11Lb, ↓caB12b, ↓caB12Lb, ↓caB13b, ↓caB13Lb, ↓raHb, ↓raH0b, ↓waHb, ↓waH7b, Option.bind_some, cI_ok, cR_ok, cV_ok, cN_ok, cN_nu, cI_ex, cR_ex, cV_ex, gI_sm, gR_sm, sb_eq, sb_sb, wexc_S, ↓reduceIte, eq_self, vI_def, vV_def, vR_def, nI_1, true_and, and_true, ↓s48c, nI_leI, Nat.le_refl, eneg]
    rw [b189_169, if_neg eneg, ev, b189_187, ew, cI_of (e28 _ _)]
    rw [if_pos rfl, cI_of (e2)]
    rw [if_pos rfl, if_pos elt, b189_240, nI_1]
  | some i =>
    have hik : i < k := (fst_some hfh).1
    obtain ⟨hw, h7, hft⟩ := hwf i q hik hqp hfh
    have ev : nI (cnt (vqB (m 0) k) q) + 0 = nI (cnt (vqB (m 0) k) (q + 1)) := by
      show _ = nI (cnt _ q + (if vqB (m 0) k q = true then 1 else 0))
      have : vqB (m 0) k q = false := by unfold vqB; rw [hfh]; rfl
      rw [this]; exact Int32.add_zero _
    have ew : sm (wgL (m 0) k) q + m 0 13 q = sm (wgL (m 0) k) (q + 1) := by
      show _ = sm _ q + wgL (m 0) k q
      have : wgL (m 0) k q = m 0 13 q := by unfold wgL; rw [hfh]; rfl
      rw [this]
    obtain ⟨p9, p10, p11, e1⟩ := pst_in (G := G) (A := A) (n := n) (r := r) (H := H) hf ho hn hk hp hq h0 hqp d (nI (cnt (vqB (m 0) k) q)) (sm (wgL (m 0) k) q) (m 0 2 i) k 0 (by omega) o9 o10 o11
    rw [est.1, est.2.1, est.2.2] at e1
    obtain ⟨n2, r2, a1, a2, a3, e2⟩ := e27 n r
    refine ⟨n2, r2, some (.int (m 0 2 i)), some (.int (nI (cnt (cdB (m 0) q) k))), some (.int (bsI (m 0) (best (cdB (m 0) q) (orB (m 0)) k))), some (.int (nI k)), p9, p10, p11, by omega, by omega, by omega, ?_⟩
    rw [s24 hqp hfh hn hk hp hq hid (d + 1)]
    show run G (d + 6) 189 36 _ [] (S A H m n r) = _
    rw [e1, b189_36]
    have hge : (0 : Int32) ≤ m 0 2 i := Int32.not_lt.mp (h0 i hik)
    have hng : ¬ m 0 2 i < 0 := h0 i hik
    simp (disch := first | assumption | omega | (refine sbh ?_ ?_ <;> first | assumption | omega) | (refine sbPV ?_ ?_ <;> first | assumption | omega)) only [rcB0, ↓rfB0_0b, ↓rfB0_1b, ↓rfB0_2b, ↓wfB0_2b, rcB1, ↓rfB1_0b, ↓wfB1_0b, ↓rfB1_1b, ↓wfB1_1b, ↓rfB1_2b, ↓rfB1_3b, ↓rfB1_4b, ↓rfB1_5b, ↓rfB1_6b, ↓rfB1_7b, ↓rfB1_8b, ↓raB2b, ↓waB2b, ↓naB2b, ↓raB3b, ↓waB3b, ↓naB3b, ↓raB4b, ↓waB4b, ↓naB4b, ↓raB5b, ↓waB5b, ↓naB5b, ↓raB6b, ↓waB6b, ↓naB6b, ↓raB7b, ↓waB7b, ↓naB7b, ↓raB8b, ↓waB8b, ↓naB8b, rcB9, ↓rfB9_0b, ↓wfB9_0b, ↓rfB9_1b, ↓rfB9_2b, ↓rfB9_3b, ↓rfB9_4b, ↓raB10b, ↓waB10b, ↓naB10b, ↓raB11b, ↓waB11b, ↓naB11b, ↓raB12b, ↓waB12b, ↓naB12b, ↓raB13b, ↓waB13b, ↓naB13b, rcX0, ↓rfX0_0b, ↓rfX0_1b, ↓rfX0_2b, ↓rfX0_3b, ↓rfX0_4b, ↓wfX0_4b, ↓rfX0_5b, ↓wfX0_5b, ↓rfX0_6b, ↓rfX0_7b, ↓rfX0_8b, ↓rfX0_9b, ↓wfX0_9b, ↓rfX0_10b, ↓wfX0_10b, rcX2, ↓rfX2_0b, ↓rfX2_1b, ↓rfX2_2b, ↓rfX2_3b, ↓rfX2_4b, ↓rfX2_5b, ↓raX3b, ↓waX3b, ↓naX3b, ↓raX4b, ↓waX4b, ↓naX4b, ↓raX5b, ↓waX5b, ↓naX5b, ↓raX6b, ↓waX6b, ↓naX6b, ↓raX7b, ↓waX7b, ↓raX7L0b, ↓waX7L0b, ↓naX7b, ↓raX8b, ↓waX8b, ↓naX8b, rcX11, ↓rfX11_0b, ↓rfX11_1b, ↓wfX11_1b, ↓rfX11_2b, ↓rfX11_3b, ↓wfX11_3b, ↓rfX11_4b, ↓wfX11_4b, ↓rfX11_5b, ↓wfX11_5b, ↓rfX11_6b, ↓rfX11_7b, ↓wfX11_7b, ↓raX12b, ↓waX12b, ↓naX12b, ↓raX13b, ↓waX13b, ↓naX13b, ↓raX14b, ↓waX14b, ↓raX14L0b, ↓waX14L0b, ↓raX14L1b, ↓waX14L1b, ↓raX14L2b, ↓waX14L2b, ↓naX14b, ↓caB2b, ↓caB2Lb, ↓caB3b, ↓caB3Lb, ↓caB4b, ↓caB4Lb, ↓caB5b, ↓caB5Lb, ↓caB6b, ↓caB6Lb, ↓caB7b, ↓caB7Lb, ↓caB8b, ↓caB8Lb, ↓caB10b, ↓caB10Lb, ↓caB11b, ↓caB11Lb, ↓caB12b, ↓caB12Lb, ↓caB13b, ↓caB13Lb, ↓raHb, ↓raH0b, ↓waHb, ↓waH7b, Option.bind_some, cI_ok, cR_ok, cV_ok, cN_ok, cN_nu, cI_ex, cR_ex, cV_ex, gI_sm, gR_sm, sb_eq, sb_sb, wexc_S, ↓reduceIte, eq_self, vI_def, vV_def, vR_def, nI_1, true_and, and_true, ↓s48c, nI_leI, Nat.le_refl, hge]
    rw [b189_169, if_pos hge, ev, cI_of (s23 hqp hp hq (d + 1))]
    rw [b189_187, ew, cI_of (e28 _ _)]
    rw [if_pos rfl, cI_of (e2)]
    rw [if_pos rfl, if_neg hng]
    simp (disch := first | assumption | omega | (refine sbh ?_ ?_ <;> first | assumption | omega) | (refine sbPV ?_ ?_ <;> first | assumption | omega)) only [rcB0, ↓rfB0_0b, ↓rfB0_1b, ↓rfB0_2b, ↓wfB0_2b, rcB1, ↓rfB1_0b, ↓wfB1_0b, ↓rfB1_1b, ↓wfB1_1b, ↓rfB1_2b, ↓rfB1_3b, ↓rfB1_4b, ↓rfB1_5b, ↓rfB1_6b, ↓rfB1_7b, ↓rfB1_8b, ↓raB2b, ↓waB2b, ↓naB2b, ↓raB3b, ↓waB3b, ↓naB3b, ↓raB4b, ↓waB4b, ↓naB4b, ↓raB5b, ↓waB5b, ↓naB5b, ↓raB6b, ↓waB6b, ↓naB6b, ↓raB7b, ↓waB7b, ↓naB7b, ↓raB8b, ↓waB8b, ↓naB8b, rcB9, ↓rfB9_0b, ↓wfB9_0b, ↓rfB9_1b, ↓rfB9_2b, ↓rfB9_3b, ↓rfB9_4b, ↓raB10b, ↓waB10b, ↓naB10b, ↓raB11b, ↓waB11b, ↓naB11b, ↓raB12b, ↓waB12b, ↓naB12b, ↓raB13b, ↓waB13b, ↓naB13b, rcX0, ↓rfX0_0b, ↓rfX0_1b, ↓rfX0_2b, ↓rfX0_3b, ↓rfX0_4b, ↓wfX0_4b, ↓rfX0_5b, ↓wfX0_5b, ↓rfX0_6b, ↓rfX0_7b, ↓rfX0_8b, ↓rfX0_9b, ↓wfX0_9b, ↓rfX0_10b, ↓wfX0_10b, rcX2, ↓rfX2_0b, ↓rfX2_1b, ↓rfX2_2b, ↓rfX2_3b, ↓rfX2_4b, ↓rfX2_5b, ↓raX3b, ↓waX3b, ↓naX3b, ↓raX4b, ↓waX4b, ↓naX4b, ↓raX5b, ↓waX5b, ↓naX5b, ↓raX6b, ↓waX6b, ↓naX6b, ↓raX7b, ↓waX7b, ↓raX7L0b, ↓waX7L0b, ↓naX7b, ↓raX8b, ↓waX8b, ↓naX8b, rcX11, ↓rfX11_0b, ↓rfX11_1b, ↓wfX11_1b, ↓rfX11_2b, ↓rfX11_3b, ↓wfX11_3b, ↓rfX11_4b, ↓wfX11_4b, ↓rfX11_5b, ↓wfX11_5b, ↓rfX11_6b, ↓rfX11_7b, ↓wfX11_7b, ↓raX12b, ↓waX12b, ↓naX12b, ↓raX13b, ↓waX13b, ↓naX13b, ↓raX14b, ↓waX14b, ↓raX14L0b, ↓waX14L0b, ↓raX14L1b, ↓waX14L1b, ↓raX14L2b, ↓waX14L2b, ↓naX14b, ↓caB2b, ↓caB2Lb, ↓caB3b, ↓caB3Lb, ↓caB4b, ↓caB4Lb, ↓caB5b, ↓caB5Lb, ↓caB6b, ↓caB6Lb, ↓caB7b, ↓caB7Lb, ↓caB8b, ↓caB8Lb, ↓caB10b, ↓caB10Lb, ↓caB11b, ↓caB11Lb, ↓caB12b, ↓caB12Lb, ↓caB13b, ↓caB13Lb, ↓raHb, ↓raH0b, ↓waHb, ↓waH7b, Option.bind_some, cI_ok, cR_ok, cV_ok, cN_ok, cN_nu, cI_ex, cR_ex, cV_ex, gI_sm, gR_sm, sb_eq, sb_sb, wexc_S, ↓reduceIte, eq_self, vI_def, vV_def, vR_def, nI_1, true_and, and_true, ↓s10c, h7, ↓s42c, hft, bI_t, not1]
    rw [b189_240, nI_1]
/-- the favourite of an applicant -/
theorem pst_fv (hf : ∀ i, i < k → fx (m 0) k (m 0 2 i) = some i) (hn : m 0 1 0 = nI k) (hk : k ≤ 10) (hp : m 0 9 0 = nI p) (hq : p ≤ 6) {i : Nat} (hi : i < k) (d : Nat) (x2 x3 x4 : Int32) (o8 o9 o10 o11 : Option Value) : ∀ t j, j + t = p → run G (d + 6) 189 273 [some (.ref (ad A 11 0)), some (.int (nI p)), some (.int x2), some (.int x3), some (.int x4), some (.int (m 0 2 i)), some (.int (fvI (best (ftB (m 0) i) (poB (m 0)) j))), some (.int (nI j)), o8, o9, o10, o11] [] (S A H m n r) = run G (d + 6) 189 273 [some (.ref (ad A 11 0)), some (.int (nI p)), some (.int x2), some (.int x3), some (.int x4), some (.int (m 0 2 i)), some (.int (fvI (best (ftB (m 0) i) (poB (m 0)) p))), some (.int (nI p)), o8, o9, o10, o11] [] (S A H m n r) := by
  intro t
  induction t with
  | zero =>
    intro j hj
    have : j = p := by omega
    subst this; rfl
  | succ t ih =>
    intro j hj
    have hjp : j < p := by omega
    have hle : ¬ p ≤ j := by omega
    rw [b189_273]
    simp (disch := first | assumption | omega | (refine sbh ?_ ?_ <;> first | assumption | omega) | (refine sbPV ?_ ?_ <;> first | assumption | omega)) only [rcB0, ↓rfB0_0b, ↓rfB0_1b, ↓rfB0_2b, ↓wfB0_2b, rcB1, ↓rfB1_0b, ↓wfB1_0b, ↓rfB1_1b, ↓wfB1_1b, ↓rfB1_2b, ↓rfB1_3b, ↓rfB1_4b, ↓rfB1_5b, ↓rfB1_6b, ↓rfB1_7b, ↓rfB1_8b, ↓raB2b, ↓waB2b, ↓naB2b, ↓raB3b, ↓waB3b, ↓naB3b, ↓raB4b, ↓waB4b, ↓naB4b, ↓raB5b, ↓waB5b, ↓naB5b, ↓raB6b, ↓waB6b, ↓naB6b, ↓raB7b, ↓waB7b, ↓naB7b, ↓raB8b, ↓waB8b, ↓naB8b, rcB9, ↓rfB9_0b, ↓wfB9_0b, ↓rfB9_1b, ↓rfB9_2b, ↓rfB9_3b, ↓rfB9_4b, ↓raB10b, ↓waB10b, ↓naB10b, ↓raB11b, ↓waB11b, ↓naB11b, ↓raB12b, ↓waB12b, ↓naB12b, ↓raB13b, ↓waB13b, ↓naB13b, rcX0, ↓rfX0_0b, ↓rfX0_1b, ↓rfX0_2b, ↓rfX0_3b, ↓rfX0_4b, ↓wfX0_4b, ↓rfX0_5b, ↓wfX0_5b, ↓rfX0_6b, ↓rfX0_7b, ↓rfX0_8b, ↓rfX0_9b, ↓wfX0_9b, ↓rfX0_10b, ↓wfX0_10b, rcX2, ↓rfX2_0b, ↓rfX2_1b, ↓rfX2_2b, ↓rfX2_3b, ↓rfX2_4b, ↓rfX2_5b, ↓raX3b, ↓waX3b, ↓naX3b, ↓raX4b, ↓waX4b, ↓naX4b, ↓raX5b, ↓waX5b, ↓naX5b, ↓raX6b, ↓waX6b, ↓naX6b, ↓raX7b, ↓waX7b, ↓raX7L0b, ↓waX7L0b, ↓naX7b, ↓raX8b, ↓waX8b, ↓naX8b, rcX11, ↓rfX11_0b, ↓rfX11_1b, ↓wfX11_1b, ↓rfX11_2b, ↓rfX11_3b, ↓wfX11_3b, ↓rfX11_4b, ↓wfX11_4b, ↓rfX11_5b, ↓wfX11_5b, ↓rfX11_6b, ↓rfX11_7b, ↓wfX11_7b, ↓raX12b, ↓waX12b, ↓naX12b, ↓raX13b, ↓waX13b, ↓naX13b, ↓raX14b, ↓waX14b, ↓raX14L0b, ↓waX14L0b, ↓raX14L1b, ↓waX14L1b, ↓raX14L2b, ↓waX14L2b, ↓naX14b, ↓caB2b, ↓caB2Lb, ↓caB3b, ↓caB3Lb, ↓caB4b, ↓caB4Lb, ↓caB5b, ↓caB5Lb, ↓caB6b, ↓caB6Lb, ↓caB7b, ↓caB7Lb, ↓caB8b, ↓caB8Lb, ↓caB10b, ↓caB10Lb, ↓caB11b, ↓caB11Lb, ↓caB12b, ↓caB12Lb, ↓caB13b, ↓caB13Lb, ↓raHb, ↓raH0b, ↓waHb, ↓waH7b, Option.bind_some, cI_ok, cR_ok, cV_ok, cN_ok, cN_nu, cI_ex, cR_ex, cV_ex, gI_sm, gR_sm, sb_eq, sb_sb, wexc_S, ↓reduceIte, eq_self, vI_def, vV_def, vR_def, nI_1, true_and, and_true, nI_leI, hle, ↓s42c]
    cases hft : ftB (m 0) i j with
    | false =>
      have eb : best (ftB (m 0) i) (poB (m 0)) (j + 1) = best (ftB (m 0) i) (poB (m 0)) j := by
        rw [best_s, hft]
        cases best (ftB (m 0) i) (poB (m 0)) j with
        | none => rfl
        | some u => exact if_neg (fun z => by cases z.1)
      simp (disch := first | assumption | omega | (refine sbh ?_ ?_ <;> first | assumption | omega) | (refine sbPV ?_ ?_ <;> first | assumption | omega)) only [rcB0, ↓rfB0_0b, ↓rfB0_1b, ↓rfB0_2b, ↓wfB0_2b, rcB1, ↓rfB1_0b, ↓wfB1_0b, ↓rfB1_1b, ↓wfB1_1b, ↓rfB1_2b, ↓rfB1_3b, ↓rfB1_4b, ↓rfB1_5b, ↓rfB1_6b, ↓rfB1_7b, ↓rfB1_8b, ↓raB2b, ↓waB2b, ↓naB2b, ↓raB3b, ↓waB3b, ↓naB3b, ↓raB4b, ↓waB4b, ↓naB4b, ↓raB5b, ↓waB5b, ↓naB5b, ↓raB6b, ↓waB6b, ↓naB6b, ↓raB7b, ↓waB7b, ↓naB7b, ↓raB8b, ↓waB8b, ↓naB8b, rcB9, ↓rfB9_0b, ↓wfB9_0b, ↓rfB9_1b, ↓rfB9_2b, ↓rfB9_3b, ↓rfB9_4b, ↓raB10b, ↓waB10b, ↓naB10b, ↓raB11b, ↓waB11b, ↓naB11b, ↓raB12b, ↓waB12b, ↓naB12b, ↓raB13b, ↓waB13b, ↓naB13b, rcX0, ↓rfX0_0b, ↓rfX0_1b, ↓rfX0_2b, ↓rfX0_3b, ↓rfX0_4b, ↓wfX0_4b, ↓rfX0_5b, ↓wfX0_5b, ↓rfX0_6b, ↓rfX0_7b, ↓rfX0_8b, ↓rfX0_9b, ↓wfX0_9b, ↓rfX0_10b, ↓wfX0_10b, rcX2, ↓rfX2_0b, ↓rfX2_1b, ↓rfX2_2b, ↓rfX2_3b, ↓rfX2_4b, ↓rfX2_5b, ↓raX3b, ↓waX3b, ↓naX3b, ↓raX4b, ↓waX4b, ↓naX4b, ↓raX5b, ↓waX5b, ↓naX5b, ↓raX6b, ↓waX6b, ↓naX6b, ↓raX7b, ↓waX7b, ↓raX7L0b, ↓waX7L0b, ↓naX7b, ↓raX8b, ↓waX8b, ↓naX8b, rcX11, ↓rfX11_0b, ↓rfX11_1b, ↓wfX11_1b, ↓rfX11_2b, ↓rfX11_3b, ↓wfX11_3b, ↓rfX11_4b, ↓wfX11_4b, ↓rfX11_5b, ↓wfX11_5b, ↓rfX11_6b, ↓rfX11_7b, ↓wfX11_7b, ↓raX12b, ↓waX12b, ↓naX12b, ↓raX13b, ↓waX13b, ↓naX13b, ↓raX14b, ↓waX14b, ↓raX14L0b, ↓waX14L0b, ↓raX14L1b, ↓waX14L1b, ↓raX14L2b, ↓waX14L2b, ↓naX14b, ↓caB2b, ↓caB2Lb, ↓caB3b, ↓caB3Lb, ↓caB4b, ↓caB4Lb, ↓caB5b, ↓caB5Lb, ↓caB6b, ↓caB6Lb, ↓caB7b, ↓caB7Lb, ↓caB8b, ↓caB8Lb, ↓caB10b, ↓caB10Lb, ↓caB11b, ↓caB11Lb, ↓caB12b, ↓caB12Lb, ↓caB13b, ↓caB13Lb, ↓raHb, ↓raH0b, ↓waHb, ↓waH7b, Option.bind_some, cI_ok, cR_ok, cV_ok, cN_ok, cN_nu, cI_ex, cR_ex, cV_ex, gI_sm, gR_sm, sb_eq, sb_sb, wexc_S, ↓reduceIte, eq_self, vI_def, vV_def, vR_def, nI_1, true_and, and_true, bI_f]
      rw [b189_311, b189_313, nI_1, ← eb]
      exact ih (j + 1) (by omega)
    | true =>
      simp (disch := first | assumption | omega | (refine sbh ?_ ?_ <;> first | assumption | omega) | (refine sbPV ?_ ?_ <;> first | assumption | omega)) only [rcB0, ↓rfB0_0b, ↓rfB0_1b, ↓rfB0_2b, ↓wfB0_2b, rcB1, ↓rfB1_0b, ↓wfB1_0b, ↓rfB1_1b, ↓wfB1_1b, ↓rfB1_2b, ↓rfB1_3b, ↓rfB1_4b, ↓rfB1_5b, ↓rfB1_6b, ↓rfB1_7b, ↓rfB1_8b, ↓raB2b, ↓waB2b, ↓naB2b, ↓raB3b, ↓waB3b, ↓naB3b, ↓raB4b, ↓waB4b, ↓naB4b, ↓raB5b, ↓waB5b, ↓naB5b, ↓raB6b, ↓waB6b, ↓naB6b, ↓raB7b, ↓waB7b, ↓naB7b, ↓raB8b, ↓waB8b, ↓naB8b, rcB9, ↓rfB9_0b, ↓wfB9_0b, ↓rfB9_1b, ↓rfB9_2b, ↓rfB9_3b, ↓rfB9_4b, ↓raB10b, ↓waB10b, ↓naB10b, ↓raB11b, ↓waB11b, ↓naB11b, ↓raB12b, ↓waB12b, ↓naB12b, ↓raB13b, ↓waB13b, ↓naB13b, rcX0, ↓rfX0_0b, ↓rfX0_1b, ↓rfX0_2b, ↓rfX0_3b, ↓rfX0_4b, ↓wfX0_4b, ↓rfX0_5b, ↓wfX0_5b, ↓rfX0_6b, ↓rfX0_7b, ↓rfX0_8b, ↓rfX0_9b, ↓wfX0_9b, ↓rfX0_10b, ↓wfX0_10b, rcX2, ↓rfX2_0b, ↓rfX2_1b, ↓rfX2_2b, ↓rfX2_3b, ↓rfX2_4b, ↓rfX2_5b, ↓raX3b, ↓waX3b, ↓naX3b, ↓raX4b, ↓waX4b, ↓naX4b, ↓raX5b, ↓waX5b, ↓naX5b, ↓raX6b, ↓waX6b, ↓naX6b, ↓raX7b, ↓waX7b, ↓raX7L0b, ↓waX7L0b, ↓naX7b, ↓raX8b, ↓waX8b, ↓naX8b, rcX11, ↓rfX11_0b, ↓rfX11_1b, ↓wfX11_1b, ↓rfX11_2b, ↓rfX11_3b, ↓wfX11_3b, ↓rfX11_4b, ↓wfX11_4b, ↓rfX11_5b, ↓wfX11_5b, ↓rfX11_6b, ↓rfX11_7b, ↓wfX11_7b, ↓raX12b, ↓waX12b, ↓naX12b, ↓raX13b, ↓waX13b, ↓naX13b, ↓raX14b, ↓waX14b, ↓raX14L0b, ↓waX14L0b, ↓raX14L1b, ↓waX14L1b, ↓raX14L2b, ↓waX14L2b, ↓naX14b, ↓caB2b, ↓caB2Lb, ↓caB3b, ↓caB3Lb, ↓caB4b, ↓caB4Lb, ↓caB5b, ↓caB5Lb, ↓caB6b, ↓caB6Lb, ↓caB7b, ↓caB7Lb, ↓caB8b, ↓caB8Lb, ↓caB10b, ↓caB10Lb, ↓caB11b, ↓caB11Lb, ↓caB12b, ↓caB12Lb, ↓caB13b, ↓caB13Lb, ↓raHb, ↓raH0b, ↓waHb, ↓waH7b, Option.bind_some, cI_ok, cR_ok, cV_ok, cN_ok, cN_nu, cI_ex, cR_ex, cV_ex, gI_sm, gR_sm, sb_eq, sb_sb, wexc_S, ↓reduceIte, eq_self, vI_def, vV_def, vR_def, nI_1, true_and, and_true, bI_t, not1]
      cases hb : best (ftB (m 0) i) (poB (m 0)) j with
      | none =>
        have eb : best (ftB (m 0) i) (poB (m 0)) (j + 1) = some j := by rw [best_s, hb, hft]; rfl
        rw [if_pos (by show (-13 : Int32) < 0; decide), b189_306, b189_313, nI_1]
        have := ih (j + 1) (by omega)
        rw [eb] at this
        exact this
      | some u =>
        obtain ⟨hu, -⟩ := best_lt hb
        have hup : u < p := by omega
        rw [if_neg (show ¬ fvI (some u) < 0 from nI_pos (by omega))]
        show cI (call G (d + 5) 97 [.ref (ad A 11 0), .int (nI j), .int (nI u)] (S A H m n r)) _ = _
        rw [cI_of (s97 hjp hup hp hq (d + 1))]
        have := ih (j + 1) (by omega)
        cases hpo : poB (m 0) j u with
        | true =>
          have eb : best (ftB (m 0) i) (poB (m 0)) (j + 1) = some j := by rw [best_s, hb]; exact if_pos ⟨hft, hpo⟩
          rw [eb] at this
          rw [bI_t, if_neg not1, b189_306, b189_313, nI_1]
          exact this
        | false =>
          have eb : best (ftB (m 0) i) (poB (m 0)) (j + 1) = some u := by rw [best_s, hb]; exact if_neg (fun z => by rw [hpo] at z; cases z.2)
          rw [eb] at this
          rw [bI_f, if_pos rfl, b189_311, b189_313, nI_1]
          exact this
/-- the turn of an applicant -/
theorem pst_a (hf : ∀ i, i < k → fx (m 0) k (m 0 2 i) = some i) (hn : m 0 1 0 = nI k) (hk : k ≤ 10) (hp : m 0 9 0 = nI p) (hq : p ≤ 6) (hv : PV (m 0) k p) (h12 : ∀ q, q < p → ¬ m 0 12 q = 50 → m 0 12 q < 50) {i : Nat} (hi : i < k) (d : Nat) (x2 x3 : Int32) (o5 o6 o7 o8 o9 o10 o11 : Option Value) : ∃ n' r' o5' o6' o7' o8', n ≤ n' ∧ n' ≤ n + 3 ∧ r' ≤ r + 18 ∧ run G (d + 6) 189 249 [some (.ref (ad A 11 0)), some (.int (nI p)), some (.int x2), some (.int x3), some (.int (nI i)), o5, o6, o7, o8, o9, o10, o11] [] (S A H m n r) = run G (d + 6) 189 249 [some (.ref (ad A 11 0)), some (.int (nI p)), some (.int x2), some (.int x3), some (.int (nI (i + 1))), o5', o6', o7', o8', o9, o10, o11] [] (S A H m n' r') := by
  have hle : ¬ k ≤ i := by omega
  have hfv := pst_fv (G := G) (A := A) (n := n) (r := r) (H := H) hf hn hk hp hq hi d x2 x3 (nI i) o8 o9 o10 o11 p 0 (by omega)
  have e00 : fvI (best (ftB (m 0) i) (poB (m 0)) 0) = -13 ∧ nI 0 = 0 := ⟨rfl, rfl⟩
  rw [e00.1, e00.2] at hfv
  have e26 : ∀ n r, ∃ n' r', n ≤ n' ∧ n' ≤ n + 1 ∧ r' ≤ r + 6 ∧ call G (d + 5) 26 [.ref (ad A 11 0), .int (m 0 2 i)] (S A H m n r) = vI (fvI (best (ftB (m 0) i) (poB (m 0)) p)) (S A H m n' r') := by
    intro n r
    cases hb : best (ftB (m 0) i) (poB (m 0)) p with
    | none => exact ⟨n + 1, r + 6, by omega, by omega, by omega, s26e hi hb hf hn hk hp hq (d + 1)⟩
    | some q => exact ⟨n, r, by omega, by omega, by omega, s26 hi hb hf hn hk hp hq (d + 1)⟩
  -- behind the days
  have fin : ∀ (x : Int32) (n r n1 r1 : Nat) o7, (∀ n r, ∃ n' r', n ≤ n' ∧ n' ≤ n + 1 ∧ r' ≤ r + 6 ∧ call G (d + 5) 33 [.ref (ad A 11 0), .int (m 0 2 i)] (S A H m n r) = vI x (S A H m n' r')) → ∃ n' r' o5' o6' o7' o8', n ≤ n' ∧ n' ≤ n + 2 ∧ r' ≤ r + 12 ∧ run G (d + 6) 189 365 [some (.ref (ad A 11 0)), some (.int (nI p)), some (.int x2), some (.int x3), some (.int (nI i)), some (.int (m 0 2 i)), some (.int (fvI (best (ftB (m 0) i) (poB (m 0)) p))), o7, o8, o9, o10, o11] [.int x] (S A H m n r) = run G (d + 6) 189 249 [some (.ref (ad A 11 0)), some (.int (nI p)), some (.int x2), some (.int x3), some (.int (nI (i + 1))), o5', o6', o7', o8', o9, o10, o11] [] (S A H m n' r') := by
    intro x n r _ _ o7 h33
    obtain ⟨n1, r1, a1, a2, a3, e1⟩ := e26 n r
    obtain ⟨n2, r2, b1, b2, b3, e2⟩ := h33 n1 r1
    refine ⟨n2, r2, some (.int (m 0 2 i)), some (.int (fvI (best (ftB (m 0) i) (poB (m 0)) p))), o7, some (.int x), by omega, by omega, by omega, ?_⟩
    rw [b189_365, cI_of (e1)]
    rw [if_pos rfl, cI_of (e2)]
    rw [if_pos rfl, nI_1]
  rw [b189_249]
  simp (disch := first | assumption | omega | (refine sbh ?_ ?_ <;> first | assumption | omega) | (refine sbPV ?_ ?_ <;> first | assumption | omega)) only [rcB0, ↓rfB0_0b, ↓rfB0_1b, ↓rfB0_2b, ↓wfB0_2b, rcB1, ↓rfB1_0b, ↓wfB1_0b, ↓rfB1_1b, ↓wfB1_1b, ↓rfB1_2b, ↓rfB1_3b, ↓rfB1_4b, ↓rfB1_5b, ↓rfB1_6b, ↓rfB1_7b, ↓rfB1_8b, ↓raB2b, ↓waB2b, ↓naB2b, ↓raB3b, ↓waB3b, ↓naB3b, ↓raB4b, ↓waB4b, ↓naB4b, ↓raB5b, ↓waB5b, ↓naB5b, ↓raB6b, ↓waB6b, ↓naB6b, ↓raB7b, ↓waB7b, ↓naB7b, ↓raB8b, ↓waB8b, ↓naB8b, rcB9, ↓rfB9_0b, ↓wfB9_0b, ↓rfB9_1b, ↓rfB9_2b, ↓rfB9_3b, ↓rfB9_4b, ↓raB10b, ↓waB10b, ↓naB10b, ↓raB11b, ↓waB11b, ↓naB11b, ↓raB12b, ↓waB12b, ↓naB12b, ↓raB13b, ↓waB13b, ↓naB13b, rcX0, ↓rfX0_0b, ↓rfX0_1b, ↓rfX0_2b, ↓rfX0_3b, ↓rfX0_4b, ↓wfX0_4b, ↓rfX0_5b, ↓wfX0_5b, ↓rfX0_6b, ↓rfX0_7b, ↓rfX0_8b, ↓rfX0_9b, ↓wfX0_9b, ↓rfX0_10b, ↓wfX0_10b, rcX2, ↓rfX2_0b, ↓rfX2_1b, ↓rfX2_2b, ↓rfX2_3b, ↓rfX2_4b, ↓rfX2_5b, ↓raX3b, ↓waX3b, ↓naX3b, ↓raX4b, ↓waX4b, ↓naX4b, ↓raX5b, ↓waX5b, ↓naX5b, ↓raX6b, ↓waX6b, ↓naX6b, ↓raX7b, ↓waX7b, ↓raX7L0b, ↓waX7L0b, ↓naX7b, ↓raX8b, ↓waX8b, ↓naX8b, rcX11, ↓rfX11_0b, ↓rfX11_1b, ↓wfX11_1b, ↓rfX11_2b, ↓rfX11_3b, ↓wfX11_3b, ↓rfX11_4b, ↓wfX11_4b, ↓rfX11_5b, ↓wfX11_5b, ↓rfX11_6b, ↓rfX11_7b, ↓wfX11_7b, ↓raX12b, ↓waX12b, ↓naX12b, ↓raX13b, ↓waX13b, ↓naX13b, ↓raX14b, ↓waX14b, ↓raX14L0b, ↓waX14L0b, ↓raX14L1b, ↓waX14L1b, ↓raX14L2b, ↓waX14L2b, ↓naX14b, ↓caB2b, ↓caB2Lb, ↓caB3b, ↓caB3Lb, ↓caB4b, ↓caB4Lb, ↓caB5b, ↓caB5Lb, ↓caB6b, ↓caB6Lb, ↓caB7b, ↓caB7Lb, ↓caB8b, ↓caB8Lb, ↓caB10b, ↓caB10Lb, ↓caB11b, ↓caB11Lb, ↓caB12b, ↓caB12Lb, ↓caB13b, ↓caB13Lb, ↓raHb, ↓raH0b, ↓waHb, ↓waH7b, Option.bind_some, cI_ok, cR_ok, cV_ok, cN_ok, cN_nu, cI_ex, cR_ex, cV_ex, gI_sm, gR_sm, sb_eq, sb_sb, wexc_S, ↓reduceIte, eq_self, vI_def, vV_def, vR_def, nI_1, true_and, and_true, ↓s48c, nI_leI, hle, ↓s5c]
  rw [hfv, b189_273]
  rw [if_pos (Int32.le_refl _)]
  cases hw : waB (m 0) i with
  | true =>
    have elt : (-13 : Int32) < 0 := by decide
    rw [cI_of (s10w hi hw hf hn hk (d + 1))]
    rw [if_pos elt, b189_345]
    obtain ⟨n2, r2, p5, p6, p7, p8, a1, a2, a3, e1⟩ := fin (-13) (n + 1) (r + 6) 0 0 (some (.int (-13))) (fun n r => ⟨n + 1, r + 6, by omega, by omega, by omega, s33w hi hw hf hn hk (d + 1)⟩)
    exact ⟨n2, r2, p5, p6, p7, p8, by omega, by omega, by omega, e1⟩
  | false =>
    obtain ⟨q, hqp, e7⟩ : ∃ q, q < p ∧ m 0 7 i = nI q := by
      rcases hv i hi with h | h
      · unfold waB at hw; rw [h] at hw; exact absurd hw (by decide)
      · exact h
    have eq : qB (m 0) i = q := by unfold qB; rw [e7]; exact nI_clamp (by omega)
    have e1 : ¬ (nI q < 0) := nI_pos (by omega)
    rw [cI_of (s10 hi hw hf hn hk (d + 1)), e7]
    rw [if_neg e1, cI_of (s22 hqp hp hq (d + 1))]
    by_cases h50 : m 0 12 q = 50
    · rw [if_pos h50, b189_345]
      obtain ⟨n2, r2, p5, p6, p7, p8, a1, a2, a3, e1⟩ := fin (-13) n r 0 0 (some (.int (nI q))) (fun n r => ⟨n + 1, r + 6, by omega, by omega, by omega, s33e hi hw (by rw [eq, h50]; decide) hf hn hk hp hq hv (d + 1)⟩)
      exact ⟨n2, r2, p5, p6, p7, p8, by omega, by omega, by omega, e1⟩
    · rw [if_neg h50]
      by_cases hlt : m 0 12 q < 50
      · rw [cI_of (s22 hqp hp hq (d + 1))]
        rw [cI_of (s7 hi hf hn hk (d + 2))]
        obtain ⟨n2, r2, p5, p6, p7, p8, a1, a2, a3, e1⟩ := fin (m 0 12 q - m 0 5 i + 1) n r 0 0 (some (.int (nI q))) (fun n r => ⟨n, r, by omega, by omega, by omega, by
          have := s33 (G := G) (A := A) (n := n) (r := r) (H := H) hi hw (by rw [eq]; exact hlt) hf hn hk hp hq hv (d + 1)
          rw [eq] at this
          exact this⟩)
        exact ⟨n2, r2, p5, p6, p7, p8, by omega, by omega, by omega, e1⟩
      · exact absurd (h12 q hqp h50) hlt
theorem s5z (hn : m 0 1 0 = nI k) (hk : k ≤ 10) (hk0 : 0 < k) (d : Nat) : call G (d + 2) 5 [.ref (ad A 11 0), .int 0] (S A H m n r) = vI (m 0 2 0) (S A H m n r) := s5 (i := 0) hk0 hn hk d
/-- all of it -/
theorem s5zc (hn : m 0 1 0 = nI k) (hk : k ≤ 10) (hk0 : 0 < k) (d : Nat) (K : Int32 → St → Res) : cI (call G (d + 2) 5 [.ref (ad A 11 0), .int 0] (S A H m n r)) K = K (m 0 2 0) (S A H m n r) := congrArg (fun z => cI z K) (show call G (d + 2) 5 [.ref (ad A 11 0), .int 0] (S A H m n r) = vI (m 0 2 0) (S A H m n r) from by apply s5z <;> assumption)
theorem s189 (hf : ∀ i, i < k → fx (m 0) k (m 0 2 i) = some i) (ho : ∀ i j, i < k → j < k → (m 0 2 j ≤ m 0 2 i ↔ j ≤ i)) (hn : m 0 1 0 = nI k) (hk : k ≤ 10) (hp : m 0 9 0 = nI p) (hq : p ≤ 6) (hv : PV (m 0) k p) (hid : ∀ i, i < k → ¬ m 0 2 i = -1) (hk0 : 0 < k) (hp0 : 0 < p) (h0 : ∀ i, i < k → ¬ m 0 2 i < 0) (hwf : ∀ i q, i < k → q < p → fh (m 0) k (nI q) = some i → waB (m 0) i = false ∧ m 0 7 i = nI q ∧ ftB (m 0) i q = true) (h12 : ∀ q, q < p → ¬ m 0 12 q = 50 → m 0 12 q < 50) (hvac : bcI (vac (m 0) p k) = nI (cnt (vqB (m 0) k) p)) (hwg : sm (pwB (m 0)) k = sm (wgL (m 0) k) p) (hm1 : fx (m 0) k (-1) = none)
    (hnan : FP.fdiv (FP.i2f (nI p - nI (cnt (vqB (m 0) k) p))) (FP.i2f (nI p)) &&& 0x7fffffff ≤ 0x7f800000) (hcmp : Op.cmpValue (FP.fcmp (FP.fdiv (FP.i2f (nI p - nI (cnt (vqB (m 0) k) p))) (FP.i2f (nI p))) (FP.fdiv (FP.i2f (nI p - nI (cnt (vqB (m 0) k) p))) (FP.i2f (nI p)))) .l = 0) (d n r : Nat) : GO A H m n r 80 1 (call G (d + 6) 189 [.ref (ad A 11 0)] (S A H m n r)) := by
  have hne : ¬ nI p = 0 := by
    rw [show (0 : Int32) = nI 0 from rfl, nI_eq (by omega) (by omega)]; omega
  have hnk : ¬ nI k = 0 := by
    rw [show (0 : Int32) = nI 0 from rfl, nI_eq (by omega) (by omega)]; omega
  have lp : ∀ t q, q + t = p → ∀ n r o5 o6 o7 o8 o9 o10 o11, ∃ n' r' o5' o6' o7' o8' o9' o10' o11', n ≤ n' ∧ n' ≤ n + 2 * t ∧ r' ≤ r + 12 * t ∧ run G (d + 6) 189 12 [some (.ref (ad A 11 0)), some (.int (nI p)), some (.int (nI (cnt (vqB (m 0) k) q))), some (.int (sm (wgL (m 0) k) q)), some (.int (nI q)), o5, o6, o7, o8, o9, o10, o11] [] (S A H m n r) = run G (d + 6) 189 12 [some (.ref (ad A 11 0)), some (.int (nI p)), some (.int (nI (cnt (vqB (m 0) k) p))), some (.int (sm (wgL (m 0) k) p)), some (.int (nI p)), o5', o6', o7', o8', o9', o10', o11'] [] (S A H m n' r') := by
    intro t
    induction t with
    | zero =>
      intro q hqq n r o5 o6 o7 o8 o9 o10 o11
      have : q = p := by omega
      subst this
      exact ⟨n, r, o5, o6, o7, o8, o9, o10, o11, Nat.le_refl _, Nat.le_refl _, Nat.le_refl _, rfl⟩
    | succ t ih =>
      intro q hqq n r o5 o6 o7 o8 o9 o10 o11
      obtain ⟨n1, r1, p5, p6, p7, p8, p9, p10, p11, a1, a2, a3, e1⟩ := pst_q (G := G) (A := A) (n := n) (r := r) (H := H) hf ho hn hk hp hq hid h0 hwf (q := q) (by omega) d o5 o6 o7 o8 o9 o10 o11
      obtain ⟨n2, r2, q5, q6, q7, q8, q9, q10, q11, b1, b2, b3, e2⟩ := ih (q + 1) (by omega) n1 r1 p5 p6 p7 p8 p9 p10 p11
      exact ⟨n2, r2, q5, q6, q7, q8, q9, q10, q11, by omega, by omega, by omega, e1.trans e2⟩
  have lp2 : ∀ t i, i + t = k → ∀ n r x2 x3 o5 o6 o7 o8 o9 o10 o11, ∃ n' r' o5' o6' o7' o8', n ≤ n' ∧ n' ≤ n + 3 * t ∧ r' ≤ r + 18 * t ∧ run G (d + 6) 189 249 [some (.ref (ad A 11 0)), some (.int (nI p)), some (.int x2), some (.int x3), some (.int (nI i)), o5, o6, o7, o8, o9, o10, o11] [] (S A H m n r) = run G (d + 6) 189 249 [some (.ref (ad A 11 0)), some (.int (nI p)), some (.int x2), some (.int x3), some (.int (nI k)), o5', o6', o7', o8', o9, o10, o11] [] (S A H m n' r') := by
    intro t
    induction t with
    | zero =>
      intro i hi n r x2 x3 o5 o6 o7 o8 o9 o10 o11
      have : i = k := by omega
      subst this
      exact ⟨n, r, o5, o6, o7, o8, Nat.le_refl _, Nat.le_refl _, Nat.le_refl _, rfl⟩
    | succ t ih =>
      intro i hi n r x2 x3 o5 o6 o7 o8 o9 o10 o11
      obtain ⟨n1, r1, p5, p6, p7, p8, a1, a2, a3, e1⟩ := pst_a (G := G) (A := A) (n := n) (r := r) (H := H) hf hn hk hp hq hv h12 (i := i) (by omega) d x2 x3 o5 o6 o7 o8 o9 o10 o11
      obtain ⟨n2, r2, q5, q6, q7, q8, b1, b2, b3, e2⟩ := ih (i + 1) (by omega) n1 r1 x2 x3 p5 p6 p7 p8 o9 o10 o11
      exact ⟨n2, r2, q5, q6, q7, q8, by omega, by omega, by omega, e1.trans e2⟩
  obtain ⟨n1, r1, o5, o6, o7, o8, o9, o10, o11, a1, a2, a3, e1⟩ := lp p 0 (by omega) n r none none none none none none none
  have e00 : nI (cnt (vqB (m 0) k) 0) = 0 := rfl
  have e01 : sm (wgL (m 0) k) 0 = 0 := rfl
  have e02 : nI 0 = 0 := rfl
  rw [e00, e01, e02] at e1
  obtain ⟨n2, r2, u5, u6, u7, u8, b1, b2, b3, e2⟩ := lp2 k 0 (by omega) n1 r1 (nI (cnt (vqB (m 0) k) p)) (sm (wgL (m 0) k) p) o5 o6 o7 o8 o9 o10 o11
  rw [e02] at e2
  have e13 : inR (nI p) 0 (nI p - 1) = false := inR_out (by omega)
  have e14 : inR (-1) 0 (nI p - 1) = false := inR_m1
  have e90 := s90 (G := G) (A := A) (n := n2) (r := r2) (H := H) hn hk hp hq hne (by rw [hvac]; exact hnan) (d + 2)
  rw [hvac] at e90
  rw [b189_e]
  simp (disch := first | assumption | omega | (refine sbh ?_ ?_ <;> first | assumption | omega) | (refine sbPV ?_ ?_ <;> first | assumption | omega)) only [rcB0, ↓rfB0_0b, ↓rfB0_1b, ↓rfB0_2b, ↓wfB0_2b, rcB1, ↓rfB1_0b, ↓wfB1_0b, ↓rfB1_1b, ↓wfB1_1b, ↓rfB1_2b, ↓rfB1_3b, ↓rfB1_4b, ↓rfB1_5b, ↓rfB1_6b, ↓rfB1_7b, ↓rfB1_8b, ↓raB2b, ↓waB2b, ↓naB2b, ↓raB3b, ↓waB3b, ↓naB3b, ↓raB4b, ↓waB4b, ↓naB4b, ↓raB5b, ↓waB5b, ↓naB5b, ↓raB6b, ↓waB6b, ↓naB6b, ↓raB7b, ↓waB7b, ↓naB7b, ↓raB8b, ↓waB8b, ↓naB8b, rcB9, ↓rfB9_0b, ↓wfB9_0b, ↓rfB9_1b, ↓rfB9_2b, ↓rfB9_3b, ↓rfB9_4b, ↓raB10b, ↓waB10b, ↓naB10b, ↓raB11b, ↓waB11b, ↓naB11b, ↓raB12b, ↓waB12b, ↓naB12b, ↓raB13b, ↓waB13b, ↓naB13b, rcX0, ↓rfX0_0b, ↓rfX0_1b, ↓rfX0_2b, ↓rfX0_3b, ↓rfX0_4b, ↓wfX0_4b, ↓rfX0_5b, ↓wfX0_5b, ↓rfX0_6b, ↓rfX0_7b, ↓rfX0_8b, ↓rfX0_9b, ↓wfX0_9b, ↓rfX0_10b, ↓wfX0_10b, rcX2, ↓rfX2_0b, ↓rfX2_1b, ↓rfX2_2b, ↓rfX2_3b, ↓rfX2_4b, ↓rfX2_5b, ↓raX3b, ↓waX3b, ↓naX3b, ↓raX4b, ↓waX4b, ↓naX4b, ↓raX5b, ↓waX5b, ↓naX5b, ↓raX6b, ↓waX6b, ↓naX6b, ↓raX7b, ↓waX7b, ↓raX7L0b, ↓waX7L0b, ↓naX7b, ↓raX8b, ↓waX8b, ↓naX8b, rcX11, ↓rfX11_0b, ↓rfX11_1b, ↓wfX11_1b, ↓rfX11_2b, ↓rfX11_3b, ↓wfX11_3b, ↓rfX11_4b, ↓wfX11_4b, ↓rfX11_5b, ↓wfX11_5b, ↓rfX11_6b, ↓rfX11_7b, ↓wfX11_7b, ↓raX12b, ↓waX12b, ↓naX12b, ↓raX13b, ↓waX13b, ↓naX13b, ↓raX14b, ↓waX14b, ↓raX14L0b, ↓waX14L0b, ↓raX14L1b, ↓waX14L1b, ↓raX14L2b, ↓waX14L2b, ↓naX14b, ↓caB2b, ↓caB2Lb, ↓caB3b, ↓caB3Lb, ↓caB4b, ↓caB4Lb, ↓caB5b, ↓caB5Lb, ↓caB6b, ↓caB6Lb, ↓caB7b, ↓caB7Lb, ↓caB8b, ↓caB8Lb, ↓caB10b, ↓caB10Lb, ↓caB11b, ↓caB11Lb, ↓caB12b, ↓caB12Lb, ↓caB13b, ↓caB13Lb, ↓raHb, ↓raH0b, ↓waHb, ↓waH7b, Option.bind_some, cI_ok, cR_ok, cV_ok, cN_ok, cN_nu, cI_ex, cR_ex, cV_ex, gI_sm, gR_sm, sb_eq, sb_sb, wexc_S, ↓reduceIte, eq_self, vI_def, vV_def, vR_def, nI_1, true_and, and_true, ↓s66c]
  rw [e1, b189_12, if_pos (Int32.le_refl _), e2, b189_249]
  simp (disch := first | assumption | omega | (refine sbh ?_ ?_ <;> first | assumption | omega) | (refine sbPV ?_ ?_ <;> first | assumption | omega)) only [rcB0, ↓rfB0_0b, ↓rfB0_1b, ↓rfB0_2b, ↓wfB0_2b, rcB1, ↓rfB1_0b, ↓wfB1_0b, ↓rfB1_1b, ↓wfB1_1b, ↓rfB1_2b, ↓rfB1_3b, ↓rfB1_4b, ↓rfB1_5b, ↓rfB1_6b, ↓rfB1_7b, ↓rfB1_8b, ↓raB2b, ↓waB2b, ↓naB2b, ↓raB3b, ↓waB3b, ↓naB3b, ↓raB4b, ↓waB4b, ↓naB4b, ↓raB5b, ↓waB5b, ↓naB5b, ↓raB6b, ↓waB6b, ↓naB6b, ↓raB7b, ↓waB7b, ↓naB7b, ↓raB8b, ↓waB8b, ↓naB8b, rcB9, ↓rfB9_0b, ↓wfB9_0b, ↓rfB9_1b, ↓rfB9_2b, ↓rfB9_3b, ↓rfB9_4b, ↓raB10b, ↓waB10b, ↓naB10b, ↓raB11b, ↓waB11b, ↓naB11b, ↓raB12b, ↓waB12b, ↓naB12b, ↓raB13b, ↓waB13b, ↓naB13b, rcX0, ↓rfX0_0b, ↓rfX0_1b, ↓rfX0_2b, ↓rfX0_3b, ↓rfX0_4b, ↓wfX0_4b, ↓rfX0_5b, ↓wfX0_5b, ↓rfX0_6b, ↓rfX0_7b, ↓rfX0_8b, ↓rfX0_9b, ↓wfX0_9b, ↓rfX0_10b, ↓wfX0_10b, rcX2, ↓rfX2_0b, ↓rfX2_1b, ↓rfX2_2b, ↓rfX2_3b, ↓rfX2_4b, ↓rfX2_5b, ↓raX3b, ↓waX3b, ↓naX3b, ↓raX4b, ↓waX4b, ↓naX4b, ↓raX5b, ↓waX5b, ↓naX5b, ↓raX6b, ↓waX6b, ↓naX6b, ↓raX7b, ↓waX7b, ↓raX7L0b, ↓waX7L0b, ↓naX7b, ↓raX8b, ↓waX8b, ↓naX8b, rcX11, ↓rfX11_0b, ↓rfX11_1b, ↓wfX11_1b, ↓rfX11_2b, ↓rfX11_3b, ↓wfX11_3b, ↓rfX11_4b, ↓wfX11_4b, ↓rfX11_5b, ↓wfX11_5b, ↓rfX11_6b, ↓rfX11_7b, ↓wfX11_7b, ↓raX12b, ↓waX12b, ↓naX12b, ↓raX13b, ↓waX13b, ↓naX13b, ↓raX14b, ↓waX14b, ↓raX14L0b, ↓waX14L0b, ↓raX14L1b, ↓waX14L1b, ↓raX14L2b, ↓waX14L2b, ↓naX14b, ↓caB2b, ↓caB2Lb, ↓caB3b, ↓caB3Lb, ↓caB4b, ↓caB4Lb, ↓caB5b, ↓caB5Lb, ↓caB6b, ↓caB6Lb, ↓caB7b, ↓caB7Lb, ↓caB8b, ↓caB8Lb, ↓caB10b, ↓caB10Lb, ↓caB11b, ↓caB11Lb, ↓caB12b, ↓caB12Lb, ↓caB13b, ↓caB13Lb, ↓raHb, ↓raH0b, ↓waHb, ↓waH7b, Option.bind_some, cI_ok, cR_ok, cV_ok, cN_ok, cN_nu, cI_ex, cR_ex, cV_ex, gI_sm, gR_sm, sb_eq, sb_sb, wexc_S, ↓reduceIte, eq_self, vI_def, vV_def, vR_def, nI_1, true_and, and_true, ↓s48c, nI_leI, Nat.le_refl]
  rw [if_neg hne, e90]
  show GO A H m n r 80 1 (if _ then _ else none)
  rw [if_pos hnan, if_pos hcmp, b189_416, b189_421, if_neg not1]
  simp (disch := first | assumption | omega | (refine sbh ?_ ?_ <;> first | assumption | omega) | (refine sbPV ?_ ?_ <;> first | assumption | omega)) only [rcB0, ↓rfB0_0b, ↓rfB0_1b, ↓rfB0_2b, ↓wfB0_2b, rcB1, ↓rfB1_0b, ↓wfB1_0b, ↓rfB1_1b, ↓wfB1_1b, ↓rfB1_2b, ↓rfB1_3b, ↓rfB1_4b, ↓rfB1_5b, ↓rfB1_6b, ↓rfB1_7b, ↓rfB1_8b, ↓raB2b, ↓waB2b, ↓naB2b, ↓raB3b, ↓waB3b, ↓naB3b, ↓raB4b, ↓waB4b, ↓naB4b, ↓raB5b, ↓waB5b, ↓naB5b, ↓raB6b, ↓waB6b, ↓naB6b, ↓raB7b, ↓waB7b, ↓naB7b, ↓raB8b, ↓waB8b, ↓naB8b, rcB9, ↓rfB9_0b, ↓wfB9_0b, ↓rfB9_1b, ↓rfB9_2b, ↓rfB9_3b, ↓rfB9_4b, ↓raB10b, ↓waB10b, ↓naB10b, ↓raB11b, ↓waB11b, ↓naB11b, ↓raB12b, ↓waB12b, ↓naB12b, ↓raB13b, ↓waB13b, ↓naB13b, rcX0, ↓rfX0_0b, ↓rfX0_1b, ↓rfX0_2b, ↓rfX0_3b, ↓rfX0_4b, ↓wfX0_4b, ↓rfX0_5b, ↓wfX0_5b, ↓rfX0_6b, ↓rfX0_7b, ↓rfX0_8b, ↓rfX0_9b, ↓wfX0_9b, ↓rfX0_10b, ↓wfX0_10b, rcX2, ↓rfX2_0b, ↓rfX2_1b, ↓rfX2_2b, ↓rfX2_3b, ↓rfX2_4b, ↓rfX2_5b, ↓raX3b, ↓waX3b, ↓naX3b, ↓raX4b, ↓waX4b, ↓naX4b, ↓raX5b, ↓waX5b, ↓naX5b, ↓raX6b, ↓waX6b, ↓naX6b, ↓raX7b, ↓waX7b, ↓raX7L0b, ↓waX7L0b, ↓naX7b, ↓raX8b, ↓waX8b, ↓naX8b, rcX11, ↓rfX11_0b, ↓rfX11_1b, ↓wfX11_1b, ↓rfX11_2b, ↓rfX11_3b, ↓wfX11_3b, ↓rfX11_4b, ↓wfX11_4b, ↓rfX11_5b, ↓wfX11_5b, ↓rfX11_6b, ↓rfX11_7b, ↓wfX11_7b, ↓raX12b, ↓waX12b, ↓naX12b, ↓raX13b, ↓waX13b, ↓naX13b, ↓raX14b, ↓waX14b, ↓raX14L0b, ↓waX14L0b, ↓raX14L1b, ↓waX14L1b, ↓raX14L2b, ↓waX14L2b, ↓naX14b, ↓caB2b, ↓caB2Lb, ↓caB3b, ↓caB3Lb, ↓caB4b, ↓caB4Lb, ↓caB5b, ↓caB5Lb, ↓caB6b, ↓caB6Lb, ↓caB7b, ↓caB7Lb, ↓caB8b, ↓caB8Lb, ↓caB10b, ↓caB10Lb, ↓caB11b, ↓caB11Lb, ↓caB12b, ↓caB12Lb, ↓caB13b, ↓caB13Lb, ↓raHb, ↓raH0b, ↓waHb, ↓waH7b, Option.bind_some, cI_ok, cR_ok, cV_ok, cN_ok, cN_nu, cI_ex, cR_ex, cV_ex, gI_sm, gR_sm, sb_eq, sb_sb, wexc_S, ↓reduceIte, eq_self, vI_def, vV_def, vR_def, nI_1, true_and, and_true, ↓s67c, hvac, ↓s88c, hwg, ↓s24nc, e13, ↓s28nc, ↓s27nc, e14, ↓s20nc, ↓s21nc, ↓s22nc, ↓s23nc, ↓s25nc, hm1, ↓s48c, hnk, ↓s5zc]
  rw [cI_of (s25m (i := 0) hk0 e13 hf hn hk hp hq (d + 1)), if_pos rfl]
  refine ⟨_, _, rfl, ?_, ?_, ?_⟩ <;> omega
end
