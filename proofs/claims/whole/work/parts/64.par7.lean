/-! THE LAW'S LOOP, part 9: the commands are run. -/
theorem sh16_nar (x : Int32) : sh16 (vp_nar .char x) = vp_nar .char x := by
  show (((x.toUInt32 % 65536).toInt32).toUInt32 % 65536).toInt32 = (x.toUInt32 % 65536).toInt32
  rw [UInt32.toUInt32_toInt32]
  congr 1
  apply UInt32.toNat_inj.mp
  rw [UInt32.toNat_mod, UInt32.toNat_mod]
  exact Nat.mod_mod _ _
theorem runC_WZ (c : Nat → Int32) {L cc : Nat} (hL : L ≤ 60) : ∀ (t : Nat) (B Z : Bd), WZ Z L → t ≤ cc → (∀ j, j < cc → ∃ a, a ≤ L ∧ Z 13 j = nI a) → WZ (runC c L cc t B Z).2.2 L := by
  intro t
  induction t with
  | zero => intro B Z hz _ _; exact hz
  | succ t ih =>
    intro B Z hz ht hj
    rw [runC_s]
    obtain ⟨a, ha, ea⟩ := hj (cc - (t + 1)) (by omega)
    obtain ⟨_, z2, _⟩ := WZ_em hz
    have ec : (Z 13 (cc - (t + 1))).toNatClampNeg = a := by rw [ea]; exact nI_clamp (by omega)
    rw [ec]
    obtain ⟨l1, l2⟩ := ra_le (c := c) (a := a) ha 9 a (stO Z) ha z2
    have hE : WZ (em Z (ra c L a 9 a (stO Z)).2) L := ⟨by rw [em_f (by omega) (by omega) (by omega)]; exact hz.1, hL, ⟨_, Nat.le_trans l1 hL, em_4 ..⟩, ⟨_, l2, em_7 ..⟩⟩
    have h13 : ∀ j, em Z (ra c L a 9 a (stO Z)).2 13 j = Z 13 j := fun j => by rw [em_o (by omega) (by omega)]
    cases hr : (ra c L a 9 a (stO Z)).1 with
    | none => exact hE
    | some k =>
      dsimp only
      generalize em Z (ra c L a 9 a (stO Z)).2 = E at *
      have hP : WZ (pf B E (kO B) (pO B) k).2.2 L := WZ_c hE fun i => by rw [pf_Z (by omega) (by omega)]
      split
      · exact ih _ _ hP (by omega) (fun j hjc => by
          obtain ⟨b, hb, eb⟩ := hj j hjc
          exact ⟨b, hb, by rw [pf_Z (by omega) (by omega), h13]; exact eb⟩)
      · exact hP
theorem LJ_rd {A : Nat} {H0 : Hp} {mm M : Mm} {D D' : Bd} {s s' : Nat → Int32} {H H' : Hp} {n r t n' r' t' : Nat} (h : LJ A H0 mm D s H n r t) (ht : t ≤ t') (hM : ∀ b, b ≠ 0 → b ≠ 1 → b ≠ 11 → b ≠ 12 → M b = mm b) (h0 : RE (M 0) s' (2970 * t')) (hX0 : ∀ i, i ≠ 9 → i ≠ 10 → M 11 0 i = mm 11 0 i) (hX1 : ∀ i, M 11 1 i = mm 11 1 i) (hZ : WZ (M 11) 0) (hD0 : ∀ i, i = 3 ∨ i = 5 ∨ i = 8 → D' 0 i = D 0 i) (hDc : ∀ c, 3 ≤ c → c < 7 → D' c = D c) (h10 : D' 0 10 = 0) (hE1 : LEr (M 11 0 9) (D' 0 13)) (hE2 : LEr (M 11 0 10) (D' 0 14)) (hE : HE A H H') (hx : LX A H') (hsb : SBK A H n H' n') (hn : n' + 2 * t ≤ n + 2 * t') (hr : r' + 70 * t ≤ r + 70 * t') : LJ A H0 (sb M 12 (us D' 1 s')) D' s' H' n' r' t' := by
  obtain ⟨h12, ⟨C, hC, hR, hU, hS⟩, ⟨L, z1, z2, z3⟩, _, hO, hHE, hLX⟩ := h
  have mo : ∀ Y b, b ≠ 12 → sb M 12 Y b = M b := fun Y b h => sb_ne h
  have hU' := LU_le hU (C' := 2970 * t') (by omega)
  have hS' := LSv_le hS (C' := 2970 * t') (by omega)
  refine ⟨sb_eq .., ⟨2970 * t', Nat.le_refl _, by rw [mo _ 0 (by omega)]; exact h0, ?_, ?_⟩, ⟨0, by rw [mo _ 11 (by omega)]; exact hZ, h10, fun i hi => absurd hi (Nat.not_lt_zero i)⟩, ⟨by rw [mo _ 11 (by omega)]; exact hE1, by rw [mo _ 11 (by omega)]; exact hE2⟩, LO_c hO hsb (hD0 8 (by omega)) (hDc 5 (by omega) (by omega)) (by omega) (by omega), HE_trans hHE hE, hx⟩
  · exact LU_c hU' (fun b h3 h11 => by rw [mo _ b (by omega), hM b (by omega) (by omega) (by omega) (by omega)]) (by rw [mo _ 11 (by omega), hX0 4 (by omega) (by omega)]) (fun i => by rw [mo _ 11 (by omega), hX1]) (hD0 5 (by omega)) (hDc 4 (by omega) (by omega))
  · exact LSv_c hS' (by rw [mo _ 2 (by omega), hM 2 (by omega) (by omega) (by omega) (by omega)]) (by rw [mo _ 11 (by omega), hX0 5 (by omega) (by omega)]) (hD0 3 (by omega)) (hDc 3 (by omega) (by omega))
