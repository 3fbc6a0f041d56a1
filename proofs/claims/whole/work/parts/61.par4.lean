/-! THE LAW'S LOOP, part 6: output, input, undo, saving. -/
theorem nar_asc : ∀ c, c < 128 → vp_nar .char (nI c) = nI c := by decide +kernel
theorem LU_c {mm mm' : Mm} {D D' : Bd} {C : Nat} (h : LU mm D C) (hm : ∀ b, 3 ≤ b → b < 11 → mm' b = mm b) (h4 : mm' 11 0 4 = mm 11 0 4) (h1 : ∀ i, mm' 11 1 i = mm 11 1 i) (hD5 : D' 0 5 = D 0 5) (hD4 : D' 4 = D 4) : LU mm' D' C := by
  obtain ⟨u, a1, a2, a3, a4, a5, a6⟩ := h
  refine ⟨u, a1, by rw [h4]; exact a2, by rw [hD5]; exact a3, HW_c a4 h1, HD_c a5 h1, fun v hv => ?_⟩
  have e : hix (mm' 11) v = hix (mm 11) v := by unfold hix; rw [h1]
  obtain ⟨b1, b2, _⟩ := hix_e a4 (show v < 8 by omega)
  rw [e, hm _ b1 b2]
  have := a6 v hv
  unfold pst at this ⊢
  rw [hD4]; exact this
theorem LSv_c {mm mm' : Mm} {D D' : Bd} {C : Nat} (h : LSv mm D C) (h2 : mm' 2 = mm 2) (h5 : mm' 11 0 5 = mm 11 0 5) (hD3 : D' 0 3 = D 0 3) (hDr : D' 3 = D 3) : LSv mm' D' C := by
  rcases h with ⟨a, b⟩ | ⟨a, b, c⟩
  · exact Or.inl ⟨by rw [h5]; exact a, by rw [hD3]; exact b⟩
  · exact Or.inr ⟨by rw [h5]; exact a, by rw [hD3]; exact b, by rw [h2, hDr]; exact c⟩
theorem LO_c {A n r t n' r' t' : Nat} {H H' : Hp} {D D' : Bd} (h : LO A H n r D t) (hsb : SBK A H n H' n') (h8 : D' 0 8 = D 0 8) (h5 : D' 5 = D 5) (hn : n' + 2 * t ≤ n + 2 * t') (hr : r' + 70 * t ≤ r + 70 * t') : LO A H' n' r' D' t' := by
  obtain ⟨cap, tx, ⟨o1, o2, o3, o4⟩, o5, o6⟩ := h
  exact ⟨cap, tx, ⟨hsb cap tx o1, o2, by rw [h8]; exact o3, fun i hi => by rw [h5]; exact o4 i hi⟩, by omega, by omega⟩
section
variable {G : Glb} {A n r t : Nat} {H H0 : Hp} {mm : Mm} {D : Bd} {s : Nat → Int32}
theorem P_37 (hgb : GB G) (hgs : GS G) (hL : LJ A H0 mm D s H n r t) (x : Int32) : PAIR G A H0 mm H n r t 37 285 [.int x] [.int x] oJ := by
  obtain ⟨_, _, _, _, ⟨cap, tx, ⟨o1, o2, o3, o4⟩, _⟩, _⟩ := id hL
  cases hx : inR x 0 (nI tx.length - 1) with
  | false => exact PQ_x hL not1 (w37_x1 rcX0 (s93n o1 hx _) (by decide +kernel)) (s285n o3 hx _)
  | true =>
    obtain ⟨i, hi, rfl⟩ := (inR_nI (by omega)).mp hx
    obtain ⟨c, c1, c2, c3⟩ := o4 i hi
    exact PQ_v hL (w37_v rcX0 (s93 hgb hgs o1 hi c1 c2 _) (lC_w (LJ_lx hL) _)) (s285 o3 hi (by omega) _) (by rw [c3, nar_asc c c1])
theorem P_38 (hL : LJ A H0 mm D s H n r t) (x : Int32) : PAIR G A H0 mm H n r t 38 286 [.int x] [.int x] oJ := by
  obtain ⟨h12, ⟨C, hC, hR, hU, hS⟩, ⟨L, z1, z2, z3⟩, ⟨hE1, hE2⟩, hO, hHE, hLX⟩ := id hL
  obtain ⟨w1, w2, w3, w4⟩ := id z1
  by_cases hl : L < 60
  · have hw : call G 40 38 [.ref (ad A 11 0), .int x, .ref (A + 177)] (S A H mm n r) = vI 0 (S A (hset H (A + 177) (lC (nI (L + 1)).toInt64)) (sb mm 11 (ud (ud (mm 11) 12 L x) 11 1 (nI (L + 1)))) n r) := w38_v rcX0 (s95 w1 hl x _) (lC_w hLX _)
    have hq := s286 (G := G) (A := A) (n := n) (r := r) (H := hset H (A + 177) (lC (nI (L + 1)).toInt64)) (m := sb mm 11 (ud (ud (mm 11) 12 L x) 11 1 (nI (L + 1)))) (D := D) (s := s) hl z2 x 40
    rw [LJ_mm hL (mm' := sb mm 11 (ud (ud (mm 11) 12 L x) 11 1 (nI (L + 1)))) (sb_ne (by omega))] at hq
    generalize hX : ud (ud (mm 11) 12 L x) 11 1 (nI (L + 1)) = X at hw hq
    generalize hDD : ud (ud (ud D 0 6 0) 6 L x) 0 10 (nI (L + 1)) = D' at hq
    have m11 : ∀ Y, sb (sb mm 11 X) 12 Y 11 = X := fun Y => by rw [sb_ne (by omega), sb_eq]
    have mo : ∀ Y b, b ≠ 11 → b ≠ 12 → sb (sb mm 11 X) 12 Y b = mm b := fun Y b h1 h2 => by rw [sb_ne h2, sb_ne h1]
    have x0 : ∀ c, c ≠ 11 → c ≠ 12 → X c = mm 11 c := fun c h1 h2 => by rw [← hX, ud_nc h1, ud_nc h2]
    have x11 : ∀ i, i ≠ 1 → X 11 i = mm 11 11 i := fun i h => by rw [← hX, ud_ni h, ud_nc (by omega)]
    have x12 : ∀ i, X 12 i = if i = L then x else mm 11 12 i := fun i => by rw [← hX, ud_nc (by omega), ud_i]
    have d0 : ∀ i, i ≠ 6 → i ≠ 10 → D' 0 i = D 0 i := fun i h6 h10 => by rw [← hDD, ud_ni h10, ud_nc (by omega), ud_ni h6]
    have dc : ∀ c, c ≠ 0 → c ≠ 6 → D' c = D c := fun c h0 h6 => by rw [← hDD, ud_nc h0, ud_nc h6, ud_nc h0]
    have d6 : ∀ i, D' 6 i = if i = L then x else D 6 i := fun i => by rw [← hDD, ud_nc (by omega), ud_i, ud_nc (by omega)]
    refine ⟨0, nI (L + 1), sb mm 11 X, _, n, r, D', s, _, n, r, hw, hq, by rw [← hDD, ud_ni (by omega), ud_nc (by omega), ud_eq], fun _ => hset_at .., HE_set (by omega), HE_set (by omega), sb_eq .., ⟨C, by omega, by rw [mo _ 0 (by omega) (by omega)]; exact hR, ?_, ?_⟩, ⟨L + 1, ⟨?_, by omega, ?_, ?_⟩, by rw [← hDD, ud_eq], fun i hi => ?_⟩, ⟨?_, ?_⟩, ?_, HE_trans hHE (HE_set (by omega)), LX_177 hLX _⟩
    · exact LU_c hU (fun b h3 h11 => mo _ b (by omega) (by omega)) (by rw [m11, x0 0 (by omega) (by omega)]) (fun i => by rw [m11, x0 1 (by omega) (by omega)]) (d0 5 (by omega) (by omega)) (dc 4 (by omega) (by omega))
    · exact LSv_c hS (mo _ 2 (by omega) (by omega)) (by rw [m11, x0 0 (by omega) (by omega)]) (d0 3 (by omega) (by omega)) (dc 3 (by omega) (by omega))
    · rw [m11, ← hX, ud_eq]
    · obtain ⟨a, a1, a2⟩ := w3
      exact ⟨a, a1, by rw [m11, x11 4 (by omega)]; exact a2⟩
    · obtain ⟨a, a1, a2⟩ := w4
      exact ⟨a, a1, by rw [m11, x11 7 (by omega)]; exact a2⟩
    · rw [m11, x12, d6]
      by_cases e : i = L
      · rw [if_pos e, if_pos e]
      · rw [if_neg e, if_neg e]; exact z3 i (by omega)
    · rw [m11, x0 0 (by omega) (by omega), d0 13 (by omega) (by omega)]; exact hE1
    · rw [m11, x0 0 (by omega) (by omega), d0 14 (by omega) (by omega)]; exact hE2
    · exact LO_c hO (SBK_q (by omega) (Or.inl (by omega)) (Nat.le_refl _)) (d0 8 (by omega) (by omega)) (dc 5 (by omega) (by omega)) (by omega) (by omega)
  · have e60 : L = 60 := by omega
    subst e60
    exact PQ_x hL not1 (w38_x1 rcX0 (s95n (by rw [w1]; decide) x _) (by decide +kernel)) (s286n z2 x _)
theorem lt0_nI {e : Nat} (h : e < 2 ^ 31) : ¬ nI e < 0 := nI_pos h
theorem P_40 (hL : LJ A H0 mm D s H n r t) : PAIR G A H0 mm H n r t 40 295 [] [] oJ := by
  obtain ⟨_, _, _, ⟨hE1, hE2⟩, _⟩ := id hL
  rcases hE1 with ⟨e1, e2⟩ | ⟨e, e60, e1, e2⟩
  · exact PQ_x hL not1 (w40_x1 rcX0 (s97n e1 _) (by decide +kernel)) (s295n (by rw [e2]; decide) _)
  · exact PQ_v hL (w40_v rcX0 (s97 (by rw [e1]; exact nI_nm1 (by omega)) _) (lC_w (LJ_lx hL) _)) (s295 (by rw [e2]; exact lt0_nI (by omega)) _) (by rw [e1, e2])
theorem P_41 (hL : LJ A H0 mm D s H n r t) : PAIR G A H0 mm H n r t 41 296 [] [] oJ := by
  obtain ⟨_, _, _, ⟨hE1, hE2⟩, _⟩ := id hL
  rcases hE2 with ⟨e1, e2⟩ | ⟨e, e60, e1, e2⟩
  · exact PQ_x hL not1 (w41_x1 rcX0 (s98n e1 _) (by decide +kernel)) (s296n (by rw [e2]; decide) _)
  · exact PQ_v hL (w41_v rcX0 (s98 (by rw [e1]; exact nI_nm1 (by omega)) _) (lC_w (LJ_lx hL) _)) (s296 (by rw [e2]; exact lt0_nI (by omega)) _) (by rw [e1, e2])
theorem P_42 (hL : LJ A H0 mm D s H n r t) : PAIR G A H0 mm H n r t 42 297 [] [] oJ := by
  obtain ⟨h12, ⟨C, hC, hR, ⟨u, a1, a2, a3, a4, a5, a6⟩, hS⟩, ⟨L, z1, z2, z3⟩, ⟨hE1, hE2⟩, hO, hHE, hLX⟩ := id hL
  cases u with
  | zero => exact PQ_x hL not1 (w42_x1 rcX0 (s99n a2 _) (by decide +kernel)) (s297n a3 _)
  | succ v =>
    obtain ⟨b1, b2, b3⟩ := hix_e a4 (show v < 8 by omega)
    have hw : call G 40 42 [.ref (ad A 11 0), .ref (A + 177)] (S A H mm n r) = vI 0 (S A (hset H (A + 177) (lC (nI v).toInt64)) (sb (sb mm 11 (ud (mm 11) 0 4 (nI v))) 0 (cpB (mm 0) (mm (hix (mm 11) v)))) n r) := w42_v rcX0 (s99 (by omega) a2 b1 b2 b3 _) (lC_w hLX _)
    have hq := s297 (G := G) (A := A) (n := n) (r := r) (H := hset H (A + 177) (lC (nI v).toInt64)) (m := sb (sb mm 11 (ud (mm 11) 0 4 (nI v))) 0 (cpB (mm 0) (mm (hix (mm 11) v)))) (D := D) (s := s) (v := v) (by omega) a3 40
    rw [LJ_mm hL (mm' := sb (sb mm 11 (ud (mm 11) 0 4 (nI v))) 0 (cpB (mm 0) (mm (hix (mm 11) v)))) (by rw [sb_ne (by omega), sb_ne (by omega)])] at hq
    generalize hX : ud (mm 11) 0 4 (nI v) = X at hw hq
    generalize hB : cpB (mm 0) (mm (hix (mm 11) v)) = B' at hw hq
    generalize hDD : ud (ud D 0 6 0) 0 5 (nI v) = D' at hq
    generalize hs : cpf (D 4) s (93 * v) 0 93 = s' at hq
    have m11 : ∀ Y, sb (sb (sb mm 11 X) 0 B') 12 Y 11 = X := fun Y => by rw [sb_ne (by omega), sb_ne (by omega), sb_eq]
    have mo : ∀ Y b, b ≠ 0 → b ≠ 11 → b ≠ 12 → sb (sb (sb mm 11 X) 0 B') 12 Y b = mm b := fun Y b h0 h1 h2 => by rw [sb_ne h2, sb_ne h0, sb_ne h1]
    have m0 : ∀ Y, sb (sb (sb mm 11 X) 0 B') 12 Y 0 = B' := fun Y => by rw [sb_ne (by omega), sb_eq]
    have xc : ∀ c, c ≠ 0 → X c = mm 11 c := fun c h => by rw [← hX, ud_nc h]
    have x0 : ∀ i, i ≠ 4 → X 0 i = mm 11 0 i := fun i h => by rw [← hX, ud_ni h]
    have d0 : ∀ i, i ≠ 6 → i ≠ 5 → D' 0 i = D 0 i := fun i h6 h5 => by rw [← hDD, ud_ni h5, ud_ni h6]
    have dc : ∀ c, c ≠ 0 → D' c = D c := fun c h0 => by rw [← hDD, ud_nc h0, ud_nc h0]
    have hR' : RE B' s' C := by
      rw [← hB, ← hs]
      exact RE_cp (a6 v (by omega)) (fun j hj => by
        unfold pst cpf
        rw [if_pos (by omega)]
        congr 1; omega) (Nat.le_refl _)
    refine ⟨0, nI v, sb (sb mm 11 X) 0 B', _, n, r, D', s', _, n, r, hw, hq, by rw [← hDD, ud_ni (by omega), ud_eq], fun _ => hset_at .., HE_set (by omega), HE_set (by omega), sb_eq .., ⟨C, by omega, by rw [m0]; exact hR', ⟨v, by omega, by rw [m11, ← hX, ud_eq], by rw [← hDD, ud_eq], ?_, ?_, fun w hw => ?_⟩, ?_⟩, ⟨L, ?_, by rw [d0 10 (by omega) (by omega)]; exact z2, fun i hi => ?_⟩, ⟨?_, ?_⟩, ?_, HE_trans hHE (HE_set (by omega)), LX_177 hLX _⟩
    · rw [m11]; exact HW_c a4 fun i => by rw [xc 1 (by omega)]
    · rw [m11]; exact HD_c a5 fun i => by rw [xc 1 (by omega)]
    · obtain ⟨c1, c2, _⟩ := hix_e a4 (show w < 8 by omega)
      have e : hix (sb (sb (sb mm 11 X) 0 B') 12 (us D' 1 s') 11) w = hix (mm 11) w := by unfold hix; rw [m11, xc 1 (by omega)]
      rw [e, mo _ _ (by omega) (by omega) (by omega)]
      have := a6 w (by omega)
      unfold pst at this ⊢
      rw [dc 4 (by omega)]; exact this
    · exact LSv_c hS (mo _ 2 (by omega) (by omega) (by omega)) (by rw [m11, x0 5 (by omega)]) (d0 3 (by omega) (by omega)) (dc 3 (by omega))
    · rw [m11]; exact WZ_c z1 fun i => by rw [xc 11 (by omega)]
    · rw [m11, xc 12 (by omega), dc 6 (by omega)]; exact z3 i hi
    · rw [m11, x0 9 (by omega), d0 13 (by omega) (by omega)]; exact hE1
    · rw [m11, x0 10 (by omega), d0 14 (by omega) (by omega)]; exact hE2
    · exact LO_c hO (SBK_q (by omega) (Or.inl (by omega)) (Nat.le_refl _)) (d0 8 (by omega) (by omega)) (dc 5 (by omega)) (by omega) (by omega)
theorem P_43 (hL : LJ A H0 mm D s H n r t) : PAIR G A H0 mm H n r t 43 300 [] [] oJ := by
  obtain ⟨h12, ⟨C, hC, hR, ⟨u, a1, a2, a3, a4, a5, a6⟩, hS⟩, ⟨L, z1, z2, z3⟩, ⟨hE1, hE2⟩, hO, hHE, hLX⟩ := id hL
  rcases id hS with ⟨b1, b2⟩ | ⟨b1, b2, b3⟩
  · exact PQ_x hL not1 (w43_x1 rcX0 (s102n b1 _) (by decide +kernel)) (s300n b2 _)
  · obtain ⟨k, p, g, C0, u0, cp, cb, hC0, hn, hk, hp, hq0, hv, h2, hu, hu8, hh, hDu, hid⟩ := LJ_get hL
    have hR' : RE (cpB (mm 0) (mm 2)) (cpf (D 3) s 0 0 93) C := RE_cp b3 (fun j hj => by rw [cpf_in hj]) (Nat.le_refl _)
    have hans : nI (cnt (uM (cpf (D 3) s 0 0 93)) 10) = mm 2 1 0 := by
      obtain ⟨k2, p2, g2, cp2, _⟩ := id hR'
      rw [Q_many cp2, ← cp2.1.1.1, (EB_cp (mm 0) (mm 2)).1.2.1]
    have hw : call G 40 43 [.ref (ad A 11 0), .ref (A + 177)] (S A H mm n r) = vI 0 (S A (hset H (A + 177) (lC (mm 2 1 0).toInt64)) (sb (sb mm 0 (cpB (mm 0) (mm 2))) 11 (ud (mm 11) 0 4 0)) n r) := w43_v rcX0 (s102 b1 _) (lC_w hLX _)
    have hq := s300 (G := G) (A := A) (n := n) (r := r) (H := hset H (A + 177) (lC (mm 2 1 0).toInt64)) (m := sb (sb mm 0 (cpB (mm 0) (mm 2))) 11 (ud (mm 11) 0 4 0)) (D := D) (s := s) b2 37
    rw [LJ_mm hL (mm' := sb (sb mm 0 (cpB (mm 0) (mm 2))) 11 (ud (mm 11) 0 4 0)) (by rw [sb_ne (by omega), sb_ne (by omega)]), hans] at hq
    generalize hX : ud (mm 11) 0 4 0 = X at hw hq
    generalize cpB (mm 0) (mm 2) = B' at hw hq hR'
    generalize hDD : ud (ud D 0 6 0) 0 5 0 = D' at hq
    generalize cpf (D 3) s 0 0 93 = s' at hq hR'
    have m11 : ∀ Y, sb (sb (sb mm 0 B') 11 X) 12 Y 11 = X := fun Y => by rw [sb_ne (by omega), sb_eq]
    have mo : ∀ Y b, b ≠ 0 → b ≠ 11 → b ≠ 12 → sb (sb (sb mm 0 B') 11 X) 12 Y b = mm b := fun Y b h0 h1 h2 => by rw [sb_ne h2, sb_ne h1, sb_ne h0]
    have m0 : ∀ Y, sb (sb (sb mm 0 B') 11 X) 12 Y 0 = B' := fun Y => by rw [sb_ne (by omega), sb_ne (by omega), sb_eq]
    have xc : ∀ c, c ≠ 0 → X c = mm 11 c := fun c h => by rw [← hX, ud_nc h]
    have x0 : ∀ i, i ≠ 4 → X 0 i = mm 11 0 i := fun i h => by rw [← hX, ud_ni h]
    have d0 : ∀ i, i ≠ 6 → i ≠ 5 → D' 0 i = D 0 i := fun i h6 h5 => by rw [← hDD, ud_ni h5, ud_ni h6]
    have dc : ∀ c, c ≠ 0 → D' c = D c := fun c h0 => by rw [← hDD, ud_nc h0, ud_nc h0]
    refine ⟨0, mm 2 1 0, sb (sb mm 0 B') 11 X, _, n, r, D', s', _, n, r, hw, hq, by rw [← hDD, ud_ni (by omega), ud_eq], fun _ => hset_at .., HE_set (by omega), HE_set (by omega), sb_eq .., ⟨C, by omega, by rw [m0]; exact hR', ⟨0, by omega, by rw [m11, ← hX, ud_eq]; rfl, by rw [← hDD, ud_eq]; rfl, ?_, ?_, fun w hw => absurd hw (Nat.not_lt_zero w)⟩, ?_⟩, ⟨L, ?_, by rw [d0 10 (by omega) (by omega)]; exact z2, fun i hi => ?_⟩, ⟨?_, ?_⟩, ?_, HE_trans hHE (HE_set (by omega)), LX_177 hLX _⟩
    · rw [m11]; exact HW_c a4 fun i => by rw [xc 1 (by omega)]
    · rw [m11]; exact HD_c a5 fun i => by rw [xc 1 (by omega)]
    · exact LSv_c hS (mo _ 2 (by omega) (by omega) (by omega)) (by rw [m11, x0 5 (by omega)]) (d0 3 (by omega) (by omega)) (dc 3 (by omega))
    · rw [m11]; exact WZ_c z1 fun i => by rw [xc 11 (by omega)]
    · rw [m11, xc 12 (by omega), dc 6 (by omega)]; exact z3 i hi
    · rw [m11, x0 9 (by omega), d0 13 (by omega) (by omega)]; exact hE1
    · rw [m11, x0 10 (by omega), d0 14 (by omega) (by omega)]; exact hE2
    · exact LO_c hO (SBK_q (by omega) (Or.inl (by omega)) (Nat.le_refl _)) (d0 8 (by omega) (by omega)) (dc 5 (by omega)) (by omega) (by omega)
theorem A_56 (hL : LJ A H0 mm D s H n r t) : PAIA G A H0 mm H n r t 101 299 := by
  obtain ⟨h12, ⟨C, hC, hR, ⟨u, a1, a2, a3, a4, a5, a6⟩, hS⟩, ⟨L, z1, z2, z3⟩, ⟨hE1, hE2⟩, hO, hHE, hLX⟩ := id hL
  obtain ⟨k, p, g, C0, u0, cp, cb, hC0, hn, hk, hp, hq0, hv, h2, hu, hu8, hh, hDu, hid⟩ := LJ_get hL
  have hw := s101 (G := G) (A := A) (n := n) (r := r) (H := H) (m := mm) hn hk 38
  have hq := s299 (G := G) (A := A) (n := n) (r := r) (H := H) (m := sb (sb mm 2 (cpB (mm 2) (mm 0))) 11 (ud (mm 11) 0 5 1)) (D := D) (s := s) 37
  rw [LJ_mm hL (mm' := sb (sb mm 2 (cpB (mm 2) (mm 0))) 11 (ud (mm 11) 0 5 1)) (by rw [sb_ne (by omega), sb_ne (by omega)]), Q_many cp] at hq
  have hR' : RE (cpB (mm 2) (mm 0)) (cpf s (D 3) 0 0 93) C := RE_cp hR (fun j hj => by rw [cpf_in hj]) (Nat.le_refl _)
  generalize hX : ud (mm 11) 0 5 1 = X at hw hq
  generalize cpB (mm 2) (mm 0) = B' at hw hq hR'
  generalize hs : cpf s (D 3) 0 0 93 = s' at hq hR'
  generalize hDD : ud (us (ud D 0 6 0) 3 s') 0 3 1 = D' at hq
  have m11 : ∀ Y, sb (sb (sb mm 2 B') 11 X) 12 Y 11 = X := fun Y => by rw [sb_ne (by omega), sb_eq]
  have mo : ∀ Y b, b ≠ 2 → b ≠ 11 → b ≠ 12 → sb (sb (sb mm 2 B') 11 X) 12 Y b = mm b := fun Y b h0 h1 h2 => by rw [sb_ne h2, sb_ne h1, sb_ne h0]
  have m2 : ∀ Y, sb (sb (sb mm 2 B') 11 X) 12 Y 2 = B' := fun Y => by rw [sb_ne (by omega), sb_ne (by omega), sb_eq]
  have xc : ∀ c, c ≠ 0 → X c = mm 11 c := fun c h => by rw [← hX, ud_nc h]
  have x0 : ∀ i, i ≠ 5 → X 0 i = mm 11 0 i := fun i h => by rw [← hX, ud_ni h]
  have d0 : ∀ i, i ≠ 6 → i ≠ 3 → D' 0 i = D 0 i := fun i h6 h3 => by rw [← hDD, ud_ni h3, us_ne (by omega), ud_ni h6]
  have dc : ∀ c, c ≠ 0 → c ≠ 3 → D' c = D c := fun c h0 h3 => by rw [← hDD, ud_nc h0, us_ne h3, ud_nc h0]
  have d3 : D' 3 = s' := by rw [← hDD, ud_nc (by omega), us_eq]
  refine ⟨nI k, sb (sb mm 2 B') 11 X, H, n, r, D', s, H, n, r, hw, hq, HE_rfl A H, sb_eq .., ⟨C, by omega, by rw [mo _ 0 (by omega) (by omega) (by omega)]; exact hR, ?_, Or.inr ⟨by rw [m11, ← hX, ud_eq], by rw [← hDD, ud_eq], by rw [m2, d3]; exact hR'⟩⟩, ⟨L, ?_, by rw [d0 10 (by omega) (by omega)]; exact z2, fun i hi => ?_⟩, ⟨?_, ?_⟩, ?_, hHE, hLX⟩
  · exact LU_c ⟨u, a1, a2, a3, a4, a5, a6⟩ (fun b h3 h11 => mo _ b (by omega) (by omega) (by omega)) (by rw [m11, x0 4 (by omega)]) (fun i => by rw [m11, xc 1 (by omega)]) (d0 5 (by omega) (by omega)) (dc 4 (by omega) (by omega))
  · rw [m11]; exact WZ_c z1 fun i => by rw [xc 11 (by omega)]
  · rw [m11, xc 12 (by omega), dc 6 (by omega) (by omega)]; exact z3 i hi
  · rw [m11, x0 9 (by omega), d0 13 (by omega) (by omega)]; exact hE1
  · rw [m11, x0 10 (by omega), d0 14 (by omega) (by omega)]; exact hE2
  · exact LO_c hO (SBK_n (Nat.le_refl _)) (d0 8 (by omega) (by omega)) (dc 5 (by omega) (by omega)) (by omega) (by omega)
end
