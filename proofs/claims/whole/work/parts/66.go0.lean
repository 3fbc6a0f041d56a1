/-! THE LAW'S LOOP, part 11: every call leads from a state to a state (printed by wip/whole/gen_go.py) -/
def ENV (G : Glb) (A : Nat) (H0 : Hp) (fl kd : Nat → Nat) : Prop := GF G fl ∧ GS G ∧ GB G ∧ KN G H0 A kd ∧ SW G H0 A ∧ WS G H0 A ∧ DG G H0 A
/-- the script -/
def SC (A : Nat) (H0 : Hp) (a0 N : Nat) (f : Nat → Int32) : Prop := a0 < A ∧ N ≤ 2560 ∧ ∃ fl, H0 a0 = some (.inl (.int, fl, (List.range N).map fun i => .int (f i)))
section
variable {G : Glb} {A n r t N a0 : Nat} {H H0 : Hp} {mm : Mm} {D : Bd} {s : Nat → Int32} {fl kd : Nat → Nat} {f : Nat → Int32} {o6 o7 o8 : Option Value}
theorem SC_r (h : SC A H0 a0 N f) (hE : HE A H0 H) {x : Int32} {i : Nat} (hx : x = nI i) (hi : i < N) : aI (S A H mm n r) okI a0 x = some (f i) := by
  obtain ⟨h1, h2, b, h3⟩ := h
  subst hx
  unfold aI aV aL; rw [S_lo h1, hE a0 h1, h3]
  simp only [okI, if_true, Option.bind_some]
  rw [if_neg (nI_pos (by omega)), nI_clamp (by omega)]
  simp [hi]
theorem SC_n (h : SC A H0 a0 N f) (hE : HE A H0 H) : aN (S A H mm n r) a0 = some (nI N) := by
  obtain ⟨h1, h2, b, h3⟩ := h
  unfold aN; rw [S_lo h1, hE a0 h1, h3]
  simp only [List.length_map, List.length_range]; rfl
def GO (G : Glb) (A : Nat) (H0 : Hp) (a0 t : Nat) (R : Res) : Prop := ∃ mm' D' s' H' n' r', NX G a0 (ad A 11 0) (ad A 12 0) (A + 177) (A + 178) (nI (5 * t)) R (S A H' mm' n' r') ∧ LJ A H0 mm' D' s' H' n' r' (t + 1)
theorem LJ_he (hL : LJ A H0 mm D s H n r t) : HE A H0 H := hL.2.2.2.2.2.1
theorem go_0 (E : ENV G A H0 fl kd) (hC : SC A H0 a0 N f) (hi : 5 * t + 5 ≤ N) (ht : t < 600) (hL : LJ A H0 mm D s H n r t) : GO G A H0 a0 t (run G 41 0 292 [some (.ref a0), some (.ref (ad A 11 0)), some (.ref (ad A 12 0)), some (.ref (A + 177)), some (.ref (A + 178)), some (.int (nI (5 * t))), o6, o7, o8] [] (S A H mm n r)) := by
  obtain ⟨E1, E2, E3, E4, E5, E6, E7⟩ := E
  have hE := LJ_he hL
  obtain ⟨kk, b, mm1, H1, n1, r1, D', s', H2, n2, r2, hw, hq, h6, hv, hE1, hE2, hL'⟩ := P_1 (G := G) E1 hL ht (((f (5 * t + 1)).toUInt32 % 65536).toInt32) (f (5 * t + 2)) (f (5 * t + 3))
  exact ⟨_, D', s', H2, n2, r2, st_0 (SC_r hC hE (nI_s1 _) (by omega)) (SC_r hC hE (nI_p2 _) (by omega)) (SC_r hC hE (nI_p3 _) (by omega)) hw (SC_r hC (HE_trans hE hE1) (nI_s1 _) (by omega)) (SC_r hC (HE_trans hE hE1) (nI_p2 _) (by omega)) (SC_r hC (HE_trans hE hE1) (nI_p3 _) (by omega)) rcM0 hq rcM0 ((s189 40).trans (by rw [h6])) (fun hk => lC_r (hv hk)), hL'⟩
theorem go_1 (E : ENV G A H0 fl kd) (hC : SC A H0 a0 N f) (hi : 5 * t + 5 ≤ N) (ht : t < 600) (hL : LJ A H0 mm D s H n r t) : GO G A H0 a0 t (run G 41 0 374 [some (.ref a0), some (.ref (ad A 11 0)), some (.ref (ad A 12 0)), some (.ref (A + 177)), some (.ref (A + 178)), some (.int (nI (5 * t))), o6, o7, o8] [] (S A H mm n r)) := by
  obtain ⟨E1, E2, E3, E4, E5, E6, E7⟩ := E
  have hE := LJ_he hL
  obtain ⟨kk, b, mm1, H1, n1, r1, D', s', H2, n2, r2, hw, hq, h6, hv, hE1, hE2, hL'⟩ := P_2 (G := G) E1 hL (f (5 * t + 1))
  exact ⟨_, D', s', H2, n2, r2, st_1 (SC_r hC hE (nI_s1 _) (by omega)) hw (SC_r hC (HE_trans hE hE1) (nI_s1 _) (by omega)) rcM0 hq rcM0 ((s189 40).trans (by rw [h6])) (fun hk => lC_r (hv hk)), hL'⟩
theorem go_2 (E : ENV G A H0 fl kd) (hC : SC A H0 a0 N f) (hi : 5 * t + 5 ≤ N) (ht : t < 600) (hL : LJ A H0 mm D s H n r t) : GO G A H0 a0 t (run G 41 0 430 [some (.ref a0), some (.ref (ad A 11 0)), some (.ref (ad A 12 0)), some (.ref (A + 177)), some (.ref (A + 178)), some (.int (nI (5 * t))), o6, o7, o8] [] (S A H mm n r)) := by
  obtain ⟨E1, E2, E3, E4, E5, E6, E7⟩ := E
  have hE := LJ_he hL
  obtain ⟨kk, b, mm1, H1, n1, r1, D', s', H2, n2, r2, hw, hq, h6, hv, hE1, hE2, hL'⟩ := P_3 (G := G) E1 hL (f (5 * t + 1))
  exact ⟨_, D', s', H2, n2, r2, st_2 (SC_r hC hE (nI_s1 _) (by omega)) hw (SC_r hC (HE_trans hE hE1) (nI_s1 _) (by omega)) rcM0 hq rcM0 ((s189 40).trans (by rw [h6])) (fun hk => lC_r (hv hk)), hL'⟩
theorem go_3 (E : ENV G A H0 fl kd) (hC : SC A H0 a0 N f) (hi : 5 * t + 5 ≤ N) (ht : t < 600) (hL : LJ A H0 mm D s H n r t) : GO G A H0 a0 t (run G 41 0 486 [some (.ref a0), some (.ref (ad A 11 0)), some (.ref (ad A 12 0)), some (.ref (A + 177)), some (.ref (A + 178)), some (.int (nI (5 * t))), o6, o7, o8] [] (S A H mm n r)) := by
  obtain ⟨E1, E2, E3, E4, E5, E6, E7⟩ := E
  have hE := LJ_he hL
  obtain ⟨b, mm1, H1, n1, r1, D', s', H2, n2, r2, hw, hq, hE2, hL'⟩ := A_3 (G := G) hL
  exact ⟨_, D', s', H2, n2, r2, st_3 rcX0 hw rcM0 hq, hL'⟩
theorem go_4 (E : ENV G A H0 fl kd) (hC : SC A H0 a0 N f) (hi : 5 * t + 5 ≤ N) (ht : t < 600) (hL : LJ A H0 mm D s H n r t) : GO G A H0 a0 t (run G 41 0 499 [some (.ref a0), some (.ref (ad A 11 0)), some (.ref (ad A 12 0)), some (.ref (A + 177)), some (.ref (A + 178)), some (.int (nI (5 * t))), o6, o7, o8] [] (S A H mm n r)) := by
  obtain ⟨E1, E2, E3, E4, E5, E6, E7⟩ := E
  have hE := LJ_he hL
  obtain ⟨b, mm1, H1, n1, r1, D', s', H2, n2, r2, hw, hq, hE2, hL'⟩ := A_4 (G := G) hL
  exact ⟨_, D', s', H2, n2, r2, st_4 rcX0 hw rcM0 hq, hL'⟩
theorem go_5 (E : ENV G A H0 fl kd) (hC : SC A H0 a0 N f) (hi : 5 * t + 5 ≤ N) (ht : t < 600) (hL : LJ A H0 mm D s H n r t) : GO G A H0 a0 t (run G 41 0 512 [some (.ref a0), some (.ref (ad A 11 0)), some (.ref (ad A 12 0)), some (.ref (A + 177)), some (.ref (A + 178)), some (.int (nI (5 * t))), o6, o7, o8] [] (S A H mm n r)) := by
  obtain ⟨E1, E2, E3, E4, E5, E6, E7⟩ := E
  have hE := LJ_he hL
  obtain ⟨kk, b, mm1, H1, n1, r1, D', s', H2, n2, r2, hw, hq, h6, hv, hE1, hE2, hL'⟩ := P_4 (G := G) hL (f (5 * t + 1))
  exact ⟨_, D', s', H2, n2, r2, st_5 (SC_r hC hE (nI_s1 _) (by omega)) hw (SC_r hC (HE_trans hE hE1) (nI_s1 _) (by omega)) rcM0 hq rcM0 ((s189 40).trans (by rw [h6])) (fun hk => lC_r (hv hk)), hL'⟩
theorem go_6 (E : ENV G A H0 fl kd) (hC : SC A H0 a0 N f) (hi : 5 * t + 5 ≤ N) (ht : t < 600) (hL : LJ A H0 mm D s H n r t) : GO G A H0 a0 t (run G 41 0 568 [some (.ref a0), some (.ref (ad A 11 0)), some (.ref (ad A 12 0)), some (.ref (A + 177)), some (.ref (A + 178)), some (.int (nI (5 * t))), o6, o7, o8] [] (S A H mm n r)) := by
  obtain ⟨E1, E2, E3, E4, E5, E6, E7⟩ := E
  have hE := LJ_he hL
  obtain ⟨kk, b, mm1, H1, n1, r1, D', s', H2, n2, r2, hw, hq, h6, hv, hE1, hE2, hL'⟩ := P_5 (G := G) hL (f (5 * t + 1))
  exact ⟨_, D', s', H2, n2, r2, st_6 (SC_r hC hE (nI_s1 _) (by omega)) hw (SC_r hC (HE_trans hE hE1) (nI_s1 _) (by omega)) rcM0 hq rcM0 ((s189 40).trans (by rw [h6])) (fun hk => lC_r (hv hk)), hL'⟩
theorem go_7 (E : ENV G A H0 fl kd) (hC : SC A H0 a0 N f) (hi : 5 * t + 5 ≤ N) (ht : t < 600) (hL : LJ A H0 mm D s H n r t) : GO G A H0 a0 t (run G 41 0 624 [some (.ref a0), some (.ref (ad A 11 0)), some (.ref (ad A 12 0)), some (.ref (A + 177)), some (.ref (A + 178)), some (.int (nI (5 * t))), o6, o7, o8] [] (S A H mm n r)) := by
  obtain ⟨E1, E2, E3, E4, E5, E6, E7⟩ := E
  have hE := LJ_he hL
  obtain ⟨kk, b, mm1, H1, n1, r1, D', s', H2, n2, r2, hw, hq, h6, hv, hE1, hE2, hL'⟩ := P_6 (G := G) hL (f (5 * t + 1))
  exact ⟨_, D', s', H2, n2, r2, st_7 (SC_r hC hE (nI_s1 _) (by omega)) hw (SC_r hC (HE_trans hE hE1) (nI_s1 _) (by omega)) rcM0 hq rcM0 ((s189 40).trans (by rw [h6])) (fun hk => lC_r (hv hk)), hL'⟩
theorem go_8 (E : ENV G A H0 fl kd) (hC : SC A H0 a0 N f) (hi : 5 * t + 5 ≤ N) (ht : t < 600) (hL : LJ A H0 mm D s H n r t) : GO G A H0 a0 t (run G 41 0 680 [some (.ref a0), some (.ref (ad A 11 0)), some (.ref (ad A 12 0)), some (.ref (A + 177)), some (.ref (A + 178)), some (.int (nI (5 * t))), o6, o7, o8] [] (S A H mm n r)) := by
  obtain ⟨E1, E2, E3, E4, E5, E6, E7⟩ := E
  have hE := LJ_he hL
  obtain ⟨kk, b, mm1, H1, n1, r1, D', s', H2, n2, r2, hw, hq, h6, hv, hE1, hE2, hL'⟩ := P_7 (G := G) hL (f (5 * t + 1))
  exact ⟨_, D', s', H2, n2, r2, st_8 (SC_r hC hE (nI_s1 _) (by omega)) hw (SC_r hC (HE_trans hE hE1) (nI_s1 _) (by omega)) rcM0 hq rcM0 ((s189 40).trans (by rw [h6])) (fun hk => lC_r (hv hk)), hL'⟩
theorem go_9 (E : ENV G A H0 fl kd) (hC : SC A H0 a0 N f) (hi : 5 * t + 5 ≤ N) (ht : t < 600) (hL : LJ A H0 mm D s H n r t) : GO G A H0 a0 t (run G 41 0 736 [some (.ref a0), some (.ref (ad A 11 0)), some (.ref (ad A 12 0)), some (.ref (A + 177)), some (.ref (A + 178)), some (.int (nI (5 * t))), o6, o7, o8] [] (S A H mm n r)) := by
  obtain ⟨E1, E2, E3, E4, E5, E6, E7⟩ := E
  have hE := LJ_he hL
  obtain ⟨kk, b, mm1, H1, n1, r1, D', s', H2, n2, r2, hw, hq, h6, hv, hE1, hE2, hL'⟩ := P_8 (G := G) hL (f (5 * t + 1))
  exact ⟨_, D', s', H2, n2, r2, st_9 (SC_r hC hE (nI_s1 _) (by omega)) hw (SC_r hC (HE_trans hE hE1) (nI_s1 _) (by omega)) rcM0 hq rcM0 ((s189 40).trans (by rw [h6])) (fun hk => lC_r (hv hk)), hL'⟩
theorem go_10 (E : ENV G A H0 fl kd) (hC : SC A H0 a0 N f) (hi : 5 * t + 5 ≤ N) (ht : t < 600) (hL : LJ A H0 mm D s H n r t) : GO G A H0 a0 t (run G 41 0 792 [some (.ref a0), some (.ref (ad A 11 0)), some (.ref (ad A 12 0)), some (.ref (A + 177)), some (.ref (A + 178)), some (.int (nI (5 * t))), o6, o7, o8] [] (S A H mm n r)) := by
  obtain ⟨E1, E2, E3, E4, E5, E6, E7⟩ := E
  have hE := LJ_he hL
  obtain ⟨kk, b, mm1, H1, n1, r1, D', s', H2, n2, r2, hw, hq, h6, hv, hE1, hE2, hL'⟩ := P_9 (G := G) hL (f (5 * t + 1))
  exact ⟨_, D', s', H2, n2, r2, st_10 (SC_r hC hE (nI_s1 _) (by omega)) hw (SC_r hC (HE_trans hE hE1) (nI_s1 _) (by omega)) rcM0 hq rcM0 ((s189 40).trans (by rw [h6])) (fun hk => lC_r (hv hk)), hL'⟩
theorem go_11 (E : ENV G A H0 fl kd) (hC : SC A H0 a0 N f) (hi : 5 * t + 5 ≤ N) (ht : t < 600) (hL : LJ A H0 mm D s H n r t) : GO G A H0 a0 t (run G 41 0 855 [some (.ref a0), some (.ref (ad A 11 0)), some (.ref (ad A 12 0)), some (.ref (A + 177)), some (.ref (A + 178)), some (.int (nI (5 * t))), o6, o7, o8] [] (S A H mm n r)) := by
  obtain ⟨E1, E2, E3, E4, E5, E6, E7⟩ := E
  have hE := LJ_he hL
  obtain ⟨kk, b, mm1, H1, n1, r1, D', s', H2, n2, r2, hw, hq, h6, hv, hE1, hE2, hL'⟩ := P_10 (G := G) hL (f (5 * t + 1))
  exact ⟨_, D', s', H2, n2, r2, st_11 (SC_r hC hE (nI_s1 _) (by omega)) hw (SC_r hC (HE_trans hE hE1) (nI_s1 _) (by omega)) rcM0 hq rcM0 ((s189 40).trans (by rw [h6])) (fun hk => lC_r (hv hk)), hL'⟩
theorem go_12 (E : ENV G A H0 fl kd) (hC : SC A H0 a0 N f) (hi : 5 * t + 5 ≤ N) (ht : t < 600) (hL : LJ A H0 mm D s H n r t) : GO G A H0 a0 t (run G 41 0 911 [some (.ref a0), some (.ref (ad A 11 0)), some (.ref (ad A 12 0)), some (.ref (A + 177)), some (.ref (A + 178)), some (.int (nI (5 * t))), o6, o7, o8] [] (S A H mm n r)) := by
  obtain ⟨E1, E2, E3, E4, E5, E6, E7⟩ := E
  have hE := LJ_he hL
  obtain ⟨kk, b, mm1, H1, n1, r1, D', s', H2, n2, r2, hw, hq, h6, hv, hE1, hE2, hL'⟩ := P_11 (G := G) hL (f (5 * t + 1))
  exact ⟨_, D', s', H2, n2, r2, st_12 (SC_r hC hE (nI_s1 _) (by omega)) hw (SC_r hC (HE_trans hE hE1) (nI_s1 _) (by omega)) rcM0 hq rcM0 ((s189 40).trans (by rw [h6])) (fun hk => lC_r (hv hk)), hL'⟩
theorem go_13 (E : ENV G A H0 fl kd) (hC : SC A H0 a0 N f) (hi : 5 * t + 5 ≤ N) (ht : t < 600) (hL : LJ A H0 mm D s H n r t) : GO G A H0 a0 t (run G 41 0 967 [some (.ref a0), some (.ref (ad A 11 0)), some (.ref (ad A 12 0)), some (.ref (A + 177)), some (.ref (A + 178)), some (.int (nI (5 * t))), o6, o7, o8] [] (S A H mm n r)) := by
  obtain ⟨E1, E2, E3, E4, E5, E6, E7⟩ := E
  have hE := LJ_he hL
  obtain ⟨kk, b, mm1, H1, n1, r1, D', s', H2, n2, r2, hw, hq, h6, hv, hE1, hE2, hL'⟩ := P_12 (G := G) hL (f (5 * t + 1))
  exact ⟨_, D', s', H2, n2, r2, st_13 (SC_r hC hE (nI_s1 _) (by omega)) hw (SC_r hC (HE_trans hE hE1) (nI_s1 _) (by omega)) rcM0 hq rcM0 ((s189 40).trans (by rw [h6])) (fun hk => lC_r (hv hk)), hL'⟩
theorem go_14 (E : ENV G A H0 fl kd) (hC : SC A H0 a0 N f) (hi : 5 * t + 5 ≤ N) (ht : t < 600) (hL : LJ A H0 mm D s H n r t) : GO G A H0 a0 t (run G 41 0 1023 [some (.ref a0), some (.ref (ad A 11 0)), some (.ref (ad A 12 0)), some (.ref (A + 177)), some (.ref (A + 178)), some (.int (nI (5 * t))), o6, o7, o8] [] (S A H mm n r)) := by
  obtain ⟨E1, E2, E3, E4, E5, E6, E7⟩ := E
  have hE := LJ_he hL
  obtain ⟨kk, b, mm1, H1, n1, r1, D', s', H2, n2, r2, hw, hq, h6, hv, hE1, hE2, hL'⟩ := P_13 (G := G) E1 hL (f (5 * t + 1)) (f (5 * t + 2))
  exact ⟨_, D', s', H2, n2, r2, st_14 (SC_r hC hE (nI_s1 _) (by omega)) (SC_r hC hE (nI_p2 _) (by omega)) hw (SC_r hC (HE_trans hE hE1) (nI_s1 _) (by omega)) (SC_r hC (HE_trans hE hE1) (nI_p2 _) (by omega)) rcM0 hq rcM0 ((s189 40).trans (by rw [h6])) (fun hk => lC_r (hv hk)), hL'⟩
theorem go_15 (E : ENV G A H0 fl kd) (hC : SC A H0 a0 N f) (hi : 5 * t + 5 ≤ N) (ht : t < 600) (hL : LJ A H0 mm D s H n r t) : GO G A H0 a0 t (run G 41 0 1091 [some (.ref a0), some (.ref (ad A 11 0)), some (.ref (ad A 12 0)), some (.ref (A + 177)), some (.ref (A + 178)), some (.int (nI (5 * t))), o6, o7, o8] [] (S A H mm n r)) := by
  obtain ⟨E1, E2, E3, E4, E5, E6, E7⟩ := E
  have hE := LJ_he hL
  obtain ⟨kk, b, mm1, H1, n1, r1, D', s', H2, n2, r2, hw, hq, h6, hv, hE1, hE2, hL'⟩ := P_14 (G := G) E1 hL (f (5 * t + 1)) (f (5 * t + 2))
  exact ⟨_, D', s', H2, n2, r2, st_15 (SC_r hC hE (nI_s1 _) (by omega)) (SC_r hC hE (nI_p2 _) (by omega)) hw (SC_r hC (HE_trans hE hE1) (nI_s1 _) (by omega)) (SC_r hC (HE_trans hE hE1) (nI_p2 _) (by omega)) rcM0 hq rcM0 ((s189 40).trans (by rw [h6])) (fun hk => lC_r (hv hk)), hL'⟩
theorem go_16 (E : ENV G A H0 fl kd) (hC : SC A H0 a0 N f) (hi : 5 * t + 5 ≤ N) (ht : t < 600) (hL : LJ A H0 mm D s H n r t) : GO G A H0 a0 t (run G 41 0 1159 [some (.ref a0), some (.ref (ad A 11 0)), some (.ref (ad A 12 0)), some (.ref (A + 177)), some (.ref (A + 178)), some (.int (nI (5 * t))), o6, o7, o8] [] (S A H mm n r)) := by
  obtain ⟨E1, E2, E3, E4, E5, E6, E7⟩ := E
  have hE := LJ_he hL
  obtain ⟨kk, b, mm1, H1, n1, r1, D', s', H2, n2, r2, hw, hq, h6, hv, hE1, hE2, hL'⟩ := P_15 (G := G) hL (f (5 * t + 1)) (f (5 * t + 2))
  exact ⟨_, D', s', H2, n2, r2, st_16 (SC_r hC hE (nI_s1 _) (by omega)) (SC_r hC hE (nI_p2 _) (by omega)) hw (SC_r hC (HE_trans hE hE1) (nI_s1 _) (by omega)) (SC_r hC (HE_trans hE hE1) (nI_p2 _) (by omega)) rcM0 hq rcM0 ((s189 40).trans (by rw [h6])) (fun hk => lC_r (hv hk)), hL'⟩
theorem go_17 (E : ENV G A H0 fl kd) (hC : SC A H0 a0 N f) (hi : 5 * t + 5 ≤ N) (ht : t < 600) (hL : LJ A H0 mm D s H n r t) : GO G A H0 a0 t (run G 41 0 1234 [some (.ref a0), some (.ref (ad A 11 0)), some (.ref (ad A 12 0)), some (.ref (A + 177)), some (.ref (A + 178)), some (.int (nI (5 * t))), o6, o7, o8] [] (S A H mm n r)) := by
  obtain ⟨E1, E2, E3, E4, E5, E6, E7⟩ := E
  have hE := LJ_he hL
  obtain ⟨kk, b, mm1, H1, n1, r1, D', s', H2, n2, r2, hw, hq, h6, hv, hE1, hE2, hL'⟩ := P_16 (G := G) hL (f (5 * t + 1))
  exact ⟨_, D', s', H2, n2, r2, st_17 (SC_r hC hE (nI_s1 _) (by omega)) hw (SC_r hC (HE_trans hE hE1) (nI_s1 _) (by omega)) rcM0 hq rcM0 ((s189 40).trans (by rw [h6])) (fun hk => lC_r (hv hk)), hL'⟩
theorem go_18 (E : ENV G A H0 fl kd) (hC : SC A H0 a0 N f) (hi : 5 * t + 5 ≤ N) (ht : t < 600) (hL : LJ A H0 mm D s H n r t) : GO G A H0 a0 t (run G 41 0 1290 [some (.ref a0), some (.ref (ad A 11 0)), some (.ref (ad A 12 0)), some (.ref (A + 177)), some (.ref (A + 178)), some (.int (nI (5 * t))), o6, o7, o8] [] (S A H mm n r)) := by
  obtain ⟨E1, E2, E3, E4, E5, E6, E7⟩ := E
  have hE := LJ_he hL
  obtain ⟨kk, b, mm1, H1, n1, r1, D', s', H2, n2, r2, hw, hq, h6, hv, hE1, hE2, hL'⟩ := P_17 (G := G) hL (f (5 * t + 1))
  exact ⟨_, D', s', H2, n2, r2, st_18 (SC_r hC hE (nI_s1 _) (by omega)) hw (SC_r hC (HE_trans hE hE1) (nI_s1 _) (by omega)) rcM0 hq rcM0 ((s189 40).trans (by rw [h6])) (fun hk => lC_r (hv hk)), hL'⟩
theorem go_19 (E : ENV G A H0 fl kd) (hC : SC A H0 a0 N f) (hi : 5 * t + 5 ≤ N) (ht : t < 600) (hL : LJ A H0 mm D s H n r t) : GO G A H0 a0 t (run G 41 0 1346 [some (.ref a0), some (.ref (ad A 11 0)), some (.ref (ad A 12 0)), some (.ref (A + 177)), some (.ref (A + 178)), some (.int (nI (5 * t))), o6, o7, o8] [] (S A H mm n r)) := by
  obtain ⟨E1, E2, E3, E4, E5, E6, E7⟩ := E
  have hE := LJ_he hL
  obtain ⟨kk, b, mm1, H1, n1, r1, D', s', H2, n2, r2, hw, hq, h6, hv, hE1, hE2, hL'⟩ := P_18 (G := G) E1 hL (((f (5 * t + 1)).toUInt32 % 65536).toInt32) (f (5 * t + 2)) (f (5 * t + 3)) (f (5 * t + 4))
  exact ⟨_, D', s', H2, n2, r2, st_19 (SC_r hC hE (nI_s1 _) (by omega)) (SC_r hC hE (nI_p2 _) (by omega)) (SC_r hC hE (nI_p3 _) (by omega)) (SC_r hC hE (nI_p4 _) (by omega)) hw (SC_r hC (HE_trans hE hE1) (nI_s1 _) (by omega)) (SC_r hC (HE_trans hE hE1) (nI_p2 _) (by omega)) (SC_r hC (HE_trans hE hE1) (nI_p3 _) (by omega)) (SC_r hC (HE_trans hE hE1) (nI_p4 _) (by omega)) rcM0 hq rcM0 ((s189 40).trans (by rw [h6])) (fun hk => lC_r (hv hk)), hL'⟩
theorem go_20 (E : ENV G A H0 fl kd) (hC : SC A H0 a0 N f) (hi : 5 * t + 5 ≤ N) (ht : t < 600) (hL : LJ A H0 mm D s H n r t) : GO G A H0 a0 t (run G 41 0 1440 [some (.ref a0), some (.ref (ad A 11 0)), some (.ref (ad A 12 0)), some (.ref (A + 177)), some (.ref (A + 178)), some (.int (nI (5 * t))), o6, o7, o8] [] (S A H mm n r)) := by
  obtain ⟨E1, E2, E3, E4, E5, E6, E7⟩ := E
  have hE := LJ_he hL
  obtain ⟨kk, b, mm1, H1, n1, r1, D', s', H2, n2, r2, hw, hq, h6, hv, hE1, hE2, hL'⟩ := P_19 (G := G) E1 hL (f (5 * t + 1))
  exact ⟨_, D', s', H2, n2, r2, st_20 (SC_r hC hE (nI_s1 _) (by omega)) hw (SC_r hC (HE_trans hE hE1) (nI_s1 _) (by omega)) rcM0 hq rcM0 ((s189 40).trans (by rw [h6])) (fun hk => lC_r (hv hk)), hL'⟩
theorem go_21 (E : ENV G A H0 fl kd) (hC : SC A H0 a0 N f) (hi : 5 * t + 5 ≤ N) (ht : t < 600) (hL : LJ A H0 mm D s H n r t) : GO G A H0 a0 t (run G 41 0 1503 [some (.ref a0), some (.ref (ad A 11 0)), some (.ref (ad A 12 0)), some (.ref (A + 177)), some (.ref (A + 178)), some (.int (nI (5 * t))), o6, o7, o8] [] (S A H mm n r)) := by
  obtain ⟨E1, E2, E3, E4, E5, E6, E7⟩ := E
  have hE := LJ_he hL
  obtain ⟨b, mm1, H1, n1, r1, D', s', H2, n2, r2, hw, hq, hE2, hL'⟩ := A_21 (G := G) hL
  exact ⟨_, D', s', H2, n2, r2, st_21 rcX0 hw rcM0 hq, hL'⟩
theorem go_22 (E : ENV G A H0 fl kd) (hC : SC A H0 a0 N f) (hi : 5 * t + 5 ≤ N) (ht : t < 600) (hL : LJ A H0 mm D s H n r t) : GO G A H0 a0 t (run G 41 0 1516 [some (.ref a0), some (.ref (ad A 11 0)), some (.ref (ad A 12 0)), some (.ref (A + 177)), some (.ref (A + 178)), some (.int (nI (5 * t))), o6, o7, o8] [] (S A H mm n r)) := by
  obtain ⟨E1, E2, E3, E4, E5, E6, E7⟩ := E
  have hE := LJ_he hL
  obtain ⟨b, mm1, H1, n1, r1, D', s', H2, n2, r2, hw, hq, hE2, hL'⟩ := A_22 (G := G) hL
  exact ⟨_, D', s', H2, n2, r2, st_22 rcX0 hw rcM0 hq, hL'⟩
theorem go_23 (E : ENV G A H0 fl kd) (hC : SC A H0 a0 N f) (hi : 5 * t + 5 ≤ N) (ht : t < 600) (hL : LJ A H0 mm D s H n r t) : GO G A H0 a0 t (run G 41 0 1529 [some (.ref a0), some (.ref (ad A 11 0)), some (.ref (ad A 12 0)), some (.ref (A + 177)), some (.ref (A + 178)), some (.int (nI (5 * t))), o6, o7, o8] [] (S A H mm n r)) := by
  obtain ⟨E1, E2, E3, E4, E5, E6, E7⟩ := E
  have hE := LJ_he hL
  obtain ⟨kk, b, mm1, H1, n1, r1, D', s', H2, n2, r2, hw, hq, h6, hv, hE1, hE2, hL'⟩ := P_20 (G := G) hL (f (5 * t + 1))
  exact ⟨_, D', s', H2, n2, r2, st_23 (SC_r hC hE (nI_s1 _) (by omega)) hw (SC_r hC (HE_trans hE hE1) (nI_s1 _) (by omega)) rcM0 hq rcM0 ((s189 40).trans (by rw [h6])) (fun hk => lC_r (hv hk)), hL'⟩
theorem go_24 (E : ENV G A H0 fl kd) (hC : SC A H0 a0 N f) (hi : 5 * t + 5 ≤ N) (ht : t < 600) (hL : LJ A H0 mm D s H n r t) : GO G A H0 a0 t (run G 41 0 1585 [some (.ref a0), some (.ref (ad A 11 0)), some (.ref (ad A 12 0)), some (.ref (A + 177)), some (.ref (A + 178)), some (.int (nI (5 * t))), o6, o7, o8] [] (S A H mm n r)) := by
  obtain ⟨E1, E2, E3, E4, E5, E6, E7⟩ := E
  have hE := LJ_he hL
  obtain ⟨kk, b, mm1, H1, n1, r1, D', s', H2, n2, r2, hw, hq, h6, hv, hE1, hE2, hL'⟩ := P_21 (G := G) hL (f (5 * t + 1))
  exact ⟨_, D', s', H2, n2, r2, st_24 (SC_r hC hE (nI_s1 _) (by omega)) hw (SC_r hC (HE_trans hE hE1) (nI_s1 _) (by omega)) rcM0 hq rcM0 ((s189 40).trans (by rw [h6])) (fun hk => lC_r (hv hk)), hL'⟩
theorem go_25 (E : ENV G A H0 fl kd) (hC : SC A H0 a0 N f) (hi : 5 * t + 5 ≤ N) (ht : t < 600) (hL : LJ A H0 mm D s H n r t) : GO G A H0 a0 t (run G 41 0 1641 [some (.ref a0), some (.ref (ad A 11 0)), some (.ref (ad A 12 0)), some (.ref (A + 177)), some (.ref (A + 178)), some (.int (nI (5 * t))), o6, o7, o8] [] (S A H mm n r)) := by
  obtain ⟨E1, E2, E3, E4, E5, E6, E7⟩ := E
  have hE := LJ_he hL
  obtain ⟨kk, b, mm1, H1, n1, r1, D', s', H2, n2, r2, hw, hq, h6, hv, hE1, hE2, hL'⟩ := P_22 (G := G) hL (f (5 * t + 1))
  exact ⟨_, D', s', H2, n2, r2, st_25 (SC_r hC hE (nI_s1 _) (by omega)) hw (SC_r hC (HE_trans hE hE1) (nI_s1 _) (by omega)) rcM0 hq rcM0 ((s189 40).trans (by rw [h6])) (fun hk => lC_r (hv hk)), hL'⟩
theorem go_26 (E : ENV G A H0 fl kd) (hC : SC A H0 a0 N f) (hi : 5 * t + 5 ≤ N) (ht : t < 600) (hL : LJ A H0 mm D s H n r t) : GO G A H0 a0 t (run G 41 0 1697 [some (.ref a0), some (.ref (ad A 11 0)), some (.ref (ad A 12 0)), some (.ref (A + 177)), some (.ref (A + 178)), some (.int (nI (5 * t))), o6, o7, o8] [] (S A H mm n r)) := by
  obtain ⟨E1, E2, E3, E4, E5, E6, E7⟩ := E
  have hE := LJ_he hL
  obtain ⟨kk, b, mm1, H1, n1, r1, D', s', H2, n2, r2, hw, hq, h6, hv, hE1, hE2, hL'⟩ := P_23 (G := G) hL (f (5 * t + 1))
  exact ⟨_, D', s', H2, n2, r2, st_26 (SC_r hC hE (nI_s1 _) (by omega)) hw (SC_r hC (HE_trans hE hE1) (nI_s1 _) (by omega)) rcM0 hq rcM0 ((s189 40).trans (by rw [h6])) (fun hk => lC_r (hv hk)), hL'⟩
theorem go_27 (E : ENV G A H0 fl kd) (hC : SC A H0 a0 N f) (hi : 5 * t + 5 ≤ N) (ht : t < 600) (hL : LJ A H0 mm D s H n r t) : GO G A H0 a0 t (run G 41 0 1753 [some (.ref a0), some (.ref (ad A 11 0)), some (.ref (ad A 12 0)), some (.ref (A + 177)), some (.ref (A + 178)), some (.int (nI (5 * t))), o6, o7, o8] [] (S A H mm n r)) := by
  obtain ⟨E1, E2, E3, E4, E5, E6, E7⟩ := E
  have hE := LJ_he hL
  obtain ⟨kk, b, mm1, H1, n1, r1, D', s', H2, n2, r2, hw, hq, h6, hv, hE1, hE2, hL'⟩ := P_24 (G := G) hL (f (5 * t + 1))
  exact ⟨_, D', s', H2, n2, r2, st_27 (SC_r hC hE (nI_s1 _) (by omega)) hw (SC_r hC (HE_trans hE hE1) (nI_s1 _) (by omega)) rcM0 hq rcM0 ((s189 40).trans (by rw [h6])) (fun hk => lC_r (hv hk)), hL'⟩
theorem go_28 (E : ENV G A H0 fl kd) (hC : SC A H0 a0 N f) (hi : 5 * t + 5 ≤ N) (ht : t < 600) (hL : LJ A H0 mm D s H n r t) : GO G A H0 a0 t (run G 41 0 1809 [some (.ref a0), some (.ref (ad A 11 0)), some (.ref (ad A 12 0)), some (.ref (A + 177)), some (.ref (A + 178)), some (.int (nI (5 * t))), o6, o7, o8] [] (S A H mm n r)) := by
  obtain ⟨E1, E2, E3, E4, E5, E6, E7⟩ := E
  have hE := LJ_he hL
  obtain ⟨kk, b, mm1, H1, n1, r1, D', s', H2, n2, r2, hw, hq, h6, hv, hE1, hE2, hL'⟩ := P_25 (G := G) hL (f (5 * t + 1)) (f (5 * t + 2))
  exact ⟨_, D', s', H2, n2, r2, st_28 (SC_r hC hE (nI_s1 _) (by omega)) (SC_r hC hE (nI_p2 _) (by omega)) hw (SC_r hC (HE_trans hE hE1) (nI_s1 _) (by omega)) (SC_r hC (HE_trans hE hE1) (nI_p2 _) (by omega)) rcM0 hq rcM0 ((s189 40).trans (by rw [h6])) (fun hk => lC_r (hv hk)), hL'⟩
theorem go_29 (E : ENV G A H0 fl kd) (hC : SC A H0 a0 N f) (hi : 5 * t + 5 ≤ N) (ht : t < 600) (hL : LJ A H0 mm D s H n r t) : GO G A H0 a0 t (run G 41 0 1884 [some (.ref a0), some (.ref (ad A 11 0)), some (.ref (ad A 12 0)), some (.ref (A + 177)), some (.ref (A + 178)), some (.int (nI (5 * t))), o6, o7, o8] [] (S A H mm n r)) := by
  obtain ⟨E1, E2, E3, E4, E5, E6, E7⟩ := E
  have hE := LJ_he hL
  obtain ⟨kk, b, mm1, H1, n1, r1, D', s', H2, n2, r2, hw, hq, h6, hv, hE1, hE2, hL'⟩ := P_26 (G := G) hL (f (5 * t + 1))
  exact ⟨_, D', s', H2, n2, r2, st_29 (SC_r hC hE (nI_s1 _) (by omega)) hw (SC_r hC (HE_trans hE hE1) (nI_s1 _) (by omega)) rcM0 hq rcM0 ((s189 40).trans (by rw [h6])) (fun hk => lC_r (hv hk)), hL'⟩
theorem go_30 (E : ENV G A H0 fl kd) (hC : SC A H0 a0 N f) (hi : 5 * t + 5 ≤ N) (ht : t < 600) (hL : LJ A H0 mm D s H n r t) : GO G A H0 a0 t (run G 41 0 1940 [some (.ref a0), some (.ref (ad A 11 0)), some (.ref (ad A 12 0)), some (.ref (A + 177)), some (.ref (A + 178)), some (.int (nI (5 * t))), o6, o7, o8] [] (S A H mm n r)) := by
  obtain ⟨E1, E2, E3, E4, E5, E6, E7⟩ := E
  have hE := LJ_he hL
  obtain ⟨kk, b, mm1, H1, n1, r1, D', s', H2, n2, r2, hw, hq, h6, hv, hE1, hE2, hL'⟩ := P_27 (G := G) hL (f (5 * t + 1))
  exact ⟨_, D', s', H2, n2, r2, st_30 (SC_r hC hE (nI_s1 _) (by omega)) hw (SC_r hC (HE_trans hE hE1) (nI_s1 _) (by omega)) rcM0 hq rcM0 ((s189 40).trans (by rw [h6])) (fun hk => lC_r (hv hk)), hL'⟩
theorem go_31 (E : ENV G A H0 fl kd) (hC : SC A H0 a0 N f) (hi : 5 * t + 5 ≤ N) (ht : t < 600) (hL : LJ A H0 mm D s H n r t) : GO G A H0 a0 t (run G 41 0 1996 [some (.ref a0), some (.ref (ad A 11 0)), some (.ref (ad A 12 0)), some (.ref (A + 177)), some (.ref (A + 178)), some (.int (nI (5 * t))), o6, o7, o8] [] (S A H mm n r)) := by
  obtain ⟨E1, E2, E3, E4, E5, E6, E7⟩ := E
  have hE := LJ_he hL
  obtain ⟨kk, b, mm1, H1, n1, r1, D', s', H2, n2, r2, hw, hq, h6, hv, hE1, hE2, hL'⟩ := P_28 (G := G) hL (f (5 * t + 1))
  exact ⟨_, D', s', H2, n2, r2, st_31 (SC_r hC hE (nI_s1 _) (by omega)) hw (SC_r hC (HE_trans hE hE1) (nI_s1 _) (by omega)) rcM0 hq rcM0 ((s189 40).trans (by rw [h6])) (fun hk => lC_r (hv hk)), hL'⟩
theorem go_32 (E : ENV G A H0 fl kd) (hC : SC A H0 a0 N f) (hi : 5 * t + 5 ≤ N) (ht : t < 600) (hL : LJ A H0 mm D s H n r t) : GO G A H0 a0 t (run G 41 0 2052 [some (.ref a0), some (.ref (ad A 11 0)), some (.ref (ad A 12 0)), some (.ref (A + 177)), some (.ref (A + 178)), some (.int (nI (5 * t))), o6, o7, o8] [] (S A H mm n r)) := by
  obtain ⟨E1, E2, E3, E4, E5, E6, E7⟩ := E
  have hE := LJ_he hL
  obtain ⟨kk, b, mm1, H1, n1, r1, D', s', H2, n2, r2, hw, hq, h6, hv, hE1, hE2, hL'⟩ := P_29 (G := G) E1 hL (f (5 * t + 1)) (f (5 * t + 2))
  exact ⟨_, D', s', H2, n2, r2, st_32 (SC_r hC hE (nI_s1 _) (by omega)) (SC_r hC hE (nI_p2 _) (by omega)) hw (SC_r hC (HE_trans hE hE1) (nI_s1 _) (by omega)) (SC_r hC (HE_trans hE hE1) (nI_p2 _) (by omega)) rcM0 hq rcM0 ((s189 40).trans (by rw [h6])) (fun hk => lC_r (hv hk)), hL'⟩
theorem go_33 (E : ENV G A H0 fl kd) (hC : SC A H0 a0 N f) (hi : 5 * t + 5 ≤ N) (ht : t < 600) (hL : LJ A H0 mm D s H n r t) : GO G A H0 a0 t (run G 41 0 2120 [some (.ref a0), some (.ref (ad A 11 0)), some (.ref (ad A 12 0)), some (.ref (A + 177)), some (.ref (A + 178)), some (.int (nI (5 * t))), o6, o7, o8] [] (S A H mm n r)) := by
  obtain ⟨E1, E2, E3, E4, E5, E6, E7⟩ := E
  have hE := LJ_he hL
  obtain ⟨kk, b, mm1, H1, n1, r1, D', s', H2, n2, r2, hw, hq, h6, hv, hE1, hE2, hL'⟩ := P_30 (G := G) E1 hL (f (5 * t + 1))
  exact ⟨_, D', s', H2, n2, r2, st_33 (SC_r hC hE (nI_s1 _) (by omega)) hw (SC_r hC (HE_trans hE hE1) (nI_s1 _) (by omega)) rcM0 hq rcM0 ((s189 40).trans (by rw [h6])) (fun hk => lC_r (hv hk)), hL'⟩
theorem go_34 (E : ENV G A H0 fl kd) (hC : SC A H0 a0 N f) (hi : 5 * t + 5 ≤ N) (ht : t < 600) (hL : LJ A H0 mm D s H n r t) : GO G A H0 a0 t (run G 41 0 2176 [some (.ref a0), some (.ref (ad A 11 0)), some (.ref (ad A 12 0)), some (.ref (A + 177)), some (.ref (A + 178)), some (.int (nI (5 * t))), o6, o7, o8] [] (S A H mm n r)) := by
  obtain ⟨E1, E2, E3, E4, E5, E6, E7⟩ := E
  have hE := LJ_he hL
  obtain ⟨kk, b, mm1, H1, n1, r1, D', s', H2, n2, r2, hw, hq, h6, hv, hE1, hE2, hL'⟩ := P_31 (G := G) E1 hL (f (5 * t + 1))
  exact ⟨_, D', s', H2, n2, r2, st_34 (SC_r hC hE (nI_s1 _) (by omega)) hw (SC_r hC (HE_trans hE hE1) (nI_s1 _) (by omega)) rcM0 hq rcM0 ((s189 40).trans (by rw [h6])) (fun hk => lC_r (hv hk)), hL'⟩
theorem go_35 (E : ENV G A H0 fl kd) (hC : SC A H0 a0 N f) (hi : 5 * t + 5 ≤ N) (ht : t < 600) (hL : LJ A H0 mm D s H n r t) : GO G A H0 a0 t (run G 41 0 2232 [some (.ref a0), some (.ref (ad A 11 0)), some (.ref (ad A 12 0)), some (.ref (A + 177)), some (.ref (A + 178)), some (.int (nI (5 * t))), o6, o7, o8] [] (S A H mm n r)) := by
  obtain ⟨E1, E2, E3, E4, E5, E6, E7⟩ := E
  have hE := LJ_he hL
  obtain ⟨b, mm1, H1, n1, r1, D', s', H2, n2, r2, hw, hq, hE2, hL'⟩ := A_35 (G := G) E1 hL
  exact ⟨_, D', s', H2, n2, r2, st_35 rcX0 hw rcM0 hq, hL'⟩
theorem go_36 (E : ENV G A H0 fl kd) (hC : SC A H0 a0 N f) (hi : 5 * t + 5 ≤ N) (ht : t < 600) (hL : LJ A H0 mm D s H n r t) : GO G A H0 a0 t (run G 41 0 2245 [some (.ref a0), some (.ref (ad A 11 0)), some (.ref (ad A 12 0)), some (.ref (A + 177)), some (.ref (A + 178)), some (.int (nI (5 * t))), o6, o7, o8] [] (S A H mm n r)) := by
  obtain ⟨E1, E2, E3, E4, E5, E6, E7⟩ := E
  have hE := LJ_he hL
  obtain ⟨b, mm1, H1, n1, r1, D', s', H2, n2, r2, hw, hq, hE2, hL'⟩ := A_36 (G := G) hL
  exact ⟨_, D', s', H2, n2, r2, st_36 rcX0 hw rcM0 hq, hL'⟩
theorem go_37 (E : ENV G A H0 fl kd) (hC : SC A H0 a0 N f) (hi : 5 * t + 5 ≤ N) (ht : t < 600) (hL : LJ A H0 mm D s H n r t) : GO G A H0 a0 t (run G 41 0 2258 [some (.ref a0), some (.ref (ad A 11 0)), some (.ref (ad A 12 0)), some (.ref (A + 177)), some (.ref (A + 178)), some (.int (nI (5 * t))), o6, o7, o8] [] (S A H mm n r)) := by
  obtain ⟨E1, E2, E3, E4, E5, E6, E7⟩ := E
  have hE := LJ_he hL
  obtain ⟨b, mm1, H1, n1, r1, D', s', H2, n2, r2, hw, hq, hE2, hL'⟩ := A_37 (G := G) hL
  exact ⟨_, D', s', H2, n2, r2, st_37 rcX0 hw rcM0 hq, hL'⟩
theorem go_38 (E : ENV G A H0 fl kd) (hC : SC A H0 a0 N f) (hi : 5 * t + 5 ≤ N) (ht : t < 600) (hL : LJ A H0 mm D s H n r t) : GO G A H0 a0 t (run G 41 0 2271 [some (.ref a0), some (.ref (ad A 11 0)), some (.ref (ad A 12 0)), some (.ref (A + 177)), some (.ref (A + 178)), some (.int (nI (5 * t))), o6, o7, o8] [] (S A H mm n r)) := by
  obtain ⟨E1, E2, E3, E4, E5, E6, E7⟩ := E
  have hE := LJ_he hL
  obtain ⟨b, mm1, H1, n1, r1, D', s', H2, n2, r2, hw, hq, hE2, hL'⟩ := A_38 (G := G) hL
  exact ⟨_, D', s', H2, n2, r2, st_38 rcX0 hw rcM0 hq, hL'⟩
theorem go_39 (E : ENV G A H0 fl kd) (hC : SC A H0 a0 N f) (hi : 5 * t + 5 ≤ N) (ht : t < 600) (hL : LJ A H0 mm D s H n r t) : GO G A H0 a0 t (run G 41 0 2284 [some (.ref a0), some (.ref (ad A 11 0)), some (.ref (ad A 12 0)), some (.ref (A + 177)), some (.ref (A + 178)), some (.int (nI (5 * t))), o6, o7, o8] [] (S A H mm n r)) := by
  obtain ⟨E1, E2, E3, E4, E5, E6, E7⟩ := E
  have hE := LJ_he hL
  obtain ⟨b, mm1, H1, n1, r1, D', s', H2, n2, r2, hw, hq, hE2, hL'⟩ := A_39 (G := G) hL
  exact ⟨_, D', s', H2, n2, r2, st_39 rcX0 hw rcM0 hq, hL'⟩
theorem go_40 (E : ENV G A H0 fl kd) (hC : SC A H0 a0 N f) (hi : 5 * t + 5 ≤ N) (ht : t < 600) (hL : LJ A H0 mm D s H n r t) : GO G A H0 a0 t (run G 41 0 2297 [some (.ref a0), some (.ref (ad A 11 0)), some (.ref (ad A 12 0)), some (.ref (A + 177)), some (.ref (A + 178)), some (.int (nI (5 * t))), o6, o7, o8] [] (S A H mm n r)) := by
  obtain ⟨E1, E2, E3, E4, E5, E6, E7⟩ := E
  have hE := LJ_he hL
  obtain ⟨kk, b, mm1, H1, n1, r1, D', s', H2, n2, r2, hw, hq, h6, hv, hE1, hE2, hL'⟩ := P_32 (G := G) E1 hL (f (5 * t + 1))
  exact ⟨_, D', s', H2, n2, r2, st_40 (SC_r hC hE (nI_s1 _) (by omega)) hw (SC_r hC (HE_trans hE hE1) (nI_s1 _) (by omega)) rcM0 hq rcM0 ((s189 40).trans (by rw [h6])) (fun hk => lC_r (hv hk)), hL'⟩
theorem go_41 (E : ENV G A H0 fl kd) (hC : SC A H0 a0 N f) (hi : 5 * t + 5 ≤ N) (ht : t < 600) (hL : LJ A H0 mm D s H n r t) : GO G A H0 a0 t (run G 41 0 2353 [some (.ref a0), some (.ref (ad A 11 0)), some (.ref (ad A 12 0)), some (.ref (A + 177)), some (.ref (A + 178)), some (.int (nI (5 * t))), o6, o7, o8] [] (S A H mm n r)) := by
  obtain ⟨E1, E2, E3, E4, E5, E6, E7⟩ := E
  have hE := LJ_he hL
  obtain ⟨b, mm1, H1, n1, r1, D', s', H2, n2, r2, hw, hq, hE2, hL'⟩ := A_41 (G := G) hL
  exact ⟨_, D', s', H2, n2, r2, st_41 rcX0 hw rcM0 hq, hL'⟩
theorem go_42 (E : ENV G A H0 fl kd) (hC : SC A H0 a0 N f) (hi : 5 * t + 5 ≤ N) (ht : t < 600) (hL : LJ A H0 mm D s H n r t) : GO G A H0 a0 t (run G 41 0 2366 [some (.ref a0), some (.ref (ad A 11 0)), some (.ref (ad A 12 0)), some (.ref (A + 177)), some (.ref (A + 178)), some (.int (nI (5 * t))), o6, o7, o8] [] (S A H mm n r)) := by
  obtain ⟨E1, E2, E3, E4, E5, E6, E7⟩ := E
  have hE := LJ_he hL
  obtain ⟨kk, b, mm1, H1, n1, r1, D', s', H2, n2, r2, hw, hq, h6, hv, hE1, hE2, hL'⟩ := P_33 (G := G) hL (f (5 * t + 1))
  exact ⟨_, D', s', H2, n2, r2, st_42 (SC_r hC hE (nI_s1 _) (by omega)) hw (SC_r hC (HE_trans hE hE1) (nI_s1 _) (by omega)) rcM0 hq rcM0 ((s189 40).trans (by rw [h6])) (fun hk => lC_r (hv hk)), hL'⟩
theorem go_43 (E : ENV G A H0 fl kd) (hC : SC A H0 a0 N f) (hi : 5 * t + 5 ≤ N) (ht : t < 600) (hL : LJ A H0 mm D s H n r t) : GO G A H0 a0 t (run G 41 0 2422 [some (.ref a0), some (.ref (ad A 11 0)), some (.ref (ad A 12 0)), some (.ref (A + 177)), some (.ref (A + 178)), some (.int (nI (5 * t))), o6, o7, o8] [] (S A H mm n r)) := by
  obtain ⟨E1, E2, E3, E4, E5, E6, E7⟩ := E
  have hE := LJ_he hL
  obtain ⟨b, mm1, H1, n1, r1, D', s', H2, n2, r2, hw, hq, hE2, hL'⟩ := A_43 (G := G) hL
  exact ⟨_, D', s', H2, n2, r2, st_43 rcX0 hw rcM0 hq, hL'⟩
theorem go_44 (E : ENV G A H0 fl kd) (hC : SC A H0 a0 N f) (hi : 5 * t + 5 ≤ N) (ht : t < 600) (hL : LJ A H0 mm D s H n r t) : GO G A H0 a0 t (run G 41 0 2435 [some (.ref a0), some (.ref (ad A 11 0)), some (.ref (ad A 12 0)), some (.ref (A + 177)), some (.ref (A + 178)), some (.int (nI (5 * t))), o6, o7, o8] [] (S A H mm n r)) := by
  obtain ⟨E1, E2, E3, E4, E5, E6, E7⟩ := E
  have hE := LJ_he hL
  obtain ⟨kk, v, mm1, H1, n1, r1, D', s', H2, n2, r2, hw, hq, h6, hv, hE2, hL'⟩ := P_34 (G := G) hL
  exact ⟨_, D', s', H2, n2, r2, st_44 hw rcM0 hq rcM0 ((s189 40).trans (by rw [h6])) (fun hk => dC_r (hv hk)), hL'⟩
theorem go_45 (E : ENV G A H0 fl kd) (hC : SC A H0 a0 N f) (hi : 5 * t + 5 ≤ N) (ht : t < 600) (hL : LJ A H0 mm D s H n r t) : GO G A H0 a0 t (run G 41 0 2500 [some (.ref a0), some (.ref (ad A 11 0)), some (.ref (ad A 12 0)), some (.ref (A + 177)), some (.ref (A + 178)), some (.int (nI (5 * t))), o6, o7, o8] [] (S A H mm n r)) := by
  obtain ⟨E1, E2, E3, E4, E5, E6, E7⟩ := E
  have hE := LJ_he hL
  obtain ⟨kk, v, mm1, H1, n1, r1, D', s', H2, n2, r2, hw, hq, h6, hv, hE2, hL'⟩ := P_35 (G := G) hL
  exact ⟨_, D', s', H2, n2, r2, st_45 hw rcM0 hq rcM0 ((s189 40).trans (by rw [h6])) (fun hk => ⟨dC_r (hv hk).1, (hv hk).2⟩), hL'⟩
theorem go_46 (E : ENV G A H0 fl kd) (hC : SC A H0 a0 N f) (hi : 5 * t + 5 ≤ N) (ht : t < 600) (hL : LJ A H0 mm D s H n r t) : GO G A H0 a0 t (run G 41 0 2566 [some (.ref a0), some (.ref (ad A 11 0)), some (.ref (ad A 12 0)), some (.ref (A + 177)), some (.ref (A + 178)), some (.int (nI (5 * t))), o6, o7, o8] [] (S A H mm n r)) := by
  obtain ⟨E1, E2, E3, E4, E5, E6, E7⟩ := E
  have hE := LJ_he hL
  obtain ⟨kk, b, mm1, H1, n1, r1, D', s', H2, n2, r2, hw, hq, h6, hv, hE1, hE2, hL'⟩ := P_36 (G := G) E3 (DG_c E7 hE) ht hL (f (5 * t + 1))
  exact ⟨_, D', s', H2, n2, r2, st_46 (SC_r hC hE (nI_s1 _) (by omega)) hw (SC_r hC (HE_trans hE hE1) (nI_s1 _) (by omega)) rcM0 hq rcM0 ((s189 40).trans (by rw [h6])) (fun hk => lC_r (hv hk)), hL'⟩
theorem go_47 (E : ENV G A H0 fl kd) (hC : SC A H0 a0 N f) (hi : 5 * t + 5 ≤ N) (ht : t < 600) (hL : LJ A H0 mm D s H n r t) : GO G A H0 a0 t (run G 41 0 2622 [some (.ref a0), some (.ref (ad A 11 0)), some (.ref (ad A 12 0)), some (.ref (A + 177)), some (.ref (A + 178)), some (.int (nI (5 * t))), o6, o7, o8] [] (S A H mm n r)) := by
  obtain ⟨E1, E2, E3, E4, E5, E6, E7⟩ := E
  have hE := LJ_he hL
  obtain ⟨b, mm1, H1, n1, r1, D', s', H2, n2, r2, hw, hq, hE2, hL'⟩ := A_47 (G := G) E3 (DG_c E7 hE) ht hL
  exact ⟨_, D', s', H2, n2, r2, st_47 rcX0 hw rcM0 hq, hL'⟩
theorem go_48 (E : ENV G A H0 fl kd) (hC : SC A H0 a0 N f) (hi : 5 * t + 5 ≤ N) (ht : t < 600) (hL : LJ A H0 mm D s H n r t) : GO G A H0 a0 t (run G 41 0 2635 [some (.ref a0), some (.ref (ad A 11 0)), some (.ref (ad A 12 0)), some (.ref (A + 177)), some (.ref (A + 178)), some (.int (nI (5 * t))), o6, o7, o8] [] (S A H mm n r)) := by
  obtain ⟨E1, E2, E3, E4, E5, E6, E7⟩ := E
  have hE := LJ_he hL
  obtain ⟨kk, b, mm1, H1, n1, r1, D', s', H2, n2, r2, hw, hq, h6, hv, hE1, hE2, hL'⟩ := P_37 (G := G) E3 E2 hL (f (5 * t + 1))
  exact ⟨_, D', s', H2, n2, r2, st_48 (SC_r hC hE (nI_s1 _) (by omega)) hw (SC_r hC (HE_trans hE hE1) (nI_s1 _) (by omega)) rcM0 hq rcM0 ((s189 40).trans (by rw [h6])) (fun hk => lC_r (hv hk)), hL'⟩
theorem go_49 (E : ENV G A H0 fl kd) (hC : SC A H0 a0 N f) (hi : 5 * t + 5 ≤ N) (ht : t < 600) (hL : LJ A H0 mm D s H n r t) : GO G A H0 a0 t (run G 41 0 2691 [some (.ref a0), some (.ref (ad A 11 0)), some (.ref (ad A 12 0)), some (.ref (A + 177)), some (.ref (A + 178)), some (.int (nI (5 * t))), o6, o7, o8] [] (S A H mm n r)) := by
  obtain ⟨E1, E2, E3, E4, E5, E6, E7⟩ := E
  have hE := LJ_he hL
  obtain ⟨b, mm1, H1, n1, r1, D', s', H2, n2, r2, hw, hq, hE2, hL'⟩ := A_49 (G := G) hL
  exact ⟨_, D', s', H2, n2, r2, st_49 rcX0 hw rcM0 hq, hL'⟩
theorem go_50 (E : ENV G A H0 fl kd) (hC : SC A H0 a0 N f) (hi : 5 * t + 5 ≤ N) (ht : t < 600) (hL : LJ A H0 mm D s H n r t) : GO G A H0 a0 t (run G 41 0 2704 [some (.ref a0), some (.ref (ad A 11 0)), some (.ref (ad A 12 0)), some (.ref (A + 177)), some (.ref (A + 178)), some (.int (nI (5 * t))), o6, o7, o8] [] (S A H mm n r)) := by
  obtain ⟨E1, E2, E3, E4, E5, E6, E7⟩ := E
  have hE := LJ_he hL
  obtain ⟨kk, b, mm1, H1, n1, r1, D', s', H2, n2, r2, hw, hq, h6, hv, hE1, hE2, hL'⟩ := P_38 (G := G) hL (((f (5 * t + 1)).toUInt32 % 65536).toInt32)
  exact ⟨_, D', s', H2, n2, r2, st_50 (SC_r hC hE (nI_s1 _) (by omega)) hw (SC_r hC (HE_trans hE hE1) (nI_s1 _) (by omega)) rcM0 hq rcM0 ((s189 40).trans (by rw [h6])) (fun hk => lC_r (hv hk)), hL'⟩
theorem go_51 (E : ENV G A H0 fl kd) (hC : SC A H0 a0 N f) (hi : 5 * t + 5 ≤ N) (ht : t < 600) (hL : LJ A H0 mm D s H n r t) : GO G A H0 a0 t (run G 41 0 2762 [some (.ref a0), some (.ref (ad A 11 0)), some (.ref (ad A 12 0)), some (.ref (A + 177)), some (.ref (A + 178)), some (.int (nI (5 * t))), o6, o7, o8] [] (S A H mm n r)) := by
  obtain ⟨E1, E2, E3, E4, E5, E6, E7⟩ := E
  have hE := LJ_he hL
  obtain ⟨kk, b, mm1, H1, n1, r1, D', s', H2, n2, r2, hw, hq, h6, hv, hE1, hE2, hL'⟩ := P_39 (G := G) E2 E1 (KN_c E4 hE) (SW_c E5 hE) (WS_c E6 hE) ht hL
  exact ⟨_, D', s', H2, n2, r2, st_51  hw  rcM0 hq rcM0 ((s189 40).trans (by rw [h6])) (fun hk => lC_r (hv hk)), hL'⟩
theorem go_52 (E : ENV G A H0 fl kd) (hC : SC A H0 a0 N f) (hi : 5 * t + 5 ≤ N) (ht : t < 600) (hL : LJ A H0 mm D s H n r t) : GO G A H0 a0 t (run G 41 0 2806 [some (.ref a0), some (.ref (ad A 11 0)), some (.ref (ad A 12 0)), some (.ref (A + 177)), some (.ref (A + 178)), some (.int (nI (5 * t))), o6, o7, o8] [] (S A H mm n r)) := by
  obtain ⟨E1, E2, E3, E4, E5, E6, E7⟩ := E
  have hE := LJ_he hL
  obtain ⟨kk, b, mm1, H1, n1, r1, D', s', H2, n2, r2, hw, hq, h6, hv, hE1, hE2, hL'⟩ := P_40 (G := G) hL
  exact ⟨_, D', s', H2, n2, r2, st_52  hw  rcM0 hq rcM0 ((s189 40).trans (by rw [h6])) (fun hk => lC_r (hv hk)), hL'⟩
theorem go_53 (E : ENV G A H0 fl kd) (hC : SC A H0 a0 N f) (hi : 5 * t + 5 ≤ N) (ht : t < 600) (hL : LJ A H0 mm D s H n r t) : GO G A H0 a0 t (run G 41 0 2850 [some (.ref a0), some (.ref (ad A 11 0)), some (.ref (ad A 12 0)), some (.ref (A + 177)), some (.ref (A + 178)), some (.int (nI (5 * t))), o6, o7, o8] [] (S A H mm n r)) := by
  obtain ⟨E1, E2, E3, E4, E5, E6, E7⟩ := E
  have hE := LJ_he hL
  obtain ⟨kk, b, mm1, H1, n1, r1, D', s', H2, n2, r2, hw, hq, h6, hv, hE1, hE2, hL'⟩ := P_41 (G := G) hL
  exact ⟨_, D', s', H2, n2, r2, st_53  hw  rcM0 hq rcM0 ((s189 40).trans (by rw [h6])) (fun hk => lC_r (hv hk)), hL'⟩
theorem go_54 (E : ENV G A H0 fl kd) (hC : SC A H0 a0 N f) (hi : 5 * t + 5 ≤ N) (ht : t < 600) (hL : LJ A H0 mm D s H n r t) : GO G A H0 a0 t (run G 41 0 2894 [some (.ref a0), some (.ref (ad A 11 0)), some (.ref (ad A 12 0)), some (.ref (A + 177)), some (.ref (A + 178)), some (.int (nI (5 * t))), o6, o7, o8] [] (S A H mm n r)) := by
  obtain ⟨E1, E2, E3, E4, E5, E6, E7⟩ := E
  have hE := LJ_he hL
  obtain ⟨kk, b, mm1, H1, n1, r1, D', s', H2, n2, r2, hw, hq, h6, hv, hE1, hE2, hL'⟩ := P_42 (G := G) hL
  exact ⟨_, D', s', H2, n2, r2, st_54  hw  rcM0 hq rcM0 ((s189 40).trans (by rw [h6])) (fun hk => lC_r (hv hk)), hL'⟩
theorem go_55 (E : ENV G A H0 fl kd) (hC : SC A H0 a0 N f) (hi : 5 * t + 5 ≤ N) (ht : t < 600) (hL : LJ A H0 mm D s H n r t) : GO G A H0 a0 t (run G 41 0 2938 [some (.ref a0), some (.ref (ad A 11 0)), some (.ref (ad A 12 0)), some (.ref (A + 177)), some (.ref (A + 178)), some (.int (nI (5 * t))), o6, o7, o8] [] (S A H mm n r)) := by
  obtain ⟨E1, E2, E3, E4, E5, E6, E7⟩ := E
  have hE := LJ_he hL
  obtain ⟨b, mm1, H1, n1, r1, D', s', H2, n2, r2, hw, hq, hE2, hL'⟩ := A_55 (G := G) hL
  exact ⟨_, D', s', H2, n2, r2, st_55 rcX0 hw rcM0 hq, hL'⟩
theorem go_56 (E : ENV G A H0 fl kd) (hC : SC A H0 a0 N f) (hi : 5 * t + 5 ≤ N) (ht : t < 600) (hL : LJ A H0 mm D s H n r t) : GO G A H0 a0 t (run G 41 0 2951 [some (.ref a0), some (.ref (ad A 11 0)), some (.ref (ad A 12 0)), some (.ref (A + 177)), some (.ref (A + 178)), some (.int (nI (5 * t))), o6, o7, o8] [] (S A H mm n r)) := by
  obtain ⟨E1, E2, E3, E4, E5, E6, E7⟩ := E
  have hE := LJ_he hL
  obtain ⟨b, mm1, H1, n1, r1, D', s', H2, n2, r2, hw, hq, hE2, hL'⟩ := A_56 (G := G) hL
  exact ⟨_, D', s', H2, n2, r2, st_56 rcX0 hw rcM0 hq, hL'⟩
theorem go_57 (E : ENV G A H0 fl kd) (hC : SC A H0 a0 N f) (hi : 5 * t + 5 ≤ N) (ht : t < 600) (hL : LJ A H0 mm D s H n r t) : GO G A H0 a0 t (run G 41 0 2964 [some (.ref a0), some (.ref (ad A 11 0)), some (.ref (ad A 12 0)), some (.ref (A + 177)), some (.ref (A + 178)), some (.int (nI (5 * t))), o6, o7, o8] [] (S A H mm n r)) := by
  obtain ⟨E1, E2, E3, E4, E5, E6, E7⟩ := E
  have hE := LJ_he hL
  obtain ⟨kk, b, mm1, H1, n1, r1, D', s', H2, n2, r2, hw, hq, h6, hv, hE1, hE2, hL'⟩ := P_43 (G := G) hL
  exact ⟨_, D', s', H2, n2, r2, st_57  hw  rcM0 hq rcM0 ((s189 40).trans (by rw [h6])) (fun hk => lC_r (hv hk)), hL'⟩
end
