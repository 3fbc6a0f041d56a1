/-! THE LAW'S LOOP, part 10: the commands are run, both. -/
theorem ex1_c {Z : Bd} {L : Nat} : (∀ i, i ≠ 9 → ex1 Z L 0 i = Z 0 i) ∧ (∀ i, ex1 Z L 1 i = Z 1 i) ∧ ex1 Z L 0 9 = (fnd (cX Z) L 60 0 (ud Z 11 3 0) (stO Z)).1 ∧ (WZ Z L → WZ (ex1 Z L) 0) := by
  obtain ⟨n1, n2⟩ := fnd_n (cX Z) L 60 0 (ud Z 11 3 0) (stO Z)
  refine ⟨fun i hi => ?_, fun i => ?_, ?_, fun hz => ?_⟩
  · unfold ex1
    rw [ud_ni hi, em_o (by omega) (by omega), ud_nc (by omega), ud_nc (by omega), n1 0 i (by omega) (by omega), ud_nc (by omega)]
  · unfold ex1
    rw [ud_nc (by omega), em_o (by omega) (by omega), ud_nc (by omega), ud_nc (by omega), n1 1 i (by omega) (by omega), ud_nc (by omega)]
  · unfold ex1; rw [ud_eq]
  · obtain ⟨ez1, ez2, ez3⟩ := WZ_em hz
    obtain ⟨_, f60, f3⟩ := fnd_ok (cX Z) L 60 0 0 (ud Z 11 3 0) (stO Z) (by omega) (by omega) hz.2.1 ez2 ez3 (by rw [ud_eq]; rfl) (fun j hj => absurd hj (by omega))
    unfold ex1
    refine ⟨?_, by omega, ⟨_, f60, ?_⟩, ⟨_, f3, ?_⟩⟩
    · rw [ud_nc (by omega), em_f (by omega) (by omega) (by omega), ud_ni (by omega), ud_eq]; rfl
    · rw [ud_nc (by omega), em_4]
    · rw [ud_nc (by omega), em_7]
/-- the class's commands, run -/
theorem exC_c {mm : Mm} {L cc : Nat} (hz : WZ (mm 11) L) (hcc : cc ≤ 60) (hst : ∀ j, j < cc → ∃ a, a ≤ L ∧ (fnd (cX (mm 11)) L 60 0 (ud (mm 11) 11 3 0) (stO (mm 11))).2.1 13 j = nI a) : (∀ i, exC (exR mm L cc).2.2 0 i = mm 11 0 i) ∧ (∀ i, exC (exR mm L cc).2.2 1 i = mm 11 1 i) ∧ WZ (exC (exR mm L cc).2.2) 0 := by
  obtain ⟨n1, n2⟩ := fnd_n (cX (mm 11)) L 60 0 (ud (mm 11) 11 3 0) (stO (mm 11))
  obtain ⟨ez1, ez2, ez3⟩ := WZ_em hz
  obtain ⟨_, f60, f3⟩ := fnd_ok (cX (mm 11)) L 60 0 0 (ud (mm 11) 11 3 0) (stO (mm 11)) (by omega) (by omega) hz.2.1 ez2 ez3 (by rw [ud_eq]; rfl) (fun j hj => absurd hj (by omega))
  obtain ⟨r1, r2⟩ := runC_n (cX (mm 11)) L cc cc (mm 0) (ex2 (mm 11) L)
  have hz2 : WZ (ex2 (mm 11) L) L := by
    unfold ex2
    refine ⟨?_, hz.2.1, ⟨_, f60, em_4 _ _⟩, ⟨_, f3, em_7 _ _⟩⟩
    rw [em_f (by omega) (by omega) (by omega), n2 1 (by omega), ud_ni (by omega)]; exact hz.1
  have hst2 : ∀ j, j < cc → ∃ a, a ≤ L ∧ ex2 (mm 11) L 13 j = nI a := by
    intro j hj; unfold ex2; rw [em_o (by omega) (by omega)]; exact hst j hj
  obtain ⟨w1, w2, w3, w4⟩ := runC_WZ (cX (mm 11)) hz.2.1 cc (mm 0) (ex2 (mm 11) L) hz2 (Nat.le_refl cc) hst2
  have eR : runC (cX (mm 11)) L cc cc (mm 0) (ex2 (mm 11) L) = exR mm L cc := rfl
  rw [eR] at r1 r2 w1 w3 w4
  refine ⟨fun i => ?_, fun i => ?_, ?_, by omega, ?_, ?_⟩
  · unfold exC
    rw [ud_nc (by omega), ud_nc (by omega), r1 0 i (by omega) (by omega) (by omega) (by omega)]
    unfold ex2
    rw [em_o (by omega) (by omega), n1 0 i (by omega) (by omega), ud_nc (by omega)]
  · unfold exC
    rw [ud_nc (by omega), ud_nc (by omega), r1 1 i (by omega) (by omega) (by omega) (by omega)]
    unfold ex2
    rw [em_o (by omega) (by omega), n1 1 i (by omega) (by omega), ud_nc (by omega)]
  · unfold exC; rw [ud_ni (by omega), ud_eq]; rfl
  · obtain ⟨a, ha, e⟩ := w3
    exact ⟨a, ha, by unfold exC; rw [ud_ni (by omega), ud_ni (by omega)]; exact e⟩
  · obtain ⟨a, ha, e⟩ := w4
    exact ⟨a, ha, by unfold exC; rw [ud_ni (by omega), ud_ni (by omega)]; exact e⟩
section
variable {G : Glb} {A n r t : Nat} {H H0 : Hp} {mm : Mm} {D : Bd} {s : Nat → Int32} {fl kd : Nat → Nat}
theorem pe_0 {D : Bd} {f e : Int32} {i : Nat} (h10 : i ≠ 10) (h12 : i ≠ 12) (h13 : i ≠ 13) : pe D f e 0 i = D 0 i := by unfold pe; rw [ud_ni h10, ud_ni h13, ud_ni h12]
theorem pe_c {D : Bd} {f e : Int32} {c : Nat} (h : c ≠ 0) : pe D f e c = D c := by unfold pe; rw [ud_nc h, ud_nc h, ud_nc h]
theorem pe_13 {D : Bd} {f e : Int32} : pe D f e 0 13 = e := by unfold pe; rw [ud_ni (by omega), ud_eq]
theorem pe_10 {D : Bd} {f e : Int32} : pe D f e 0 10 = 0 := by unfold pe; rw [ud_eq]
theorem kD_0 {D : Bd} {s : Nat → Int32} {i : Nat} (h : i ≠ 6) : kD D s 0 i = D 0 i := by unfold kD; rw [us_ne (by omega), ud_ni h]
theorem kD_c {D : Bd} {s : Nat → Int32} {c : Nat} (h : c ≠ 0) (h2 : c ≠ 2) : kD D s c = D c := by unfold kD; rw [us_ne h2, ud_nc h]
theorem P_39 (hgs : GS G) (hg : GF G fl) (hk : KN G H A kd) (hs : SW G H A) (hws : WS G H A) (ht : t < 600) (hL : LJ A H0 mm D s H n r t) : PAIR G A H0 mm H n r t 39 294 [] [] oJ := by
  obtain ⟨h12, _, ⟨L, z1, z2, z3⟩, ⟨hE1, hE2⟩, _, hHE, hLX⟩ := id hL
  obtain ⟨k, p, g, C, u, cp, cb, hC, hn, hk10, hp, hq, hv, h2, hu, hu8, hh, hDu, hid⟩ := LJ_get hL
  have hL60 := z1.2.1
  have hRE : RE (mm 0) s (2970 * (t + 1)) := ⟨k, p, g, cp, CB_le cb (by omega)⟩
  have hc : ∀ i, i < L → cX (mm 11) i = cM D i := fun i hi => by unfold cX cM; rw [z3 i hi]
  have h16 : ∀ i, sh16 (cX (mm 11) i) = cX (mm 11) i := fun i => sh16_nar _
  have hf := fnd_sim hc h16 hL60 60 0 L (ud (mm 11) 11 3 0) (stO (mm 11)) (D 7) (Nat.le_refl _) (Nat.zero_le _) (by omega) (by omega) (by rw [ud_eq]; rfl) (fun j hj => absurd hj (by omega))
  have ep : rcL (cM D) L L (rc (cM D) L (0, 0, 60 - 60, D 7)) = pz (cM D) L (D 7) := rfl
  rw [ep] at hf
  have hs96 := s96 (G := G) (A := A) (n := n) (r := r) (H := H) (m := mm) (u := u) (k := k) (p := p) hgs hg hk hs cp.1.1 z1 hu hu8 hh 31
  have hpc : (pz (cM D) L (D 7)).1 ≤ L ∧ (pz (cM D) L (D 7)).2.2.1 ≤ 20 := by
    have := s294_h (G := G) (A := A) (n := n) (r := r) (H := H) (m := mm) (s := s) hgs hws z2 hL60 34
    exact ⟨this.1, this.2.1⟩
  obtain ⟨hp1, hp20⟩ := hpc
  rcases hf with ⟨f1, f2, f3, f4, f5, f6⟩ | ⟨f1, f2, f3⟩
  · obtain ⟨cc, hcc, ecc, hst, hcall⟩ := hs96.2 f3
    have ecc2 : cc = (pz (cM D) L (D 7)).2.2.1 := by
      rw [f5] at ecc; exact (nI_inj (by omega) (by omega) ecc).symm
    obtain ⟨c1, c2, c3⟩ := exC_c z1 hcc hst
    have hrun := run_sim hc h16 f6 hL60 (pz (cM D) L (D 7)).2.2.1 (mm 0) (ex2 (mm 11) L) s k p g C (Nat.le_refl _) cp cb (by omega) (fun j => by unfold ex2; rw [em_o (by omega) (by omega)])
    rw [Nat.sub_self] at hrun
    have hq0 : ∀ m H' n' r', HE A H H' → call G 40 294 [.ref (ad A 12 0)] (S A H' (sb m 12 (us D 1 s)) n' r') = run G 40 294 126 [some (.ref (ad A 12 0)), some (.int 0)] [] (S A H' (sb m 12 (us (kD (pe (pm D (pz (cM D) L (D 7))) 0 (D 0 13)) s) 1 s)) n' r') := fun m H' n' r' hE => s294_k hgs (WS_c hws hE) z2 hL60 ⟨f1, f2⟩ 34
    have hl0 : ∀ m H' n' r', run G 40 294 126 [some (.ref (ad A 12 0)), some (.int 0)] [] (S A H' (sb m 12 (us (kD (pe (pm D (pz (cM D) L (D 7))) 0 (D 0 13)) s) 1 s)) n' r') = _ := fun m H' n' r' => s294_l (G := G) (A := A) (n := n') (r := r') (H := H') (m := m) (D := kD (pe (pm D (pz (cM D) L (D 7))) 0 (D 0 13)) s) (u := u) (J := FJ) (fun _ h => h) (C := (pz (cM D) L (D 7)).2.2.2) (fun _ i h h0 => FJ_mdo _ i h h0) hp20 (by rw [kD_c (by omega) (by omega), pe_c (by omega), pm_7]) (by rw [kD_0 (by omega), pe_0 (by omega) (by omega) (by omega), pm_16]) (kD_06 ..) (by rw [kD_05, pe_0 (by omega) (by omega) (by omega), pm_f (by omega) (by omega) (by omega)]; exact hDu) hu8 34 (pz (cM D) L (D 7)).2.2.1 0 s (by omega) (FJ_CP cp)
    subst ecc2
    have eR : runC (cX (mm 11)) L (pz (cM D) L (D 7)).2.2.1 (pz (cM D) L (D 7)).2.2.1 (mm 0) (ex2 (mm 11) L) = exR mm L (pz (cM D) L (D 7)).2.2.1 := rfl
    rw [eR] at hrun
    generalize exR mm L (pz (cM D) L (D 7)).2.2.1 = R at *
    generalize exC R.2.2 = X at *
    generalize pz (cM D) L (D 7) = st at *
    have d0 : ∀ i, i ≠ 10 → i ≠ 11 → i ≠ 12 → i ≠ 16 → pe (pm D st) 0 (D 0 13) 0 i = D 0 i := fun i h10 h11 h12 h16 => by
      by_cases e : i = 13
      · subst e; exact pe_13
      · rw [pe_0 h10 h12 e, pm_f h11 h12 h16]
    have dc : ∀ c, c ≠ 0 → c ≠ 7 → pe (pm D st) 0 (D 0 13) c = D c := fun c h h7 => by rw [pe_c h, pm_o h h7]
    have d10 : pe (pm D st) 0 (D 0 13) 0 10 = 0 := pe_10
    generalize pe (pm D st) 0 (D 0 13) = D0 at *
    cases hex : exM st.2.2.2 st.2.2.1 0 s with
    | mk s' o =>
      rw [hex] at hrun hl0
      rcases hrun with ⟨r1, r2, k', p', g', cp', cb'⟩ | ⟨j, f, hj, r1, r2⟩
      · have r2' : o = none := r2
        subst r2'
        rw [if_pos r1] at hcall
        have hw := w39_v (a1 := A + 177) rcX0 hcall (lC_w hLX _)
        obtain ⟨M, hM⟩ : ∃ M, M = sb (sb (bgM mm) 11 X) 0 R.2.1 := ⟨_, rfl⟩
        rw [← hM] at hw
        have hM11 : M 11 = X := by rw [hM, sb_ne (by omega), sb_eq]
        have hM0 : M 0 = R.2.1 := by rw [hM, sb_eq]
        have hM1 : M 1 = cpB (mm 1) (mm 0) := by rw [hM, sb_ne (by omega), sb_ne (by omega)]; unfold bgM; rw [sb_eq]
        have hMb : ∀ b, b ≠ 0 → b ≠ 1 → b ≠ 11 → M b = mm b := fun b h0 h1 h11 => by rw [hM, sb_ne h0, sb_ne h11, bg_ne h1]
        have hHW : HW (M 11) := by rw [hM11]; exact HW_c hh c2
        have h12' : fiM M u 12 = mm 12 := by rw [fi_12 hHW hu8, hMb 12 (by omega) (by omega) (by omega)]
        have hq := (hq0 (fiM M u) (hset H (A + 177) (lC (nI st.2.2.1).toInt64)) n r (HE_set (by omega))).trans (hl0 _ _ _ _)
        rw [LJ_mm hL h12'] at hq
        have hLm : LJ A H0 (sb (sb mm 11 X) 12 (us D0 1 s)) D0 s H n r t := LJ_rd hL (Nat.le_refl _) (M := sb mm 11 X) (fun b h0 h1 h11 _ => sb_ne h11) (by rw [sb_ne (by omega)]; exact ⟨k, p, g, cp, CB_le cb hC⟩) (fun i _ _ => by rw [sb_eq]; exact c1 i) (fun i => by rw [sb_eq]; exact c2 i) (by rw [sb_eq]; exact c3) (fun i hi => d0 i (by omega) (by omega) (by omega) (by omega)) (fun c h3 h7 => dc c (by omega) (by omega)) d10 (by rw [sb_eq, c1, d0 13 (by omega) (by omega) (by omega) (by omega)]; exact hE1) (by rw [sb_eq, c1, d0 14 (by omega) (by omega) (by omega) (by omega)]; exact hE2) (HE_rfl A H) hLX (SBK_n (Nat.le_refl _)) (by omega) (by omega)
        have m11 : ∀ Y, sb (sb mm 11 X) 12 Y 11 = X := fun Y => by rw [sb_ne (by omega), sb_eq]
        have hfin := LJ_ch hLm (M := M) (u := u) (B' := R.2.1) (s' := s') (H' := hset H (A + 177) (lC (nI st.2.2.1).toInt64)) (n' := n) (r' := r) (by rw [m11, c1]; exact hu) hu8 (fun b h0 h1 h11 hb12 => by rw [hMb b h0 h1 h11, sb_ne hb12, sb_ne h11]) hM0 (by rw [hM1, sb_ne (by omega), sb_ne (by omega), sb_ne (by omega), sb_ne (by omega)]) (fun c i _ => by rw [hM11, m11]) ⟨k', p', g', cp', CB_le cb' (by omega)⟩ (HE_set (by omega)) (LX_177 hLX _) (SBK_q (by omega) (Or.inl (by omega)) (Nat.le_refl _)) (by omega) (by omega)
        exact ⟨0, nI st.2.2.1, fiM M u, hset H (A + 177) (lC (nI st.2.2.1).toInt64), n, r, enD (kD D0 s) u, s', hset H (A + 177) (lC (nI st.2.2.1).toInt64), n, r, hw, hq, (en_o hu8).2.2.2, fun _ => hset_at .., HE_set (by omega), HE_set (by omega), hfin⟩
      · have r2' : o = some (j, f) := r2
        subst r2'
        rw [if_neg (by rw [r1]; exact nI_nm1 (by omega)), r1] at hcall
        have hw := w39_x2 (a1 := A + 177) rcX0 hcall (by decide +kernel)
        obtain ⟨M, hM⟩ : ∃ M, M = sb (sb (bgM mm) 11 (ud X 0 10 (nI j))) 0 (cpB R.2.1 (cpB (mm 1) (mm 0))) := ⟨_, rfl⟩
        rw [← hM] at hw
        have hM11 : M 11 = ud X 0 10 (nI j) := by rw [hM, sb_ne (by omega), sb_eq]
        have hM0 : M 0 = cpB R.2.1 (cpB (mm 1) (mm 0)) := by rw [hM, sb_eq]
        have hMb : ∀ b, b ≠ 0 → b ≠ 1 → b ≠ 11 → M b = mm b := fun b h0 h1 h11 => by rw [hM, sb_ne h0, sb_ne h11, bg_ne h1]
        have hq := (hq0 M H (n + 1) (r + 6) (HE_rfl A H)).trans (hl0 _ _ _ _)
        rw [LJ_mm hL (hMb 12 (by omega) (by omega) (by omega))] at hq
        have hs'' : ∀ i, i < 93 → s i = cpf (kD D0 s 2) s' 0 0 93 i := fun i hi => by rw [cpf_in hi, kD_2, cpf_in hi]
        refine ⟨2, 0, M, H, n + 1, r + 6, _, _, H, n + 1, r + 6, hw, hq, ud_eq .., fun h => absurd h not2, HE_rfl A H, HE_rfl A H, LJ_rd hL (by omega) (fun b h0 h1 h11 _ => hMb b h0 h1 h11) (by rw [hM0]; exact RE_cp (RE_cp hRE (fun _ _ => rfl) (Nat.le_refl _)) hs'' (Nat.le_refl _)) (fun i _ h10 => by rw [hM11, ud_ni h10]; exact c1 i) (fun i => by rw [hM11, ud_nc (by omega)]; exact c2 i) (by rw [hM11]; exact WZ_c c3 fun i => by rw [ud_nc (by omega)]) (fun i hi => ?_) (fun c h3 h7 => ?_) ?_ ?_ (Or.inr ⟨j, by omega, ?_, ?_⟩) (HE_rfl A H) hLX (SBK_n (by omega)) (by omega) (by omega)⟩
        · rw [ud_ni (by omega), ud_ni (by omega), ud_ni (by omega), kD_0 (by omega), d0 i (by omega) (by omega) (by omega) (by omega)]
        · rw [ud_nc (by omega), ud_nc (by omega), ud_nc (by omega), kD_c (by omega) (by omega), dc c (by omega) (by omega)]
        · rw [ud_ni (by omega), ud_ni (by omega), ud_ni (by omega), kD_0 (by omega), d10]
        · rw [hM11, ud_ni (by omega), c1, ud_ni (by omega), ud_ni (by omega), ud_ni (by omega), kD_0 (by omega), d0 13 (by omega) (by omega) (by omega) (by omega)]; exact hE1
        · rw [hM11, ud_eq]
        · rw [ud_ni (by omega), ud_eq]
  · have hne : ¬ (fnd (cX (mm 11)) L 60 0 (ud (mm 11) 11 3 0) (stO (mm 11))).1 = -1 := by rw [f3]; exact nI_nm1 (by omega)
    have hw := hs96.1 hne
    have hq := s294e (G := G) (A := A) (n := n + 1) (r := r + 6) (H := H) (m := sb mm 11 (ex1 (mm 11) L)) (s := s) hgs hws z2 hL60 f1 34
    obtain ⟨c1, c2, c3, c4⟩ := ex1_c (Z := mm 11) (L := L)
    rw [LJ_mm hL (sb_ne (by omega))] at hq
    generalize ex1 (mm 11) L = X at *
    generalize pz (cM D) L (D 7) = st at *
    refine ⟨1, 0, sb mm 11 X, H, n + 1, r + 6, ud (pe (pm D st) 1 (nI st.1)) 0 6 1, s, H, n + 1, r + 6, w39_x1 rcX0 hw (by decide +kernel), hq, ud_eq .., fun h => absurd h not1, HE_rfl A H, HE_rfl A H, LJ_rd hL (by omega) (fun b h0 h1 h11 _ => sb_ne h11) (by rw [sb_ne (by omega)]; exact hRE) (fun i h9 _ => by rw [sb_eq]; exact c1 i h9) (fun i => by rw [sb_eq]; exact c2 i) (by rw [sb_eq]; exact c4 z1) (fun i hi => ?_) (fun c h3 h7 => ?_) ?_ (Or.inr ⟨st.1, by omega, ?_, ?_⟩) ?_ (HE_rfl A H) hLX (SBK_n (by omega)) (by omega) (by omega)⟩
    · rw [ud_ni (by omega), pe_0 (by omega) (by omega) (by omega), pm_f (by omega) (by omega) (by omega)]
    · rw [ud_nc (by omega), pe_c (by omega), pm_o (by omega) (by omega)]
    · rw [ud_ni (by omega), pe_10]
    · rw [sb_eq, c3]; exact f3
    · rw [ud_ni (by omega), pe_13]
    · rw [sb_eq, c1 10 (by omega), ud_ni (by omega), pe_0 (by omega) (by omega) (by omega), pm_f (by omega) (by omega) (by omega)]; exact hE2
end
