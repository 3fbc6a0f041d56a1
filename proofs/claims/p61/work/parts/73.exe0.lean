/-! THE LAW'S COMMANDS: a text is fed and executed. -/
theorem WZ_d {X Y : Bd} {L : Nat} (h : WZ X L) (h' : ∀ i, Y 11 i = X 11 i) : WZ Y L := by
  obtain ⟨a1, a2, a3, a4⟩ := h
  exact ⟨by rw [h']; exact a1, a2, by rw [h']; exact a3, by rw [h']; exact a4⟩
theorem sh16_nar (x : Int32) : sh16 (vp_nar .char x) = vp_nar .char x := by
  show (((x.toUInt32 % 65536).toInt32).toUInt32 % 65536).toInt32 = (x.toUInt32 % 65536).toInt32
  rw [UInt32.toUInt32_toInt32]
  congr 1
  apply UInt32.toNat_inj.mp
  rw [UInt32.toNat_mod, UInt32.toNat_mod]
  exact Nat.mod_mod _ _
theorem runC_WZ (c : Nat → Int32) {L cc : Nat} (hL : L ≤ 60) : ∀ (t : Nat) (B Z : Bd), WZ Z L → t ≤ cc → (∀ j, j < cc → ∃ a, a ≤ L ∧ Z 13 j = nI a) → WZ (runC c L cc t B Z).2.2 L := by
  intro t
  induction t with
  | zero => intro B Z hz _ _; exact hz
  | succ t ih =>
    intro B Z hz ht hj
    rw [runC_s]
    obtain ⟨a, ha, ea⟩ := hj (cc - (t + 1)) (by omega)
    obtain ⟨_, z2, _⟩ := WZ_em hz
    have ec : (Z 13 (cc - (t + 1))).toNatClampNeg = a := by rw [ea]; exact nI_clamp (by omega)
    rw [ec]
    obtain ⟨l1, l2⟩ := ra_le (c := c) (a := a) ha 9 a (stO Z) ha z2
    have hE : WZ (em Z (ra c L a 9 a (stO Z)).2) L := ⟨by rw [em_f (by omega) (by omega) (by omega)]; exact hz.1, hL, ⟨_, Nat.le_trans l1 hL, em_4 ..⟩, ⟨_, l2, em_7 ..⟩⟩
    have h13 : ∀ j, em Z (ra c L a 9 a (stO Z)).2 13 j = Z 13 j := fun j => by rw [em_o (by omega) (by omega)]
    cases hr : (ra c L a 9 a (stO Z)).1 with
    | none => exact hE
    | some k =>
      dsimp only
      generalize em Z (ra c L a 9 a (stO Z)).2 = E at *
      have hP : WZ (pf B E (kO B) (pO B) k).2.2 L := WZ_d hE fun i => by rw [pf_Z (by omega) (by omega)]
      split
      · exact ih _ _ hP (by omega) (fun j hjc => by
          obtain ⟨b, hb, eb⟩ := hj j hjc
          exact ⟨b, hb, by rw [pf_Z (by omega) (by omega), h13]; exact eb⟩)
      · exact hP
theorem ex1_c {Z : Bd} {L : Nat} : (∀ i, i ≠ 9 → ex1 Z L 0 i = Z 0 i) ∧ (∀ i, ex1 Z L 1 i = Z 1 i) ∧ ex1 Z L 0 9 = (fnd (cX Z) L 60 0 (ud Z 11 3 0) (stO Z)).1 ∧ (WZ Z L → WZ (ex1 Z L) 0) := by
  obtain ⟨n1, n2⟩ := fnd_n (cX Z) L 60 0 (ud Z 11 3 0) (stO Z)
  refine ⟨fun i hi => ?_, fun i => ?_, ?_, fun hz => ?_⟩
  · unfold ex1
    rw [ud_ni hi, em_o (by omega) (by omega), ud_nc (by omega), ud_nc (by omega), n1 0 i (by omega) (by omega), ud_nc (by omega)]
  · unfold ex1
    rw [ud_nc (by omega), em_o (by omega) (by omega), ud_nc (by omega), ud_nc (by omega), n1 1 i (by omega) (by omega), ud_nc (by omega)]
  · unfold ex1; rw [ud_eq]
  · obtain ⟨ez1, ez2, ez3⟩ := WZ_em hz
    obtain ⟨_, f60, f3⟩ := fnd_ok (cX Z) L 60 0 0 (ud Z 11 3 0) (stO Z) (by omega) (by omega) hz.2.1 ez2 ez3 (by rw [ud_eq]; rfl) (fun j hj => absurd hj (by omega))
    unfold ex1
    refine ⟨?_, by omega, ⟨_, f60, ?_⟩, ⟨_, f3, ?_⟩⟩
    · rw [ud_nc (by omega), em_f (by omega) (by omega) (by omega), ud_ni (by omega), ud_eq]; rfl
    · rw [ud_nc (by omega), em_4]
    · rw [ud_nc (by omega), em_7]
theorem exC_c {mm : Mm} {L cc : Nat} (hz : WZ (mm 11) L) (hcc : cc ≤ 60) (hst : ∀ j, j < cc → ∃ a, a ≤ L ∧ (fnd (cX (mm 11)) L 60 0 (ud (mm 11) 11 3 0) (stO (mm 11))).2.1 13 j = nI a) : (∀ i, exC (exR mm L cc).2.2 0 i = mm 11 0 i) ∧ (∀ i, exC (exR mm L cc).2.2 1 i = mm 11 1 i) ∧ WZ (exC (exR mm L cc).2.2) 0 := by
  obtain ⟨n1, n2⟩ := fnd_n (cX (mm 11)) L 60 0 (ud (mm 11) 11 3 0) (stO (mm 11))
  obtain ⟨ez1, ez2, ez3⟩ := WZ_em hz
  obtain ⟨_, f60, f3⟩ := fnd_ok (cX (mm 11)) L 60 0 0 (ud (mm 11) 11 3 0) (stO (mm 11)) (by omega) (by omega) hz.2.1 ez2 ez3 (by rw [ud_eq]; rfl) (fun j hj => absurd hj (by omega))
  obtain ⟨r1, r2⟩ := runC_n (cX (mm 11)) L cc cc (mm 0) (ex2 (mm 11) L)
  have hz2 : WZ (ex2 (mm 11) L) L := by
    unfold ex2
    refine ⟨?_, hz.2.1, ⟨_, f60, em_4 _ _⟩, ⟨_, f3, em_7 _ _⟩⟩
    rw [em_f (by omega) (by omega) (by omega), n2 1 (by omega), ud_ni (by omega)]; exact hz.1
  have hst2 : ∀ j, j < cc → ∃ a, a ≤ L ∧ ex2 (mm 11) L 13 j = nI a := by
    intro j hj; unfold ex2; rw [em_o (by omega) (by omega)]; exact hst j hj
  obtain ⟨w1, w2, w3, w4⟩ := runC_WZ (cX (mm 11)) hz.2.1 cc (mm 0) (ex2 (mm 11) L) hz2 (Nat.le_refl cc) hst2
  have eR : runC (cX (mm 11)) L cc cc (mm 0) (ex2 (mm 11) L) = exR mm L cc := rfl
  rw [eR] at r1 r2 w1 w3 w4
  refine ⟨fun i => ?_, fun i => ?_, ?_, by omega, ?_, ?_⟩
  · unfold exC
    rw [ud_nc (by omega), ud_nc (by omega), r1 0 i (by omega) (by omega) (by omega) (by omega)]
    unfold ex2
    rw [em_o (by omega) (by omega), n1 0 i (by omega) (by omega), ud_nc (by omega)]
  · unfold exC
    rw [ud_nc (by omega), ud_nc (by omega), r1 1 i (by omega) (by omega) (by omega) (by omega)]
    unfold ex2
    rw [em_o (by omega) (by omega), n1 1 i (by omega) (by omega), ud_nc (by omega)]
  · unfold exC; rw [ud_ni (by omega), ud_eq]; rfl
  · obtain ⟨a, ha, e⟩ := w3
    exact ⟨a, ha, by unfold exC; rw [ud_ni (by omega), ud_ni (by omega)]; exact e⟩
  · obtain ⟨a, ha, e⟩ := w4
    exact ⟨a, ha, by unfold exC; rw [ud_ni (by omega), ud_ni (by omega)]; exact e⟩
theorem HI_keep2 {mm mm' : Mm} {dn : Nat} {Bt : Nat → Bd} (h : HIS mm dn Bt) (hb : ∀ b, 3 ≤ b → b < 11 → mm' b = mm b) (h4 : mm' 11 0 4 = mm 11 0 4) (h1 : ∀ i, mm' 11 1 i = mm 11 1 i) : HIS mm' dn Bt := by
  obtain ⟨u, a1, a2, a3, a4, a5, a6⟩ := h
  refine ⟨u, a1, a2, by rw [h4]; exact a3, HW_c a4 h1, HD_c a5 h1, fun t ht => ?_⟩
  have e : hix (mm' 11) (u - dn + t) = hix (mm 11) (u - dn + t) := by unfold hix; rw [h1]
  obtain ⟨b1, b2, _⟩ := hix_e a4 (show u - dn + t < 8 by omega)
  rw [e, hb _ b1 b2]
  exact a6 t ht
/-- what a change of the law leaves: refused with the same board, or done -/
def STEP (A : Nat) (W : Nat → Prop) (H : Hp) (mm : Mm) (n r C dn : Nat) (Bt : Nat → Bd) (F : Res) : Prop := ∃ v mm' H' n' r', F = vI v (S A H' mm' n' r') ∧ KP A W H H' ∧ n ≤ n' ∧ n' ≤ n + 400 ∧ r' ≤ r + 1500 ∧ ((v < 0 ∧ JT mm' C dn Bt ∧ EB (mm' 0) (mm 0)) ∨ (¬ v < 0 ∧ JT mm' (C + 5940) (dn + 1) Bt))
theorem JT_le {mm : Mm} {C C' dn : Nat} {Bt : Nat → Bd} (h : JT mm C dn Bt) (hC : C ≤ C') : JT mm C' dn Bt := by
  obtain ⟨⟨s, h1⟩, h2, h3⟩ := h
  exact ⟨⟨s, RE_le h1 hC⟩, h2, h3⟩
theorem STEP_op {A : Nat} {W : Nat → Prop} {H : Hp} {mm : Mm} {n r C C' dn : Nat} {Bt : Nat → Bd} {Φ : Int32 → Bd → Prop} {Ψ : Int32 → Prop} {F : Res} (hJ : JT mm C dn Bt) (hd : dn ≤ 7) (hB : Bt dn = mm 0) (hC : C' ≤ C + 5940) (h : OPR A H mm n r C' Φ Ψ F) : STEP A W H mm n r C dn Bt F := by
  obtain ⟨v, mm', n', r', e, a1, a2, a3, h⟩ := h
  refine ⟨v, mm', H, n', r', e, KP_refl _ _ _, a1, by omega, by omega, ?_⟩
  rcases h with ⟨h1, _, hk⟩ | ⟨h1, B', hp, hR, _⟩
  · exact Or.inl ⟨h1, JT_keep hJ hk, by rw [hk.1 0 (by omega) (by omega)]; exact EB_rfl _⟩
  · exact Or.inr ⟨h1, JT_le (JT_push hJ hd hp hB hR).1 hC⟩
/-- a state in which a text is fed -/
def FD (mm mj : Mm) (j : Nat) : Prop := (∀ b, b ≠ 11 → mj b = mm b) ∧ (∀ c i, c ≠ 11 → c ≠ 12 → mj 11 c i = mm 11 c i) ∧ WZ (mj 11) j
section
variable {G : Glb} {A n r C dn : Nat} {W : Nat → Prop} {H : Hp} {mm : Mm} {Bt : Nat → Bd} {fl kd : Nat → Nat}
theorem s36 {m : Mm} {L : Nat} (hL : m 11 11 1 = nI L) (hl : L < 60) (x : Int32) (d : Nat) : call G (d + 2) 36 [.ref (ad A 11 0), .int x] (S A H m n r) = vI (nI (L + 1)) (S A H (sb m 11 (ud (ud (m 11) 12 L x) 11 1 (nI (L + 1)))) n r) := w36_v rcX0 (s95 hL hl x d)
theorem s36c {m : Mm} {L : Nat} (hL : m 11 11 1 = nI L) (hl : L < 60) (x : Int32) (d : Nat) (K : Int32 → St → Res) : cI (call G (d + 2) 36 [.ref (ad A 11 0), .int x] (S A H m n r)) K = K (nI (L + 1)) (S A H (sb m 11 (ud (ud (m 11) 12 L x) 11 1 (nI (L + 1)))) n r) := congrArg (fun z => cI z K) (show call G (d + 2) 36 [.ref (ad A 11 0), .int x] (S A H m n r) = vI (nI (L + 1)) (S A H (sb m 11 (ud (ud (m 11) 12 L x) 11 1 (nI (L + 1)))) n r) from by apply s36 <;> assumption)
theorem FD_1 {m : Mm} {j : Nat} (h : FD mm m j) (hj : j < 60) (x : Int32) : FD mm (sb m 11 (ud (ud (m 11) 12 j x) 11 1 (nI (j + 1)))) (j + 1) := by
  obtain ⟨h1, h2, w1, w2, w3, w4⟩ := h
  refine ⟨fun b hb => by rw [sb_ne hb]; exact h1 b hb, fun c i h11 h12 => by rw [sb_eq, ud_nc h11, ud_nc h12]; exact h2 c i h11 h12, ?_⟩
  have x11 : ∀ i, i ≠ 1 → ud (ud (m 11) 12 j x) 11 1 (nI (j + 1)) 11 i = m 11 11 i := fun i h => by rw [ud_ni h, ud_nc (by omega)]
  rw [sb_eq]
  exact ⟨ud_eq .., by omega, by rw [x11 4 (by omega)]; exact w3, by rw [x11 7 (by omega)]; exact w4⟩
theorem fed {a : Nat} {t : List Int32} (hgs : GS G) (hx : TX G A W H a t) (hl : t.length ≤ 60) (hz : WZ (mm 11) 0) (d : Nat) : ∀ u j, j + u = t.length → ∀ mj, FD mm mj j → ∃ m', FD mm m' t.length ∧ run G (d + 10) 39 2 [some (.ref (ad A 11 0)), some (.ref a), some (.int (nI j))] [] (S A H mj n r) = run G (d + 10) 39 2 [some (.ref (ad A 11 0)), some (.ref a), some (.int (nI t.length))] [] (S A H m' n r) := by
  obtain ⟨h7, hlen⟩ := hx.1
  intro u
  induction u with
  | zero =>
    intro j hj mj hF
    have : j = t.length := by omega
    subst this
    exact ⟨mj, hF, rfl⟩
  | succ u ih =>
    intro j hj mj hF
    have hjl : j < t.length := by omega
    obtain ⟨va, hr, -⟩ := TX_r hx mj n r
    obtain ⟨m', g1, g2⟩ := ih (j + 1) (by omega) _ (FD_1 hF (by omega) (t.getD j 0))
    refine ⟨m', g1, ?_⟩
    rw [b39_2, if_pos hr.1, cI_of (s314t hgs hr (d + 8)), if_neg (by rw [nI_leI (by omega) (by omega)]; omega), if_pos hr.1, cI_of (s315t hgs hr h7 hlen hjl (d + 6)), cI_of (s36 hF.2.2.1 (by omega) (t.getD j 0) (d + 7)), nI_1, if_pos rfl]
    exact g2
/-- the text is fed and executed -/
theorem s39 {a : Nat} {t : List Int32} (hgs : GS G) (hg : GF G fl) (hk : KN G H A kd) (hs : SW G H A) (hx : TX G A W H a t) (hl : t.length ≤ 60) (hJ : JT mm C dn Bt) (hC : C < 1000000) (hd : dn ≤ 7) (hB : Bt dn = mm 0) (d : Nat) : STEP A W H mm n r C dn Bt (call G (d + 10) 39 [.ref (ad A 11 0), .ref a] (S A H mm n r)) := by
  obtain ⟨s, k, p, g, u, cp, cb, hn, hk10, hp, hq, hv, hu, hu8, hh, hid⟩ := JT_get hJ
  have hz0 : WZ (mm 11) 0 := hJ.2.2
  obtain ⟨m, ⟨f1, f2, f3⟩, e1⟩ := fed (G := G) (n := n) (r := r) hgs hx hl hz0 d t.length 0 (by omega) mm ⟨fun _ _ => rfl, fun _ _ _ _ => rfl, hz0⟩
  have e00 : nI 0 = 0 := rfl
  rw [e00] at e1
  obtain ⟨va, hr, -⟩ := TX_r hx m n r
  have m0 : m 0 = mm 0 := f1 0 (by omega)
  have hu' : m 11 0 4 = nI u := (f2 0 4 (by omega) (by omega)).trans hu
  have hh' : HW (m 11) := HW_c hh fun i => f2 1 i (by omega) (by omega)
  have cp' : CP (m 0) s k p g := by rw [m0]; exact cp
  have hz := f3
  obtain ⟨L, hLt⟩ : ∃ L, L = t.length := ⟨_, rfl⟩
  rw [← hLt] at hz
  have hL60 : L ≤ 60 := by omega
  have ecall : ∀ Q : Res → Prop, Q (cI (call G (d + 9) 37 [.ref (ad A 11 0)] (S A H m n r)) fun v2 s2 => some (.inl (some (.int v2)), s2)) → Q (call G (d + 10) 39 [.ref (ad A 11 0), .ref a] (S A H mm n r)) := by
    intro Q hQ
    rw [b39_e, e1, b39_2, if_pos hr.1, cI_of (s314t hgs hr (d + 8)), if_pos (Int32.le_refl _)]
    exact hQ
  have h16 : ∀ i, sh16 (cX (m 11) i) = cX (m 11) i := fun i => sh16_nar _
  have hf := fnd_sim (T := cX (m 11)) (c := cX (m 11)) (N := L) (fun _ _ => rfl) h16 hL60 60 0 L (ud (m 11) 11 3 0) (stO (m 11)) (fun _ => 0) (Nat.le_refl _) (Nat.zero_le _) (by omega) (by omega) (by rw [ud_eq]; rfl) (fun j hj => absurd hj (by omega))
  have hs96 := s96 (G := G) (A := A) (n := n) (r := r) (H := H) (m := m) (u := u) (k := k) (p := p) hgs hg hk hs cp'.1.1 hz hu' hu8 hh' d
  have hHI : ∀ M : Mm, (∀ b, 3 ≤ b → b < 11 → M b = m b) → M 11 0 4 = m 11 0 4 → (∀ i, M 11 1 i = m 11 1 i) → HIS M dn Bt := by
    intro M h1 h2 h3
    refine HI_keep2 hJ.2.1 (fun b h3' h11 => (h1 b h3' h11).trans (f1 b (by omega))) (h2.trans (f2 0 4 (by omega) (by omega))) fun i => (h3 i).trans (f2 1 i (by omega) (by omega))
  rcases hf with ⟨g1, g2, g3, g4, g5, g6⟩ | ⟨g1, g2, g3⟩
  · obtain ⟨cc, hcc, ecc, hst, hcall⟩ := hs96.2 g3
    generalize hP : rcL (cX (m 11)) L L (rc (cX (m 11)) L (0, 0, 60 - 60, fun _ => 0)) = P at g1 g2 g4 g5 g6
    have ecc2 : cc = P.2.2.1 := by
      rw [g5] at ecc; exact (nI_inj (by omega) (by omega) ecc).symm
    obtain ⟨c1, c2, c3⟩ := exC_c hz hcc hst
    have hrun := run_sim (T := cX (m 11)) (c := cX (m 11)) (N := L) (fun _ _ => rfl) h16 g6 hL60 P.2.2.1 (m 0) (ex2 (m 11) L) s k p g C (Nat.le_refl _) cp' (by rw [m0]; exact cb) (by omega) (fun j => by unfold ex2; rw [em_o (by omega) (by omega)])
    rw [Nat.sub_self, ← ecc2] at hrun
    have eR : runC (cX (m 11)) L cc cc (m 0) (ex2 (m 11) L) = exR m L cc := rfl
    rw [eR] at hrun
    generalize exR m L cc = R at *
    generalize exC R.2.2 = X at *
    rcases hrun with ⟨r1, r2, k', p', g', cp2, cb2⟩ | ⟨j, f, hj, r1, r2⟩
    · rw [if_pos r1] at hcall
      have hw := w37_v rcX0 hcall
      refine ecall (STEP A W H mm n r C dn Bt) ?_
      rw [cI_of hw]
      refine ⟨nI cc, _, H, n, r, rfl, KP_refl _ _ _, Nat.le_refl _, by omega, by omega, Or.inr ⟨nI_pos (by omega), ?_⟩⟩
      have hJ2 : JT (sb m 11 X) C dn Bt := ⟨⟨s, by rw [sb_ne (by omega)]; exact ⟨k, p, g, cp', by rw [m0]; exact cb⟩⟩, hHI _ (fun b h3 h11 => sb_ne (by omega)) (by rw [sb_eq]; exact c1 4) (fun i => by rw [sb_eq]; exact c2 i), by rw [sb_eq]; exact c3⟩
      have hP2 : PUSH (sb m 11 X) (fiM (sb (sb (bgM m) 11 X) 0 R.2.1) u) R.2.1 := by
        refine ⟨sb (sb (bgM m) 11 X) 0 R.2.1, u, by rw [sb_eq, c1]; exact hu', hu8, rfl, fun b h0 h1 h11 => by rw [sb_ne h0, sb_ne h11, bg_ne h1, sb_ne h11], sb_eq .., ?_, fun c i _ => by rw [sb_ne (by omega), sb_eq, sb_eq]⟩
        rw [sb_ne (by omega), sb_ne (by omega), sb_ne (by omega), sb_ne (by omega)]; unfold bgM; rw [sb_eq]
      exact (JT_push hJ2 hd hP2 (by rw [sb_ne (by omega), m0]; exact hB) ⟨_, k', p', g', cp2, CB_le cb2 (by omega)⟩).1
    · rw [if_neg (by rw [r1]; exact nI_nm1 (by omega)), r1] at hcall
      have hw := w37_x2 rcX0 hcall
      refine ecall (STEP A W H mm n r C dn Bt) ?_
      rw [cI_of hw]
      have hEB : EB (cpB R.2.1 (cpB (m 1) (m 0))) (mm 0) := by
        have := EB_tr (EB_cp R.2.1 (cpB (m 1) (m 0))) (EB_cp (m 1) (m 0))
        rw [m0] at this ⊢; exact this
      obtain ⟨M, hM⟩ : ∃ M, M = sb (sb (bgM m) 11 (ud X 0 10 (nI j))) 0 (cpB R.2.1 (cpB (m 1) (m 0))) := ⟨_, rfl⟩
      rw [← hM]
      have hM11 : M 11 = ud X 0 10 (nI j) := by rw [hM, sb_ne (by omega), sb_eq]
      have hM0 : M 0 = cpB R.2.1 (cpB (m 1) (m 0)) := by rw [hM, sb_eq]
      have hMb : ∀ b, b ≠ 0 → b ≠ 1 → b ≠ 11 → M b = m b := fun b h0 h1 h11 => by rw [hM, sb_ne h0, sb_ne h11, bg_ne h1]
      refine ⟨-2, M, H, n + 1, r + 6, rfl, KP_refl _ _ _, by omega, by omega, by omega, Or.inl ⟨by decide, ⟨⟨s, ?_⟩, hHI M (fun b h3 h11 => hMb b (by omega) (by omega) (by omega)) ?_ ?_, ?_⟩, by rw [hM0]; exact hEB⟩⟩
      · rw [hM0]; exact RE_ext ⟨k, p, g, cp, cb⟩ (EB_symm hEB) (fun _ _ => rfl) (Nat.le_refl _)
      · rw [hM11, ud_ni (by omega)]; exact c1 4
      · intro i; rw [hM11, ud_nc (by omega)]; exact c2 i
      · rw [hM11]; exact WZ_d c3 fun i => by rw [ud_nc (by omega)]
  · have hne : ¬ (fnd (cX (m 11)) L 60 0 (ud (m 11) 11 3 0) (stO (m 11))).1 = -1 := by rw [g3]; exact nI_nm1 (by omega)
    have hw := w37_x1 rcX0 (hs96.1 hne)
    obtain ⟨c1, c2, c3, c4⟩ := ex1_c (Z := m 11) (L := L)
    refine ecall (STEP A W H mm n r C dn Bt) ?_
    rw [cI_of hw]
    refine ⟨-1, sb m 11 (ex1 (m 11) L), H, n + 1, r + 6, rfl, KP_refl _ _ _, by omega, by omega, by omega, Or.inl ⟨by decide, ⟨⟨s, by rw [sb_ne (by omega), m0]; exact ⟨k, p, g, cp, cb⟩⟩, hHI _ (fun b h3 h11 => sb_ne (by omega)) (by rw [sb_eq]; exact c1 4 (by omega)) (fun i => by rw [sb_eq]; exact c2 i), by rw [sb_eq]; exact c4 hz⟩, by rw [sb_ne (by omega), m0]; exact EB_rfl _⟩⟩
end
