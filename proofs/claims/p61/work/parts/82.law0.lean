/-! THE LAW, from its entry to its answer. -/
theorem dc_ok {x : UInt64} (h : x.toNat % 2 ^ 63 < 2047 * 2 ^ 52) : Op.cmpValue (FP.dcmp x x) .l = 0 := by
  have hf : ¬ FP.Core.fieldE FP.Core.b64 x.toNat = FP.Core.b64.exps - 1 := by
    show ¬ x.toNat / 2 ^ 52 % 2 ^ 11 = 2 ^ 11 - 1
    omega
  obtain ⟨s, c, q, e⟩ : ∃ s c q, FP.Core.decode FP.Core.b64 x.toNat = .fin s c q := by
    unfold FP.Core.decode
    rw [if_neg hf]
    split
    · exact ⟨_, _, _, rfl⟩
    · exact ⟨_, _, _, rfl⟩
  show Op.cmpValue (FP.Core.order (FP.Core.decode FP.Core.b64 x.toNat) (FP.Core.decode FP.Core.b64 x.toNat)) .l = 0
  rw [e]
  have key : ∀ z : Int, compare z z = Ordering.eq := by
    intro z
    show (if z < z then Ordering.lt else if z = z then Ordering.eq else Ordering.gt) = _
    rw [if_neg (Int.lt_irrefl z), if_pos rfl]
  show Op.cmpValue (some (compare (FP.Core.signed s (FP.Core.inUnits c q (min q q))) (FP.Core.signed s (FP.Core.inUnits c q (min q q))))) .l = 0
  rw [key]
  rfl
theorem dc_self (x : Int32) {y : Int32} (h : ¬ y = 0) : Op.cmpValue (FP.dcmp (FP.ddiv (FP.i2d x) (FP.i2d y)) (FP.ddiv (FP.i2d x) (FP.i2d y))) .l = 0 := by
  refine dc_ok ?_
  have h2 := FP.Core.i2d_big (FP.Core.int32_ne h)
  have h3 : (FP.ddiv (FP.i2d x) (FP.i2d y)).toNat % 2 ^ 63 < (1056 + (1074 - 52 - 1) - 1023 + 3) * 2 ^ 52 := FP.Core.ddiv_mag (a := FP.i2d x) (b := FP.i2d y) (FP.Core.i2d_mag x) h2.1 h2.2 (by decide) (by decide)
  omega
theorem NSB_rm {B : Bd} {s : Nat → Int32} {k p q : Nat} {g : Nat → Nat} (h : CP B s k p g) (hq : q < k) (hN : NSB B k) : NSB (rmB B k q) (k - 1) := by
  intro i hi
  have hk := CP_k h
  have e8 : rmB B k q 8 i = fgv q (if i < q then B 8 i else B 8 (i + 1)) := by
    unfold rmB fgB
    rw [us_eq]
    unfold mix
    rw [if_pos hi]
    have ea : rmA B k q 8 = shf (B 8) q k := by
      unfold rmA
      rw [ud_nc (by omega), us_eq]
    show fgv q (rmA B k q 8 i) = _
    rw [ea, shf_at hi hq]
  have key : ∀ i', i' < k → i' = (if i < q then i else i + 1) → rfB (rmB B k q) i i = false := by
    intro i' hi' e
    obtain ⟨V, v1, v2, _⟩ := CP_gv h hi'
    have e9 : (if i < q then B 8 i else B 8 (i + 1)) = nI V := by
      rw [← v2, e]; split <;> rfl
    unfold rfB
    rw [e8, e9, bt_fg V v1 q (by omega), bt_ush _ (bt_fgl v1) i (by omega), bt_fgb, ← e, ← bt_ush V v1 i' (by omega), ← v2]
    exact hN i' hi'
  by_cases hiq : i < q
  · exact key i (by omega) (by rw [if_pos hiq])
  · exact key (i + 1) (by omega) (by rw [if_neg hiq])
/-- the board that was drawn -/
def DRZ (mm : Mm) : Prop := ∃ C, C < 900000 ∧ JT mm C 0 BZ ∧ (∃ k, mm 0 1 0 = nI k ∧ 1 ≤ k ∧ k ≤ 9 ∧ NSB (mm 0) k) ∧ ∃ p, mm 0 9 0 = nI p ∧ 1 ≤ p ∧ p ≤ 6
section
variable {G : Glb} {A n r C : Nat} {H : Hp} {mm : Mm} {fl kd : Nat → Nat}
theorem drw_z {N P : Nat} (h : DRX mm C N P) (hC : C < 900000) (hN : 3 ≤ N) (hN9 : N ≤ 9) (hP : 1 ≤ P) (hP6 : P ≤ 6) : DRZ mm := ⟨C, hC, h.1, ⟨N, h.2.1, by omega, hN9, h.2.2.2.2⟩, P, h.2.2.1, hP, hP6⟩
theorem drw_e (hg : GF G fl) {N P : Nat} (hN : 3 ≤ N) (hN9 : N ≤ 9) (hP : 1 ≤ P) (hP6 : P ≤ 6) {c : Nat} (hc : c < 2 ^ 31) (hD : DRX mm C N P) (hC : C < 800000) (n r d : Nat) (a0 o4 o6 o7 : Option Value) : ∃ mm' n' r', run G (d + 8) 41 344 [a0, some (.ref (ad A 11 0)), some (.int (nI c)), some (.int (nI N)), o4, some (.int 12), o6, o7] [] (S A H mm n r) = vR (ad A 11 0) (S A H mm' n' r') ∧ DRZ mm' ∧ n ≤ n' ∧ n' ≤ n + 1 ∧ r' ≤ r + 6 := by
  obtain ⟨w, hw, ew⟩ := ush_nn (nI c) ((14 : Int32).toUInt32 &&& Int32.toUInt32 31) (by decide)
  have hNz : ¬ nI N = 0 := by rw [show (0 : Int32) = nI 0 from rfl, nI_eq (by omega) (by omega)]; omega
  have hJ := hD.1
  have hm : w % N < N := Nat.mod_lt _ (by omega)
  obtain ⟨v, mm', n', r', e, a1, a2, a3, h⟩ := OPR_use hJ (op_3 (A := A) (H := H) (n := n) (r := r) hg hJ (by omega) (nI (w % N)) d)
  by_cases hz : ((nI c : Int32).toUInt32 >>> ((12 : Int32).toUInt32 &&& Int32.toUInt32 31)).toInt32 - ((nI c : Int32).toUInt32 >>> ((12 : Int32).toUInt32 &&& Int32.toUInt32 31)).toInt32 / 3 * 3 = 0
  · rcases h with ⟨_, ⟨k, k1, k2, k3⟩, _⟩ | ⟨hv, hJ', k, i, k1, k2, k3, k4⟩
    · exact (DRX_fx hD (by omega) hm k1 k2 k3).elim
    · have hk : k = N := (nI_eq (by omega) (by omega)).mp (k1.symm.trans hD.2.1)
      subst hk
      obtain ⟨s, k0, p0, g0, u, cp, cb, hn0, hk0, _⟩ := JT_get hJ
      have hkk : k0 = k := (nI_eq (by omega) (by omega)).mp (hn0.symm.trans hD.2.1)
      subst hkk
      refine ⟨mm', n', r', ?_, ⟨C, by omega, hJ', ⟨k0 - 1, by rw [k4]; exact rmB_cnt .., by omega, by omega, by rw [k4]; exact NSB_rm cp k3 hD.2.2.2.2⟩, P, by rw [k4, rmB_n (by omega)]; exact hD.2.2.1, hP, hP6⟩, a1, a2, a3⟩
      rw [b41_344, if_pos hz, if_neg hNz, ew, nI_rm (b := k0) hw (by omega) (by omega), cI_of e, if_pos (Int32.not_lt.mp hv)]
      rfl
  · refine ⟨mm, n, r, ?_, drw_z hD (by omega) hN hN9 hP hP6, Nat.le_refl _, Nat.le_succ n, Nat.le_add_right r 6⟩
    rw [b41_344, if_neg hz]
    rfl
theorem s41 {H0 : Hp} (hgb : GB G) (hgs : GS G) (hg : GF G fl) (hK : KT G A H0 166 [99, 115, 110]) {a0 L : Nat} {f : Nat → Int32} (hSC : SC A H0 a0 L f) (d : Nat) : ∃ mm n r, call G (d + 8) 41 [.ref a0] (H0, A, 0) = vR (ad A 11 0) (S A (H1 A H0) mm n r) ∧ DRZ mm ∧ A + 169 ≤ n ∧ n ≤ A + 169 + 40 ∧ r ≤ 2000 := by
  have k1 := H1_kp A H0
  have hS1 := SC_kp hSC k1
  have hK1 := KT_kp hK k1
  obtain ⟨v, c, hc, ec, ecell⟩ := cel2 hS1 0 (by omega)
  obtain ⟨z, hz, ez⟩ := ush_nn (nI c) ((3 : Int32).toUInt32 &&& Int32.toUInt32 31) (by decide)
  have e7 : nI c - nI c / 7 * 7 = nI (c % 7) := nI_rm (b := 7) hc (by omega) (by omega)
  have e5 : nI z - nI z / 5 * 5 = nI (z % 5) := nI_rm (b := 5) hz (by omega) (by omega)
  have h7 : c % 7 < 7 := Nat.mod_lt _ (by omega)
  have h5 : z % 5 < 5 := Nat.mod_lt _ (by omega)
  obtain ⟨N, hN⟩ : ∃ N, N = 3 + c % 7 := ⟨_, rfl⟩
  obtain ⟨P, hP⟩ : ∃ P, P = 2 + z % 5 := ⟨_, rfl⟩
  have hD0 : DRW m0 0 0 0 := ⟨JT_0 BZ, m0_z (by omega) 0, m0_z (by omega) 1, m0_z (by omega) 0, fun i hi => absurd hi (Nat.not_lt_zero i), fun i hi => absurd hi (Nat.not_lt_zero i)⟩
  obtain ⟨m1, n1, r1, p6, g1, g2, a1, a2, a3⟩ := drw_a (G := G) (A := A) hg hgs hK1 hS1 (N := N) (P := P) (by omega) (nI c) d none N 0 (by omega) m0 (A + 169) (0 + 1503) none hD0
  obtain ⟨m2, n2, r2, q6, g3, g4, b1, b2, b3⟩ := drw_o (G := G) (A := A) hg hgs hK1 hS1 (N := N) (P := P) (by omega) (nI c) d none P 0 (by omega) m1 n1 r1 p6 g2
  have hX : DRX m2 N N P := ⟨g4.1, g4.2.1, g4.2.2.2.1, g4.2.2.2.2.1, g4.2.2.2.2.2⟩
  obtain ⟨m3, n3, r3, s6, s7, g5, g6, c1, c2, c3⟩ := drw_c (G := G) (A := A) hg hS1 (N := N) (P := P) (by omega) (by omega) (by omega) (by omega) (nI c) d 12 0 (by omega) N m2 n2 r2 q6 none hX
  have e00 : nI 0 = 0 := rfl
  rw [e00] at g1 g3 g5
  have e41 : call G (d + 8) 41 [.ref a0] (H0, A, 0) = run G (d + 8) 41 35 [some (.ref a0), some (.ref (ad A 11 0)), some (.int (nI c)), some (.int (nI N)), some (.int (nI P)), some (.int 0), none, none] [] (S A (H1 A H0) m0 (A + 169) (0 + 1503)) := by
    rw [b41_e]
    show cV (call G (d + 5 + 2) 44 [.ref A] (wall (H0, A, 0) (.inr (5, [.null, .null, .null, .null, .int 0, .int 0, .null, .null, .null, .int 0, .int 0])) 11)) _ = _
    rw [new1 (d + 5) hgb]
    show cI (call G (d + 7) 1 [.ref a0, .int (nI 0)] (S A (H1 A H0) m0 (A + 169) (0 + 1503))) _ = _
    rw [cI_of (ecell ..), ec, ez, e7, e5, show (3 : Int32) + nI (c % 7) = nI N from (nI_add 3 _).trans (by rw [hN]), show (2 : Int32) + nI (z % 5) = nI P from (nI_add 2 _).trans (by rw [hP]), ad_x0]
  have key : ∃ m4 n4 r4, run G (d + 8) 41 198 [some (.ref a0), some (.ref (ad A 11 0)), some (.int (nI c)), some (.int (nI N)), some (.int (nI P)), some (.int 12), s6, s7] [] (S A (H1 A H0) m3 n3 r3) = vR (ad A 11 0) (S A (H1 A H0) m4 n4 r4) ∧ DRZ m4 ∧ n3 ≤ n4 ∧ n4 ≤ n3 + 2 ∧ r4 ≤ r3 + 12 := by
    rw [b41_198, if_pos (Int32.le_refl _)]
    by_cases h9 : ((nI c : Int32).toUInt32 >>> ((9 : Int32).toUInt32 &&& Int32.toUInt32 31)).toInt32 - ((nI c : Int32).toUInt32 >>> ((9 : Int32).toUInt32 &&& Int32.toUInt32 31)).toInt32 / 4 * 4 = 0
    · rw [if_pos h9, if_pos rcX0]
      obtain ⟨v, m4, n4, r4, e, x1, x2, x3, h⟩ := OPR_use g6.1 (op_80 (A := A) (H := H1 A H0) (n := n3) (r := r3) hg g6.1 d)
      rcases h with ⟨_, hF, _⟩ | ⟨hv, hJ', h4⟩
      · exact hF.elim
      · obtain ⟨m5, n5, r5, e5', hZ, y1, y2, y3⟩ := drw_e (G := G) (A := A) (H := H1 A H0) hg (N := N) (P := P) (by omega) (by omega) (by omega) (by omega) hc (DRX_4 g6 hJ' h4) (by omega) n4 r4 d (some (.ref a0)) (some (.int (nI P))) s6 s7
        refine ⟨m5, n5, r5, ?_, hZ, by omega, by omega, by omega⟩
        rw [cI_of e, if_neg hv]
        exact e5'
    · rw [if_neg h9]
      obtain ⟨m5, n5, r5, e5', hZ, y1, y2, y3⟩ := drw_e (G := G) (A := A) (H := H1 A H0) hg (N := N) (P := P) (by omega) (by omega) (by omega) (by omega) hc g6 (by omega) n3 r3 d (some (.ref a0)) (some (.int (nI P))) s6 s7
      exact ⟨m5, n5, r5, e5', hZ, by omega, by omega, by omega⟩
  obtain ⟨m4, n4, r4, g7, g8, d1, d2, d3⟩ := key
  exact ⟨m4, n4, r4, e41.trans (g1.trans (g3.trans (g5.trans g7))), g8, by omega, by omega, by omega⟩
theorem KT_f {i : Nat} {u : List Int32} (h : ∀ i, i ∈ lwW → KT G A H i ((lwT i).map nI)) (hi : i ∈ lwW) (hu : (lwT i).map nI = u) : KT G A H i u := by rw [← hu]; exact h i hi
/-- **the law answers true** -/
theorem law_1 {H0 : Hp} (hgb : GB G) (hgs : GS G) (hg : GF G fl) (hgn : ∀ a, A ≤ a → G 2009 a = none) (hKN : KN G H0 A kd) (hSW : SW G H0 A) (hDG : DG G H0 A) (hT : ∀ i, i ∈ lwW → KT G A H0 i ((lwT i).map nI)) {a0 L : Nat} {f : Nat → Int32} (hSC : SC A H0 a0 L f) : ∃ σ' : St, call G 41 0 [.ref a0] (H0, A, 0) = some (.inl (some (.int 1)), σ') ∧ σ'.2.1 ≤ A + 500000 ∧ σ'.2.2 ≤ 3000000 := by
  obtain ⟨mm, n, r, e1, ⟨C, hC, hJ, ⟨k, hn, hk1, hk9, hNS⟩, p, hp, hp1, hp6⟩, a1, a2, a3⟩ := s41 (G := G) (A := A) hgb hgs hg (KT_f hT (by decide) rfl) hSC 32
  have k1 := H1_kp A H0
  have hE : EV G A fl kd (H1 A H0) := EV_kp (W := W0) ⟨hDG, ⟨KT_f hT (by decide) rfl, KT_f hT (by decide) rfl, KT_f hT (by decide) rfl, KT_f hT (by decide) rfl, KT_f hT (by decide) rfl, KT_f hT (by decide) rfl, KT_f hT (by decide) rfl⟩, ⟨KT_f hT (by decide) rfl, KT_f hT (by decide) rfl, KT_f hT (by decide) rfl, KT_f hT (by decide) rfl, KT_f hT (by decide) rfl⟩, hKN, hSW⟩ k1
  have hS1 := SC_kp hSC k1
  obtain ⟨s, k', p', g, u, cp, cb, hn', hk, hp', hq, hv, hu, hu8, hh, hid⟩ := JT_get hJ
  have ek : k' = k := (nI_eq (by omega) (by omega)).mp (hn'.symm.trans hn)
  have ep : p' = p := (nI_eq (by omega) (by omega)).mp (hp'.symm.trans hp)
  subst ek
  subst ep
  have hf := CF_f cp
  have ho := CF_o cp
  have h0 := CF_0 cp
  have hkz : ¬ nI k' = 0 := by rw [show (0 : Int32) = nI 0 from rfl, nI_eq (by omega) (by omega)]; omega
  have hvl : cnt (vqB (mm 0) k') p' ≤ p' := cnt_le _ p'
  obtain ⟨f1, f2⟩ := ff_ok p' (by omega) (cnt (vqB (mm 0) k') p') (by omega) (by omega)
  obtain ⟨n1, r1, e188, b1, b2, b3⟩ := s188 (G := G) (A := A) (H := H1 A H0) hf ho hn hk hp hq hv (by omega) (fa_b8 cp) hNS (fa_r1 cp) (fa_r2 cp) (fa_rn cp) (fa_no cp (by omega)) (fa_m1 cp) (dd_ok _ hkz) (dc_self _ hkz) 34 n r
  obtain ⟨n2, r2, e189, c1, c2, c3⟩ := s189 (G := G) (A := A) (H := H1 A H0) hf ho hn hk hp hq hv hid (by omega) (by omega) h0 (fa_wf cp) (fa_12 cp) (fa_va cp) (fa_wg cp) (fa_m1 cp) f1 f2 34 n1 r1
  obtain ⟨X, n3, r3, hX, d1, d2, d3, e192⟩ := s192 (G := G) (A := A) (H := H1 A H0) cp hk9 20 n2 r2
  have hJ3 : JT (sb mm 11 X) C 0 BZ := JT_keep hJ (KEEP_11 hX)
  have m0e : sb mm 11 X 0 = mm 0 := sb_ne (by omega)
  have hSB : SB A W0 (ad A 11 9) (H1 A H0) 16 [] n3 := SB_up (SB_0 A H0) (by omega)
  obtain ⟨H4, n4, r4, cap4, t4, e195, s4, k4, f3, f4, f5⟩ := s195 (G := G) (A := A) (H := H1 A H0) (m := sb mm 11 X) (n := n3) (r := r3) hgb hgs hgn hE.1 hE.2.1 hSB (k := k') (p := p') (by rw [m0e]; exact hf) (by rw [m0e]; exact hn) hk (by rw [m0e]; exact hp) hq (by rw [m0e]; exact hv) (by rw [m0e]; exact hid) (by rw [m0e]; exact fa_AF cp cb (by omega)) (by rw [m0e]; exact fun i hi => by obtain ⟨x, x1, x2⟩ := id_C cp cb (by omega) hi; exact ⟨x, by omega, x2⟩) (by rw [m0e]; exact fun q hq' => cp_asc cp cb (by omega) q hq') (by rw [m0e]; exact fa_m1 cp) 32
  obtain ⟨H5, m5, n5, r5, C5, B5, e197, hJ5, hC5, k5, g1, g2, g3⟩ := s197 (G := G) (A := A) (H := H4) (n := n4) (r := r4) hgb hgs hg hgn (EV_kp hE k4) (SC_kp hS1 k4) (by omega) hJ3 hC 28
  obtain ⟨m6, n6, r6, e193, h1, h2, h3⟩ := s193 (G := G) (A := A) (H := H5) hg hJ5 trivial 26 n5 r5
  refine ⟨S A H5 m6 n6 r6, ?_, by show n6 ≤ A + 500000; omega, by show r6 ≤ 3000000; omega⟩
  rw [b0_e, e1]
  show cI (call G 40 188 [.ref (ad A 11 0)] (S A (H1 A H0) mm n r)) _ = _
  rw [cI_of e188, if_neg not1, cI_of e189, if_neg not1, cI_of e192, if_neg not1, cI_of e195, if_neg not1, cI_of e197, if_neg not1, cI_of e193, if_neg not1]
end
