/-! THE LAW'S LOOP, part 8: the two questions with a double. -/
theorem d_msk {x : UInt64} (h : x.toNat % 2 ^ 63 < 2047 * 2 ^ 52) : x &&& 0x7fffffffffffffff ≤ 0x7ff0000000000000 := by
  rw [UInt64.le_iff_toNat_le, UInt64.toNat_and]
  show x.toNat &&& (2 ^ 63 - 1) ≤ 2047 * 2 ^ 52
  rw [Nat.and_two_pow_sub_one_eq_mod]
  omega
theorem dd_ok (x : Int32) {y : Int32} (h : ¬ y = 0) : FP.ddiv (FP.i2d x) (FP.i2d y) &&& 0x7fffffffffffffff ≤ 0x7ff0000000000000 := by
  refine d_msk ?_
  have h2 := FP.Core.i2d_big (FP.Core.int32_ne h)
  have h3 : (FP.ddiv (FP.i2d x) (FP.i2d y)).toNat % 2 ^ 63 < (1056 + (1074 - 52 - 1) - 1023 + 3) * 2 ^ 52 := FP.Core.ddiv_mag (a := FP.i2d x) (b := FP.i2d y) (FP.Core.i2d_mag x) h2.1 h2.2 (by decide) (by decide)
  omega
theorem ff_ok : ∀ p, p < 7 → ∀ v, v < 7 → p ≠ 0 → (FP.fdiv (FP.i2f (nI p - nI v)) (FP.i2f (nI p)) &&& 0x7fffffff ≤ 0x7f800000) ∧ (FP.f2d (FP.fdiv (FP.i2f (nI p - nI v)) (FP.i2f (nI p))) &&& 0x7fffffffffffffff ≤ 0x7ff0000000000000) ∧ Op.cmpValue (FP.dcmp (FP.f2d (FP.fdiv (FP.i2f (nI p - nI v)) (FP.i2f (nI p)))) (FP.f2d (FP.fdiv (FP.i2f (nI p - nI v)) (FP.i2f (nI p))))) .l = 0 := by decide +kernel
theorem dC_w {A n r : Nat} {H : Hp} {m : Mm} (h : LX A H) (y : UInt64) : aW (S A H m n r) (fun t => t == .double) (A + 178) 0 (.double y) = some (S A (hset H (A + 178) (dC y)) m n r) := by
  obtain ⟨_, x, h1⟩ := h
  have hf : FR A (A + 178) := Or.inl (by omega)
  unfold aW
  rw [S_fr hf, h1]
  show (if ((FieldType.double == .double) = true ∧ ¬ (0 : Int32) < 0 ∧ (0 : Int32).toNatClampNeg < [Value.double x].length) then some (wset (S A H m n r) (A + 178) (.inl (.double, true, [Value.double x].set (0 : Int32).toNatClampNeg (narrow .double (.double y))))) else none) = _
  rw [if_pos ⟨rfl, by decide, by show (0 : Int32).toNatClampNeg < 1; decide⟩]
  exact congrArg some (S_frw (A := A) hf H m n r (dC y))
theorem dC_r {A n r : Nat} {H : Hp} {m : Mm} {y : UInt64} (h : H (A + 178) = some (dC y)) : aD (S A H m n r) (A + 178) 0 = some y := by
  have hf : FR A (A + 178) := Or.inl (by omega)
  unfold aD aV aL
  rw [S_fr hf, h]
  rfl
theorem cD_of {R : Res} {x : UInt64} {σ : St} (h : R = some (.inl (some (.double x)), σ)) (K : UInt64 → St → Res) : cD R K = K x σ := by rw [h]; rfl
theorem cF_of {R : Res} {x : UInt32} {σ : St} (h : R = some (.inl (some (.float x)), σ)) (K : UInt32 → St → Res) : cF R K = K x σ := by rw [h]; rfl
def PAID (G : Glb) (A : Nat) (H0 : Hp) (mm : Mm) (H : Hp) (n r t : Nat) : Prop := ∃ kk v mm1 H1 n1 r1 D' s' H2 n2 r2, call G 40 34 [.ref (ad A 11 0), .ref (A + 178)] (S A H mm n r) = vI kk (S A H1 mm1 n1 r1) ∧ call G 40 277 [.ref (ad A 12 0)] (S A H1 mm1 n1 r1) = some (.inl (some (.double v)), S A H2 (sb mm1 12 (us D' 1 s')) n2 r2) ∧ D' 0 6 = kk ∧ (kk = 0 → H2 (A + 178) = some (dC v)) ∧ HE A H H2 ∧ LJ A H0 (sb mm1 12 (us D' 1 s')) D' s' H2 n2 r2 (t + 1)
def PAIF (G : Glb) (A : Nat) (H0 : Hp) (mm : Mm) (H : Hp) (n r t : Nat) : Prop := ∃ kk v mm1 H1 n1 r1 D' s' H2 n2 r2, call G 40 35 [.ref (ad A 11 0), .ref (A + 178)] (S A H mm n r) = vI kk (S A H1 mm1 n1 r1) ∧ call G 40 278 [.ref (ad A 12 0)] (S A H1 mm1 n1 r1) = some (.inl (some (.float v)), S A H2 (sb mm1 12 (us D' 1 s')) n2 r2) ∧ D' 0 6 = kk ∧ (kk = 0 → H2 (A + 178) = some (dC (FP.f2d v)) ∧ FP.f2d v &&& 0x7fffffffffffffff ≤ 0x7ff0000000000000 ∧ Op.cmpValue (FP.dcmp (FP.f2d v) (FP.f2d v)) .l = 0) ∧ HE A H H2 ∧ LJ A H0 (sb mm1 12 (us D' 1 s')) D' s' H2 n2 r2 (t + 1)
section
variable {G : Glb} {a0 a1 a2 a3 a4 : Nat} {x5 kk : Int32} {o6 o7 o8 : Option Value} {σ σ1 σ2 : St}
theorem st_44 {v : UInt64} (h2 : call G 40 34 [.ref a1, .ref a4] σ = vI kk σ1) (h4 : rcv σ1 a2 6 = true) (h5 : call G 40 277 [.ref a2] σ1 = some (.inl (some (.double v)), σ2)) (h6 : rcv σ2 a2 6 = true) (h7 : call G 40 189 [.ref a2] σ2 = vI kk σ2) (h8 : kk = 0 → aD σ2 a4 0 = some v) : NX G a0 a1 a2 a3 a4 x5 (run G 41 0 2435 [some (.ref a0), some (.ref a1), some (.ref a2), some (.ref a3), some (.ref a4), some (.int x5), o6, o7, o8] [] σ) σ2 := by
  refine ⟨some (.int kk), some (.double v), none, ?_⟩
  rw [b0_2435, cI_of h2, if_pos h4, cD_of h5, if_pos h6, cI_of h7, if_pos rfl]
  by_cases hk : kk = 0
  · rw [if_pos hk, h8 hk, Option.bind_some]
    by_cases hc : Op.cmpValue (FP.dcmp v v) .l = 0
    · rw [if_pos hc, b0_2497, b0_3008]
    · rw [if_neg hc, Option.bind_some, Option.bind_some, if_neg hc, if_neg hc, b0_2497, b0_3008]
  · rw [if_neg hk, b0_2497, b0_3008]
theorem st_45 {v : UInt32} (h2 : call G 40 35 [.ref a1, .ref a4] σ = vI kk σ1) (h4 : rcv σ1 a2 6 = true) (h5 : call G 40 278 [.ref a2] σ1 = some (.inl (some (.float v)), σ2)) (h6 : rcv σ2 a2 6 = true) (h7 : call G 40 189 [.ref a2] σ2 = vI kk σ2) (h8 : kk = 0 → aD σ2 a4 0 = some (FP.f2d v) ∧ FP.f2d v &&& 0x7fffffffffffffff ≤ 0x7ff0000000000000 ∧ Op.cmpValue (FP.dcmp (FP.f2d v) (FP.f2d v)) .l = 0) : NX G a0 a1 a2 a3 a4 x5 (run G 41 0 2500 [some (.ref a0), some (.ref a1), some (.ref a2), some (.ref a3), some (.ref a4), some (.int x5), o6, o7, o8] [] σ) σ2 := by
  refine ⟨some (.int kk), some (.float v), o8, ?_⟩
  rw [b0_2500, cI_of h2, if_pos h4, cF_of h5, if_pos h6, cI_of h7, if_pos rfl]
  by_cases hk : kk = 0
  · obtain ⟨e1, e2, e3⟩ := h8 hk
    rw [if_pos hk, e1, Option.bind_some, if_pos e2, if_pos e3, b0_2563, b0_3008]
  · rw [if_neg hk, b0_2563, b0_3008]
end
section
variable {G : Glb} {A n r t : Nat} {H H0 : Hp} {mm : Mm} {D : Bd} {s : Nat → Int32}
theorem P_34 (hL : LJ A H0 mm D s H n r t) : PAID G A H0 mm H n r t := by
  obtain ⟨k, p, g, C, u, cp, cb, hC, hn, hk, hp, hq, hv, h2, hu, hu8, hh, hDu, hid⟩ := LJ_get hL
  have hmany := Q_many cp
  have hsu := Q_su cp
  by_cases hk0 : k = 0
  · obtain ⟨x, e⟩ := s277n (G := G) (A := A) (n := n + 1) (r := r + 6) (H := H) (m := mm) (D := D) (s := s) (by omega) 37
    rw [LJ_mm hL rfl] at e
    exact ⟨1, x, mm, H, n + 1, r + 6, ud D 0 6 1, s, H, n + 1, r + 6, w34_x1 rcX0 (s89n (by rw [hn, hk0]; rfl) _) (by decide +kernel), e, ud_eq .., fun h => absurd h not1, HE_rfl A H, LJ_q6 hL (SAME_rfl mm) (HE_rfl A H) (LJ_lx hL) (SBK_n (by omega)) (by omega) (by omega)⟩
  · have hk1 : ¬ nI k = 0 := nI_ne0 (by omega) (by omega)
    have e := s277 (G := G) (A := A) (n := n) (r := r) (H := hset H (A + 178) (dC (FP.ddiv (FP.i2d (sm (ptB (mm 0)) k)) (FP.i2d (nI k))))) (m := mm) (D := D) (s := s) (by omega) (by rw [hmany]; exact dd_ok _ hk1) 37
    rw [LJ_mm hL rfl, hmany, hsu] at e
    exact ⟨0, _, mm, _, n, r, ud D 0 6 0, s, _, n, r, w34_v rcX0 (s89 hn hk hk1 (dd_ok _ hk1) _) (dC_w (LJ_lx hL) _), e, ud_eq .., fun _ => hset_at .., HE_set (by omega), LJ_q6 hL (SAME_rfl mm) (HE_set (by omega)) (LX_178 (LJ_lx hL) _) (SBK_q (by omega) (Or.inl (by omega)) (Nat.le_refl _)) (by omega) (by omega)⟩
theorem P_35 (hL : LJ A H0 mm D s H n r t) : PAIF G A H0 mm H n r t := by
  obtain ⟨k, p, g, C, u, cp, cb, hC, hn, hk, hp, hq, hv, h2, hu, hu8, hh, hDu, hid⟩ := LJ_get hL
  have hva := Q_vac cp
  by_cases hp0 : p = 0
  · obtain ⟨x, e⟩ := s278n (G := G) (A := A) (n := n + 1) (r := r + 6) (H := H) (m := mm) (D := D) (s := s) (by rw [h2, hp0]; rfl) 37
    rw [LJ_mm hL rfl] at e
    exact ⟨1, x, mm, H, n + 1, r + 6, ud D 0 6 1, s, H, n + 1, r + 6, w35_x1 rcX0 (s90n (by rw [hp, hp0]; rfl) _) (by decide +kernel), e, ud_eq .., fun h => absurd h not1, HE_rfl A H, LJ_q6 hL (SAME_rfl mm) (HE_rfl A H) (LJ_lx hL) (SBK_n (by omega)) (by omega) (by omega)⟩
  · have hp1 : ¬ nI p = 0 := nI_ne0 (by omega) (by omega)
    have hvp : vaM s p ≤ p := cnt_le _ p
    obtain ⟨f1, f2, f3⟩ := ff_ok p (by omega) (vaM s p) (by omega) hp0
    have e1 := s90 (G := G) (A := A) (n := n) (r := r) (H := H) (m := mm) hn hk hp hq hp1 (by rw [hva]; exact f1) 36
    rw [hva] at e1
    generalize hz : FP.fdiv (FP.i2f (nI p - nI (vaM s p))) (FP.i2f (nI p)) = z at *
    have e := s278 (G := G) (A := A) (n := n) (r := r) (H := hset H (A + 178) (dC (FP.f2d z))) (m := mm) (D := D) (s := s) h2 hq hp1 (by rw [hz]; exact f1) 37
    rw [LJ_mm hL rfl, hz] at e
    exact ⟨0, z, mm, _, n, r, ud D 0 6 0, s, _, n, r, w35_v rcX0 e1 f2 (dC_w (LJ_lx hL) _), e, ud_eq .., fun _ => ⟨hset_at .., f2, f3⟩, HE_set (by omega), LJ_q6 hL (SAME_rfl mm) (HE_set (by omega)) (LX_178 (LJ_lx hL) _) (SBK_q (by omega) (Or.inl (by omega)) (Nat.le_refl _)) (by omega) (by omega)⟩
end
