/-! THE LAW'S LOOP, part 12: the loop (the switch printed by wip/whole/gen_loop.py). -/
theorem and63 (x : Int32) : ∃ j, j < 64 ∧ x &&& 63 = nI j := by
  refine ⟨x.toBitVec.toNat % 64, Nat.mod_lt _ (by omega), ?_⟩
  apply Int32.toBitVec_inj.mp
  rw [Int32.toBitVec_and]
  apply BitVec.eq_of_toNat_eq
  rw [BitVec.toNat_and]
  show x.toBitVec.toNat &&& (2 ^ 6 - 1) = (BitVec.ofNat 32 (x.toBitVec.toNat % 64)).toNat
  rw [Nat.and_two_pow_sub_one_eq_mod, BitVec.toNat_ofNat]
  omega
theorem lt5 {N x : Nat} (hN : N < 2 ^ 30) (hx : x < 2 ^ 30) : (nI N - 5 < nI x) ↔ N < x + 5 := by
  by_cases h5 : 5 ≤ N
  · rw [show (5 : Int32) = nI 5 from rfl, nI_sub h5, nI_ltI (by omega) (by omega)]; omega
  · have h0 : ¬ nI x < 0 := nI_pos (by omega)
    have h1 : ∀ k, k < 5 → (nI k - 5).toInt < 0 := by decide
    have h2 := h1 N (by omega)
    rw [Int32.lt_iff_toInt_lt] at h0 ⊢
    have h3 : (0 : Int32).toInt = 0 := by decide
    constructor
    · intro _; omega
    · intro _; omega
section
variable {G : Glb} {A n r t N a0 : Nat} {H H0 : Hp} {mm : Mm} {D : Bd} {s : Nat → Int32} {fl kd : Nat → Nat} {f : Nat → Int32} {o6 o7 o8 : Option Value}
theorem go_d (hL : LJ A H0 mm D s H n r t) : GO G A H0 a0 t (run G 41 0 3008 [some (.ref a0), some (.ref (ad A 11 0)), some (.ref (ad A 12 0)), some (.ref (A + 177)), some (.ref (A + 178)), some (.int (nI (5 * t))), o6, o7, o8] [] (S A H mm n r)) := by
  have h := LJ_same (t' := t + 1) (r' := r) hL (SAME_rfl mm) (SAMD_rfl D) (HE_rfl A H) (LJ_lx hL) (SBK_n (Nat.le_refl _)) (by omega) (by omega) (by omega)
  rw [LJ_mm hL rfl] at h
  exact ⟨mm, D, s, H, n, r, ⟨o6, o7, o8, b0_3008 ..⟩, h⟩
theorem e44_0 {σ : St} : run G 41 0 44 [some (.ref a0), some (.ref (ad A 11 0)), some (.ref (ad A 12 0)), some (.ref (A + 177)), some (.ref (A + 178)), some (.int (nI (5 * t))), o6, o7, o8] [.int (nI 0)] σ = run G 41 0 292 [some (.ref a0), some (.ref (ad A 11 0)), some (.ref (ad A 12 0)), some (.ref (A + 177)), some (.ref (A + 178)), some (.int (nI (5 * t))), o6, o7, o8] [] σ := (b0_44 ..).trans rfl
theorem e44_1 {σ : St} : run G 41 0 44 [some (.ref a0), some (.ref (ad A 11 0)), some (.ref (ad A 12 0)), some (.ref (A + 177)), some (.ref (A + 178)), some (.int (nI (5 * t))), o6, o7, o8] [.int (nI 1)] σ = run G 41 0 374 [some (.ref a0), some (.ref (ad A 11 0)), some (.ref (ad A 12 0)), some (.ref (A + 177)), some (.ref (A + 178)), some (.int (nI (5 * t))), o6, o7, o8] [] σ := (b0_44 ..).trans rfl
theorem e44_2 {σ : St} : run G 41 0 44 [some (.ref a0), some (.ref (ad A 11 0)), some (.ref (ad A 12 0)), some (.ref (A + 177)), some (.ref (A + 178)), some (.int (nI (5 * t))), o6, o7, o8] [.int (nI 2)] σ = run G 41 0 430 [some (.ref a0), some (.ref (ad A 11 0)), some (.ref (ad A 12 0)), some (.ref (A + 177)), some (.ref (A + 178)), some (.int (nI (5 * t))), o6, o7, o8] [] σ := (b0_44 ..).trans rfl
theorem e44_3 {σ : St} : run G 41 0 44 [some (.ref a0), some (.ref (ad A 11 0)), some (.ref (ad A 12 0)), some (.ref (A + 177)), some (.ref (A + 178)), some (.int (nI (5 * t))), o6, o7, o8] [.int (nI 3)] σ = run G 41 0 486 [some (.ref a0), some (.ref (ad A 11 0)), some (.ref (ad A 12 0)), some (.ref (A + 177)), some (.ref (A + 178)), some (.int (nI (5 * t))), o6, o7, o8] [] σ := (b0_44 ..).trans rfl
theorem e44_4 {σ : St} : run G 41 0 44 [some (.ref a0), some (.ref (ad A 11 0)), some (.ref (ad A 12 0)), some (.ref (A + 177)), some (.ref (A + 178)), some (.int (nI (5 * t))), o6, o7, o8] [.int (nI 4)] σ = run G 41 0 499 [some (.ref a0), some (.ref (ad A 11 0)), some (.ref (ad A 12 0)), some (.ref (A + 177)), some (.ref (A + 178)), some (.int (nI (5 * t))), o6, o7, o8] [] σ := (b0_44 ..).trans rfl
theorem e44_5 {σ : St} : run G 41 0 44 [some (.ref a0), some (.ref (ad A 11 0)), some (.ref (ad A 12 0)), some (.ref (A + 177)), some (.ref (A + 178)), some (.int (nI (5 * t))), o6, o7, o8] [.int (nI 5)] σ = run G 41 0 512 [some (.ref a0), some (.ref (ad A 11 0)), some (.ref (ad A 12 0)), some (.ref (A + 177)), some (.ref (A + 178)), some (.int (nI (5 * t))), o6, o7, o8] [] σ := (b0_44 ..).trans rfl
theorem e44_6 {σ : St} : run G 41 0 44 [some (.ref a0), some (.ref (ad A 11 0)), some (.ref (ad A 12 0)), some (.ref (A + 177)), some (.ref (A + 178)), some (.int (nI (5 * t))), o6, o7, o8] [.int (nI 6)] σ = run G 41 0 568 [some (.ref a0), some (.ref (ad A 11 0)), some (.ref (ad A 12 0)), some (.ref (A + 177)), some (.ref (A + 178)), some (.int (nI (5 * t))), o6, o7, o8] [] σ := (b0_44 ..).trans rfl
theorem e44_7 {σ : St} : run G 41 0 44 [some (.ref a0), some (.ref (ad A 11 0)), some (.ref (ad A 12 0)), some (.ref (A + 177)), some (.ref (A + 178)), some (.int (nI (5 * t))), o6, o7, o8] [.int (nI 7)] σ = run G 41 0 624 [some (.ref a0), some (.ref (ad A 11 0)), some (.ref (ad A 12 0)), some (.ref (A + 177)), some (.ref (A + 178)), some (.int (nI (5 * t))), o6, o7, o8] [] σ := (b0_44 ..).trans rfl
theorem e44_8 {σ : St} : run G 41 0 44 [some (.ref a0), some (.ref (ad A 11 0)), some (.ref (ad A 12 0)), some (.ref (A + 177)), some (.ref (A + 178)), some (.int (nI (5 * t))), o6, o7, o8] [.int (nI 8)] σ = run G 41 0 680 [some (.ref a0), some (.ref (ad A 11 0)), some (.ref (ad A 12 0)), some (.ref (A + 177)), some (.ref (A + 178)), some (.int (nI (5 * t))), o6, o7, o8] [] σ := (b0_44 ..).trans rfl
theorem e44_9 {σ : St} : run G 41 0 44 [some (.ref a0), some (.ref (ad A 11 0)), some (.ref (ad A 12 0)), some (.ref (A + 177)), some (.ref (A + 178)), some (.int (nI (5 * t))), o6, o7, o8] [.int (nI 9)] σ = run G 41 0 736 [some (.ref a0), some (.ref (ad A 11 0)), some (.ref (ad A 12 0)), some (.ref (A + 177)), some (.ref (A + 178)), some (.int (nI (5 * t))), o6, o7, o8] [] σ := (b0_44 ..).trans rfl
theorem e44_10 {σ : St} : run G 41 0 44 [some (.ref a0), some (.ref (ad A 11 0)), some (.ref (ad A 12 0)), some (.ref (A + 177)), some (.ref (A + 178)), some (.int (nI (5 * t))), o6, o7, o8] [.int (nI 10)] σ = run G 41 0 792 [some (.ref a0), some (.ref (ad A 11 0)), some (.ref (ad A 12 0)), some (.ref (A + 177)), some (.ref (A + 178)), some (.int (nI (5 * t))), o6, o7, o8] [] σ := (b0_44 ..).trans rfl
theorem e44_11 {σ : St} : run G 41 0 44 [some (.ref a0), some (.ref (ad A 11 0)), some (.ref (ad A 12 0)), some (.ref (A + 177)), some (.ref (A + 178)), some (.int (nI (5 * t))), o6, o7, o8] [.int (nI 11)] σ = run G 41 0 855 [some (.ref a0), some (.ref (ad A 11 0)), some (.ref (ad A 12 0)), some (.ref (A + 177)), some (.ref (A + 178)), some (.int (nI (5 * t))), o6, o7, o8] [] σ := (b0_44 ..).trans rfl
theorem e44_12 {σ : St} : run G 41 0 44 [some (.ref a0), some (.ref (ad A 11 0)), some (.ref (ad A 12 0)), some (.ref (A + 177)), some (.ref (A + 178)), some (.int (nI (5 * t))), o6, o7, o8] [.int (nI 12)] σ = run G 41 0 911 [some (.ref a0), some (.ref (ad A 11 0)), some (.ref (ad A 12 0)), some (.ref (A + 177)), some (.ref (A + 178)), some (.int (nI (5 * t))), o6, o7, o8] [] σ := (b0_44 ..).trans rfl
theorem e44_13 {σ : St} : run G 41 0 44 [some (.ref a0), some (.ref (ad A 11 0)), some (.ref (ad A 12 0)), some (.ref (A + 177)), some (.ref (A + 178)), some (.int (nI (5 * t))), o6, o7, o8] [.int (nI 13)] σ = run G 41 0 967 [some (.ref a0), some (.ref (ad A 11 0)), some (.ref (ad A 12 0)), some (.ref (A + 177)), some (.ref (A + 178)), some (.int (nI (5 * t))), o6, o7, o8] [] σ := (b0_44 ..).trans rfl
theorem e44_14 {σ : St} : run G 41 0 44 [some (.ref a0), some (.ref (ad A 11 0)), some (.ref (ad A 12 0)), some (.ref (A + 177)), some (.ref (A + 178)), some (.int (nI (5 * t))), o6, o7, o8] [.int (nI 14)] σ = run G 41 0 1023 [some (.ref a0), some (.ref (ad A 11 0)), some (.ref (ad A 12 0)), some (.ref (A + 177)), some (.ref (A + 178)), some (.int (nI (5 * t))), o6, o7, o8] [] σ := (b0_44 ..).trans rfl
theorem e44_15 {σ : St} : run G 41 0 44 [some (.ref a0), some (.ref (ad A 11 0)), some (.ref (ad A 12 0)), some (.ref (A + 177)), some (.ref (A + 178)), some (.int (nI (5 * t))), o6, o7, o8] [.int (nI 15)] σ = run G 41 0 1091 [some (.ref a0), some (.ref (ad A 11 0)), some (.ref (ad A 12 0)), some (.ref (A + 177)), some (.ref (A + 178)), some (.int (nI (5 * t))), o6, o7, o8] [] σ := (b0_44 ..).trans rfl
theorem e44_16 {σ : St} : run G 41 0 44 [some (.ref a0), some (.ref (ad A 11 0)), some (.ref (ad A 12 0)), some (.ref (A + 177)), some (.ref (A + 178)), some (.int (nI (5 * t))), o6, o7, o8] [.int (nI 16)] σ = run G 41 0 1159 [some (.ref a0), some (.ref (ad A 11 0)), some (.ref (ad A 12 0)), some (.ref (A + 177)), some (.ref (A + 178)), some (.int (nI (5 * t))), o6, o7, o8] [] σ := (b0_44 ..).trans rfl
theorem e44_17 {σ : St} : run G 41 0 44 [some (.ref a0), some (.ref (ad A 11 0)), some (.ref (ad A 12 0)), some (.ref (A + 177)), some (.ref (A + 178)), some (.int (nI (5 * t))), o6, o7, o8] [.int (nI 17)] σ = run G 41 0 1234 [some (.ref a0), some (.ref (ad A 11 0)), some (.ref (ad A 12 0)), some (.ref (A + 177)), some (.ref (A + 178)), some (.int (nI (5 * t))), o6, o7, o8] [] σ := (b0_44 ..).trans rfl
theorem e44_18 {σ : St} : run G 41 0 44 [some (.ref a0), some (.ref (ad A 11 0)), some (.ref (ad A 12 0)), some (.ref (A + 177)), some (.ref (A + 178)), some (.int (nI (5 * t))), o6, o7, o8] [.int (nI 18)] σ = run G 41 0 1290 [some (.ref a0), some (.ref (ad A 11 0)), some (.ref (ad A 12 0)), some (.ref (A + 177)), some (.ref (A + 178)), some (.int (nI (5 * t))), o6, o7, o8] [] σ := (b0_44 ..).trans rfl
theorem e44_19 {σ : St} : run G 41 0 44 [some (.ref a0), some (.ref (ad A 11 0)), some (.ref (ad A 12 0)), some (.ref (A + 177)), some (.ref (A + 178)), some (.int (nI (5 * t))), o6, o7, o8] [.int (nI 19)] σ = run G 41 0 1346 [some (.ref a0), some (.ref (ad A 11 0)), some (.ref (ad A 12 0)), some (.ref (A + 177)), some (.ref (A + 178)), some (.int (nI (5 * t))), o6, o7, o8] [] σ := (b0_44 ..).trans rfl
theorem e44_20 {σ : St} : run G 41 0 44 [some (.ref a0), some (.ref (ad A 11 0)), some (.ref (ad A 12 0)), some (.ref (A + 177)), some (.ref (A + 178)), some (.int (nI (5 * t))), o6, o7, o8] [.int (nI 20)] σ = run G 41 0 1440 [some (.ref a0), some (.ref (ad A 11 0)), some (.ref (ad A 12 0)), some (.ref (A + 177)), some (.ref (A + 178)), some (.int (nI (5 * t))), o6, o7, o8] [] σ := (b0_44 ..).trans rfl
theorem e44_21 {σ : St} : run G 41 0 44 [some (.ref a0), some (.ref (ad A 11 0)), some (.ref (ad A 12 0)), some (.ref (A + 177)), some (.ref (A + 178)), some (.int (nI (5 * t))), o6, o7, o8] [.int (nI 21)] σ = run G 41 0 1503 [some (.ref a0), some (.ref (ad A 11 0)), some (.ref (ad A 12 0)), some (.ref (A + 177)), some (.ref (A + 178)), some (.int (nI (5 * t))), o6, o7, o8] [] σ := (b0_44 ..).trans rfl
theorem e44_22 {σ : St} : run G 41 0 44 [some (.ref a0), some (.ref (ad A 11 0)), some (.ref (ad A 12 0)), some (.ref (A + 177)), some (.ref (A + 178)), some (.int (nI (5 * t))), o6, o7, o8] [.int (nI 22)] σ = run G 41 0 1516 [some (.ref a0), some (.ref (ad A 11 0)), some (.ref (ad A 12 0)), some (.ref (A + 177)), some (.ref (A + 178)), some (.int (nI (5 * t))), o6, o7, o8] [] σ := (b0_44 ..).trans rfl
theorem e44_23 {σ : St} : run G 41 0 44 [some (.ref a0), some (.ref (ad A 11 0)), some (.ref (ad A 12 0)), some (.ref (A + 177)), some (.ref (A + 178)), some (.int (nI (5 * t))), o6, o7, o8] [.int (nI 23)] σ = run G 41 0 1529 [some (.ref a0), some (.ref (ad A 11 0)), some (.ref (ad A 12 0)), some (.ref (A + 177)), some (.ref (A + 178)), some (.int (nI (5 * t))), o6, o7, o8] [] σ := (b0_44 ..).trans rfl
theorem e44_24 {σ : St} : run G 41 0 44 [some (.ref a0), some (.ref (ad A 11 0)), some (.ref (ad A 12 0)), some (.ref (A + 177)), some (.ref (A + 178)), some (.int (nI (5 * t))), o6, o7, o8] [.int (nI 24)] σ = run G 41 0 1585 [some (.ref a0), some (.ref (ad A 11 0)), some (.ref (ad A 12 0)), some (.ref (A + 177)), some (.ref (A + 178)), some (.int (nI (5 * t))), o6, o7, o8] [] σ := (b0_44 ..).trans rfl
theorem e44_25 {σ : St} : run G 41 0 44 [some (.ref a0), some (.ref (ad A 11 0)), some (.ref (ad A 12 0)), some (.ref (A + 177)), some (.ref (A + 178)), some (.int (nI (5 * t))), o6, o7, o8] [.int (nI 25)] σ = run G 41 0 1641 [some (.ref a0), some (.ref (ad A 11 0)), some (.ref (ad A 12 0)), some (.ref (A + 177)), some (.ref (A + 178)), some (.int (nI (5 * t))), o6, o7, o8] [] σ := (b0_44 ..).trans rfl
theorem e44_26 {σ : St} : run G 41 0 44 [some (.ref a0), some (.ref (ad A 11 0)), some (.ref (ad A 12 0)), some (.ref (A + 177)), some (.ref (A + 178)), some (.int (nI (5 * t))), o6, o7, o8] [.int (nI 26)] σ = run G 41 0 1697 [some (.ref a0), some (.ref (ad A 11 0)), some (.ref (ad A 12 0)), some (.ref (A + 177)), some (.ref (A + 178)), some (.int (nI (5 * t))), o6, o7, o8] [] σ := (b0_44 ..).trans rfl
theorem e44_27 {σ : St} : run G 41 0 44 [some (.ref a0), some (.ref (ad A 11 0)), some (.ref (ad A 12 0)), some (.ref (A + 177)), some (.ref (A + 178)), some (.int (nI (5 * t))), o6, o7, o8] [.int (nI 27)] σ = run G 41 0 1753 [some (.ref a0), some (.ref (ad A 11 0)), some (.ref (ad A 12 0)), some (.ref (A + 177)), some (.ref (A + 178)), some (.int (nI (5 * t))), o6, o7, o8] [] σ := (b0_44 ..).trans rfl
theorem e44_28 {σ : St} : run G 41 0 44 [some (.ref a0), some (.ref (ad A 11 0)), some (.ref (ad A 12 0)), some (.ref (A + 177)), some (.ref (A + 178)), some (.int (nI (5 * t))), o6, o7, o8] [.int (nI 28)] σ = run G 41 0 1809 [some (.ref a0), some (.ref (ad A 11 0)), some (.ref (ad A 12 0)), some (.ref (A + 177)), some (.ref (A + 178)), some (.int (nI (5 * t))), o6, o7, o8] [] σ := (b0_44 ..).trans rfl
theorem e44_29 {σ : St} : run G 41 0 44 [some (.ref a0), some (.ref (ad A 11 0)), some (.ref (ad A 12 0)), some (.ref (A + 177)), some (.ref (A + 178)), some (.int (nI (5 * t))), o6, o7, o8] [.int (nI 29)] σ = run G 41 0 1884 [some (.ref a0), some (.ref (ad A 11 0)), some (.ref (ad A 12 0)), some (.ref (A + 177)), some (.ref (A + 178)), some (.int (nI (5 * t))), o6, o7, o8] [] σ := (b0_44 ..).trans rfl
theorem e44_30 {σ : St} : run G 41 0 44 [some (.ref a0), some (.ref (ad A 11 0)), some (.ref (ad A 12 0)), some (.ref (A + 177)), some (.ref (A + 178)), some (.int (nI (5 * t))), o6, o7, o8] [.int (nI 30)] σ = run G 41 0 1940 [some (.ref a0), some (.ref (ad A 11 0)), some (.ref (ad A 12 0)), some (.ref (A + 177)), some (.ref (A + 178)), some (.int (nI (5 * t))), o6, o7, o8] [] σ := (b0_44 ..).trans rfl
theorem e44_31 {σ : St} : run G 41 0 44 [some (.ref a0), some (.ref (ad A 11 0)), some (.ref (ad A 12 0)), some (.ref (A + 177)), some (.ref (A + 178)), some (.int (nI (5 * t))), o6, o7, o8] [.int (nI 31)] σ = run G 41 0 1996 [some (.ref a0), some (.ref (ad A 11 0)), some (.ref (ad A 12 0)), some (.ref (A + 177)), some (.ref (A + 178)), some (.int (nI (5 * t))), o6, o7, o8] [] σ := (b0_44 ..).trans rfl
theorem e44_32 {σ : St} : run G 41 0 44 [some (.ref a0), some (.ref (ad A 11 0)), some (.ref (ad A 12 0)), some (.ref (A + 177)), some (.ref (A + 178)), some (.int (nI (5 * t))), o6, o7, o8] [.int (nI 32)] σ = run G 41 0 2052 [some (.ref a0), some (.ref (ad A 11 0)), some (.ref (ad A 12 0)), some (.ref (A + 177)), some (.ref (A + 178)), some (.int (nI (5 * t))), o6, o7, o8] [] σ := (b0_44 ..).trans rfl
theorem e44_33 {σ : St} : run G 41 0 44 [some (.ref a0), some (.ref (ad A 11 0)), some (.ref (ad A 12 0)), some (.ref (A + 177)), some (.ref (A + 178)), some (.int (nI (5 * t))), o6, o7, o8] [.int (nI 33)] σ = run G 41 0 2120 [some (.ref a0), some (.ref (ad A 11 0)), some (.ref (ad A 12 0)), some (.ref (A + 177)), some (.ref (A + 178)), some (.int (nI (5 * t))), o6, o7, o8] [] σ := (b0_44 ..).trans rfl
theorem e44_34 {σ : St} : run G 41 0 44 [some (.ref a0), some (.ref (ad A 11 0)), some (.ref (ad A 12 0)), some (.ref (A + 177)), some (.ref (A + 178)), some (.int (nI (5 * t))), o6, o7, o8] [.int (nI 34)] σ = run G 41 0 2176 [some (.ref a0), some (.ref (ad A 11 0)), some (.ref (ad A 12 0)), some (.ref (A + 177)), some (.ref (A + 178)), some (.int (nI (5 * t))), o6, o7, o8] [] σ := (b0_44 ..).trans rfl
theorem e44_35 {σ : St} : run G 41 0 44 [some (.ref a0), some (.ref (ad A 11 0)), some (.ref (ad A 12 0)), some (.ref (A + 177)), some (.ref (A + 178)), some (.int (nI (5 * t))), o6, o7, o8] [.int (nI 35)] σ = run G 41 0 2232 [some (.ref a0), some (.ref (ad A 11 0)), some (.ref (ad A 12 0)), some (.ref (A + 177)), some (.ref (A + 178)), some (.int (nI (5 * t))), o6, o7, o8] [] σ := (b0_44 ..).trans rfl
theorem e44_36 {σ : St} : run G 41 0 44 [some (.ref a0), some (.ref (ad A 11 0)), some (.ref (ad A 12 0)), some (.ref (A + 177)), some (.ref (A + 178)), some (.int (nI (5 * t))), o6, o7, o8] [.int (nI 36)] σ = run G 41 0 2245 [some (.ref a0), some (.ref (ad A 11 0)), some (.ref (ad A 12 0)), some (.ref (A + 177)), some (.ref (A + 178)), some (.int (nI (5 * t))), o6, o7, o8] [] σ := (b0_44 ..).trans rfl
theorem e44_37 {σ : St} : run G 41 0 44 [some (.ref a0), some (.ref (ad A 11 0)), some (.ref (ad A 12 0)), some (.ref (A + 177)), some (.ref (A + 178)), some (.int (nI (5 * t))), o6, o7, o8] [.int (nI 37)] σ = run G 41 0 2258 [some (.ref a0), some (.ref (ad A 11 0)), some (.ref (ad A 12 0)), some (.ref (A + 177)), some (.ref (A + 178)), some (.int (nI (5 * t))), o6, o7, o8] [] σ := (b0_44 ..).trans rfl
theorem e44_38 {σ : St} : run G 41 0 44 [some (.ref a0), some (.ref (ad A 11 0)), some (.ref (ad A 12 0)), some (.ref (A + 177)), some (.ref (A + 178)), some (.int (nI (5 * t))), o6, o7, o8] [.int (nI 38)] σ = run G 41 0 2271 [some (.ref a0), some (.ref (ad A 11 0)), some (.ref (ad A 12 0)), some (.ref (A + 177)), some (.ref (A + 178)), some (.int (nI (5 * t))), o6, o7, o8] [] σ := (b0_44 ..).trans rfl
theorem e44_39 {σ : St} : run G 41 0 44 [some (.ref a0), some (.ref (ad A 11 0)), some (.ref (ad A 12 0)), some (.ref (A + 177)), some (.ref (A + 178)), some (.int (nI (5 * t))), o6, o7, o8] [.int (nI 39)] σ = run G 41 0 2284 [some (.ref a0), some (.ref (ad A 11 0)), some (.ref (ad A 12 0)), some (.ref (A + 177)), some (.ref (A + 178)), some (.int (nI (5 * t))), o6, o7, o8] [] σ := (b0_44 ..).trans rfl
theorem e44_40 {σ : St} : run G 41 0 44 [some (.ref a0), some (.ref (ad A 11 0)), some (.ref (ad A 12 0)), some (.ref (A + 177)), some (.ref (A + 178)), some (.int (nI (5 * t))), o6, o7, o8] [.int (nI 40)] σ = run G 41 0 2297 [some (.ref a0), some (.ref (ad A 11 0)), some (.ref (ad A 12 0)), some (.ref (A + 177)), some (.ref (A + 178)), some (.int (nI (5 * t))), o6, o7, o8] [] σ := (b0_44 ..).trans rfl
theorem e44_41 {σ : St} : run G 41 0 44 [some (.ref a0), some (.ref (ad A 11 0)), some (.ref (ad A 12 0)), some (.ref (A + 177)), some (.ref (A + 178)), some (.int (nI (5 * t))), o6, o7, o8] [.int (nI 41)] σ = run G 41 0 2353 [some (.ref a0), some (.ref (ad A 11 0)), some (.ref (ad A 12 0)), some (.ref (A + 177)), some (.ref (A + 178)), some (.int (nI (5 * t))), o6, o7, o8] [] σ := (b0_44 ..).trans rfl
theorem e44_42 {σ : St} : run G 41 0 44 [some (.ref a0), some (.ref (ad A 11 0)), some (.ref (ad A 12 0)), some (.ref (A + 177)), some (.ref (A + 178)), some (.int (nI (5 * t))), o6, o7, o8] [.int (nI 42)] σ = run G 41 0 2366 [some (.ref a0), some (.ref (ad A 11 0)), some (.ref (ad A 12 0)), some (.ref (A + 177)), some (.ref (A + 178)), some (.int (nI (5 * t))), o6, o7, o8] [] σ := (b0_44 ..).trans rfl
theorem e44_43 {σ : St} : run G 41 0 44 [some (.ref a0), some (.ref (ad A 11 0)), some (.ref (ad A 12 0)), some (.ref (A + 177)), some (.ref (A + 178)), some (.int (nI (5 * t))), o6, o7, o8] [.int (nI 43)] σ = run G 41 0 2422 [some (.ref a0), some (.ref (ad A 11 0)), some (.ref (ad A 12 0)), some (.ref (A + 177)), some (.ref (A + 178)), some (.int (nI (5 * t))), o6, o7, o8] [] σ := (b0_44 ..).trans rfl
theorem e44_44 {σ : St} : run G 41 0 44 [some (.ref a0), some (.ref (ad A 11 0)), some (.ref (ad A 12 0)), some (.ref (A + 177)), some (.ref (A + 178)), some (.int (nI (5 * t))), o6, o7, o8] [.int (nI 44)] σ = run G 41 0 2435 [some (.ref a0), some (.ref (ad A 11 0)), some (.ref (ad A 12 0)), some (.ref (A + 177)), some (.ref (A + 178)), some (.int (nI (5 * t))), o6, o7, o8] [] σ := (b0_44 ..).trans rfl
theorem e44_45 {σ : St} : run G 41 0 44 [some (.ref a0), some (.ref (ad A 11 0)), some (.ref (ad A 12 0)), some (.ref (A + 177)), some (.ref (A + 178)), some (.int (nI (5 * t))), o6, o7, o8] [.int (nI 45)] σ = run G 41 0 2500 [some (.ref a0), some (.ref (ad A 11 0)), some (.ref (ad A 12 0)), some (.ref (A + 177)), some (.ref (A + 178)), some (.int (nI (5 * t))), o6, o7, o8] [] σ := (b0_44 ..).trans rfl
theorem e44_46 {σ : St} : run G 41 0 44 [some (.ref a0), some (.ref (ad A 11 0)), some (.ref (ad A 12 0)), some (.ref (A + 177)), some (.ref (A + 178)), some (.int (nI (5 * t))), o6, o7, o8] [.int (nI 46)] σ = run G 41 0 2566 [some (.ref a0), some (.ref (ad A 11 0)), some (.ref (ad A 12 0)), some (.ref (A + 177)), some (.ref (A + 178)), some (.int (nI (5 * t))), o6, o7, o8] [] σ := (b0_44 ..).trans rfl
theorem e44_47 {σ : St} : run G 41 0 44 [some (.ref a0), some (.ref (ad A 11 0)), some (.ref (ad A 12 0)), some (.ref (A + 177)), some (.ref (A + 178)), some (.int (nI (5 * t))), o6, o7, o8] [.int (nI 47)] σ = run G 41 0 2622 [some (.ref a0), some (.ref (ad A 11 0)), some (.ref (ad A 12 0)), some (.ref (A + 177)), some (.ref (A + 178)), some (.int (nI (5 * t))), o6, o7, o8] [] σ := (b0_44 ..).trans rfl
theorem e44_48 {σ : St} : run G 41 0 44 [some (.ref a0), some (.ref (ad A 11 0)), some (.ref (ad A 12 0)), some (.ref (A + 177)), some (.ref (A + 178)), some (.int (nI (5 * t))), o6, o7, o8] [.int (nI 48)] σ = run G 41 0 2635 [some (.ref a0), some (.ref (ad A 11 0)), some (.ref (ad A 12 0)), some (.ref (A + 177)), some (.ref (A + 178)), some (.int (nI (5 * t))), o6, o7, o8] [] σ := (b0_44 ..).trans rfl
theorem e44_49 {σ : St} : run G 41 0 44 [some (.ref a0), some (.ref (ad A 11 0)), some (.ref (ad A 12 0)), some (.ref (A + 177)), some (.ref (A + 178)), some (.int (nI (5 * t))), o6, o7, o8] [.int (nI 49)] σ = run G 41 0 2691 [some (.ref a0), some (.ref (ad A 11 0)), some (.ref (ad A 12 0)), some (.ref (A + 177)), some (.ref (A + 178)), some (.int (nI (5 * t))), o6, o7, o8] [] σ := (b0_44 ..).trans rfl
theorem e44_50 {σ : St} : run G 41 0 44 [some (.ref a0), some (.ref (ad A 11 0)), some (.ref (ad A 12 0)), some (.ref (A + 177)), some (.ref (A + 178)), some (.int (nI (5 * t))), o6, o7, o8] [.int (nI 50)] σ = run G 41 0 2704 [some (.ref a0), some (.ref (ad A 11 0)), some (.ref (ad A 12 0)), some (.ref (A + 177)), some (.ref (A + 178)), some (.int (nI (5 * t))), o6, o7, o8] [] σ := (b0_44 ..).trans rfl
theorem e44_51 {σ : St} : run G 41 0 44 [some (.ref a0), some (.ref (ad A 11 0)), some (.ref (ad A 12 0)), some (.ref (A + 177)), some (.ref (A + 178)), some (.int (nI (5 * t))), o6, o7, o8] [.int (nI 51)] σ = run G 41 0 2762 [some (.ref a0), some (.ref (ad A 11 0)), some (.ref (ad A 12 0)), some (.ref (A + 177)), some (.ref (A + 178)), some (.int (nI (5 * t))), o6, o7, o8] [] σ := (b0_44 ..).trans rfl
theorem e44_52 {σ : St} : run G 41 0 44 [some (.ref a0), some (.ref (ad A 11 0)), some (.ref (ad A 12 0)), some (.ref (A + 177)), some (.ref (A + 178)), some (.int (nI (5 * t))), o6, o7, o8] [.int (nI 52)] σ = run G 41 0 2806 [some (.ref a0), some (.ref (ad A 11 0)), some (.ref (ad A 12 0)), some (.ref (A + 177)), some (.ref (A + 178)), some (.int (nI (5 * t))), o6, o7, o8] [] σ := (b0_44 ..).trans rfl
theorem e44_53 {σ : St} : run G 41 0 44 [some (.ref a0), some (.ref (ad A 11 0)), some (.ref (ad A 12 0)), some (.ref (A + 177)), some (.ref (A + 178)), some (.int (nI (5 * t))), o6, o7, o8] [.int (nI 53)] σ = run G 41 0 2850 [some (.ref a0), some (.ref (ad A 11 0)), some (.ref (ad A 12 0)), some (.ref (A + 177)), some (.ref (A + 178)), some (.int (nI (5 * t))), o6, o7, o8] [] σ := (b0_44 ..).trans rfl
theorem e44_54 {σ : St} : run G 41 0 44 [some (.ref a0), some (.ref (ad A 11 0)), some (.ref (ad A 12 0)), some (.ref (A + 177)), some (.ref (A + 178)), some (.int (nI (5 * t))), o6, o7, o8] [.int (nI 54)] σ = run G 41 0 2894 [some (.ref a0), some (.ref (ad A 11 0)), some (.ref (ad A 12 0)), some (.ref (A + 177)), some (.ref (A + 178)), some (.int (nI (5 * t))), o6, o7, o8] [] σ := (b0_44 ..).trans rfl
theorem e44_55 {σ : St} : run G 41 0 44 [some (.ref a0), some (.ref (ad A 11 0)), some (.ref (ad A 12 0)), some (.ref (A + 177)), some (.ref (A + 178)), some (.int (nI (5 * t))), o6, o7, o8] [.int (nI 55)] σ = run G 41 0 2938 [some (.ref a0), some (.ref (ad A 11 0)), some (.ref (ad A 12 0)), some (.ref (A + 177)), some (.ref (A + 178)), some (.int (nI (5 * t))), o6, o7, o8] [] σ := (b0_44 ..).trans rfl
theorem e44_56 {σ : St} : run G 41 0 44 [some (.ref a0), some (.ref (ad A 11 0)), some (.ref (ad A 12 0)), some (.ref (A + 177)), some (.ref (A + 178)), some (.int (nI (5 * t))), o6, o7, o8] [.int (nI 56)] σ = run G 41 0 2951 [some (.ref a0), some (.ref (ad A 11 0)), some (.ref (ad A 12 0)), some (.ref (A + 177)), some (.ref (A + 178)), some (.int (nI (5 * t))), o6, o7, o8] [] σ := (b0_44 ..).trans rfl
theorem e44_57 {σ : St} : run G 41 0 44 [some (.ref a0), some (.ref (ad A 11 0)), some (.ref (ad A 12 0)), some (.ref (A + 177)), some (.ref (A + 178)), some (.int (nI (5 * t))), o6, o7, o8] [.int (nI 57)] σ = run G 41 0 2964 [some (.ref a0), some (.ref (ad A 11 0)), some (.ref (ad A 12 0)), some (.ref (A + 177)), some (.ref (A + 178)), some (.int (nI (5 * t))), o6, o7, o8] [] σ := (b0_44 ..).trans rfl
theorem e44_58 {σ : St} : run G 41 0 44 [some (.ref a0), some (.ref (ad A 11 0)), some (.ref (ad A 12 0)), some (.ref (A + 177)), some (.ref (A + 178)), some (.int (nI (5 * t))), o6, o7, o8] [.int (nI 58)] σ = run G 41 0 3008 [some (.ref a0), some (.ref (ad A 11 0)), some (.ref (ad A 12 0)), some (.ref (A + 177)), some (.ref (A + 178)), some (.int (nI (5 * t))), o6, o7, o8] [] σ := (b0_44 ..).trans rfl
theorem e44_59 {σ : St} : run G 41 0 44 [some (.ref a0), some (.ref (ad A 11 0)), some (.ref (ad A 12 0)), some (.ref (A + 177)), some (.ref (A + 178)), some (.int (nI (5 * t))), o6, o7, o8] [.int (nI 59)] σ = run G 41 0 3008 [some (.ref a0), some (.ref (ad A 11 0)), some (.ref (ad A 12 0)), some (.ref (A + 177)), some (.ref (A + 178)), some (.int (nI (5 * t))), o6, o7, o8] [] σ := (b0_44 ..).trans rfl
theorem e44_60 {σ : St} : run G 41 0 44 [some (.ref a0), some (.ref (ad A 11 0)), some (.ref (ad A 12 0)), some (.ref (A + 177)), some (.ref (A + 178)), some (.int (nI (5 * t))), o6, o7, o8] [.int (nI 60)] σ = run G 41 0 3008 [some (.ref a0), some (.ref (ad A 11 0)), some (.ref (ad A 12 0)), some (.ref (A + 177)), some (.ref (A + 178)), some (.int (nI (5 * t))), o6, o7, o8] [] σ := (b0_44 ..).trans rfl
theorem e44_61 {σ : St} : run G 41 0 44 [some (.ref a0), some (.ref (ad A 11 0)), some (.ref (ad A 12 0)), some (.ref (A + 177)), some (.ref (A + 178)), some (.int (nI (5 * t))), o6, o7, o8] [.int (nI 61)] σ = run G 41 0 3008 [some (.ref a0), some (.ref (ad A 11 0)), some (.ref (ad A 12 0)), some (.ref (A + 177)), some (.ref (A + 178)), some (.int (nI (5 * t))), o6, o7, o8] [] σ := (b0_44 ..).trans rfl
theorem e44_62 {σ : St} : run G 41 0 44 [some (.ref a0), some (.ref (ad A 11 0)), some (.ref (ad A 12 0)), some (.ref (A + 177)), some (.ref (A + 178)), some (.int (nI (5 * t))), o6, o7, o8] [.int (nI 62)] σ = run G 41 0 3008 [some (.ref a0), some (.ref (ad A 11 0)), some (.ref (ad A 12 0)), some (.ref (A + 177)), some (.ref (A + 178)), some (.int (nI (5 * t))), o6, o7, o8] [] σ := (b0_44 ..).trans rfl
theorem e44_63 {σ : St} : run G 41 0 44 [some (.ref a0), some (.ref (ad A 11 0)), some (.ref (ad A 12 0)), some (.ref (A + 177)), some (.ref (A + 178)), some (.int (nI (5 * t))), o6, o7, o8] [.int (nI 63)] σ = run G 41 0 3008 [some (.ref a0), some (.ref (ad A 11 0)), some (.ref (ad A 12 0)), some (.ref (A + 177)), some (.ref (A + 178)), some (.int (nI (5 * t))), o6, o7, o8] [] σ := (b0_44 ..).trans rfl
theorem go_all (E : ENV G A H0 fl kd) (hC : SC A H0 a0 N f) (hi : 5 * t + 5 ≤ N) (ht : t < 600) (hL : LJ A H0 mm D s H n r t) : ∀ j, j < 64 → GO G A H0 a0 t (run G 41 0 44 [some (.ref a0), some (.ref (ad A 11 0)), some (.ref (ad A 12 0)), some (.ref (A + 177)), some (.ref (A + 178)), some (.int (nI (5 * t))), o6, o7, o8] [.int (nI j)] (S A H mm n r)) := by
  intro j hj
  by_cases h0 : j = 0
  · subst h0; rw [e44_0]; exact go_0 E hC hi ht hL
  by_cases h1 : j = 1
  · subst h1; rw [e44_1]; exact go_1 E hC hi ht hL
  by_cases h2 : j = 2
  · subst h2; rw [e44_2]; exact go_2 E hC hi ht hL
  by_cases h3 : j = 3
  · subst h3; rw [e44_3]; exact go_3 E hC hi ht hL
  by_cases h4 : j = 4
  · subst h4; rw [e44_4]; exact go_4 E hC hi ht hL
  by_cases h5 : j = 5
  · subst h5; rw [e44_5]; exact go_5 E hC hi ht hL
  by_cases h6 : j = 6
  · subst h6; rw [e44_6]; exact go_6 E hC hi ht hL
  by_cases h7 : j = 7
  · subst h7; rw [e44_7]; exact go_7 E hC hi ht hL
  by_cases h8 : j = 8
  · subst h8; rw [e44_8]; exact go_8 E hC hi ht hL
  by_cases h9 : j = 9
  · subst h9; rw [e44_9]; exact go_9 E hC hi ht hL
  by_cases h10 : j = 10
  · subst h10; rw [e44_10]; exact go_10 E hC hi ht hL
  by_cases h11 : j = 11
  · subst h11; rw [e44_11]; exact go_11 E hC hi ht hL
  by_cases h12 : j = 12
  · subst h12; rw [e44_12]; exact go_12 E hC hi ht hL
  by_cases h13 : j = 13
  · subst h13; rw [e44_13]; exact go_13 E hC hi ht hL
  by_cases h14 : j = 14
  · subst h14; rw [e44_14]; exact go_14 E hC hi ht hL
  by_cases h15 : j = 15
  · subst h15; rw [e44_15]; exact go_15 E hC hi ht hL
  by_cases h16 : j = 16
  · subst h16; rw [e44_16]; exact go_16 E hC hi ht hL
  by_cases h17 : j = 17
  · subst h17; rw [e44_17]; exact go_17 E hC hi ht hL
  by_cases h18 : j = 18
  · subst h18; rw [e44_18]; exact go_18 E hC hi ht hL
  by_cases h19 : j = 19
  · subst h19; rw [e44_19]; exact go_19 E hC hi ht hL
  by_cases h20 : j = 20
  · subst h20; rw [e44_20]; exact go_20 E hC hi ht hL
  by_cases h21 : j = 21
  · subst h21; rw [e44_21]; exact go_21 E hC hi ht hL
  by_cases h22 : j = 22
  · subst h22; rw [e44_22]; exact go_22 E hC hi ht hL
  by_cases h23 : j = 23
  · subst h23; rw [e44_23]; exact go_23 E hC hi ht hL
  by_cases h24 : j = 24
  · subst h24; rw [e44_24]; exact go_24 E hC hi ht hL
  by_cases h25 : j = 25
  · subst h25; rw [e44_25]; exact go_25 E hC hi ht hL
  by_cases h26 : j = 26
  · subst h26; rw [e44_26]; exact go_26 E hC hi ht hL
  by_cases h27 : j = 27
  · subst h27; rw [e44_27]; exact go_27 E hC hi ht hL
  by_cases h28 : j = 28
  · subst h28; rw [e44_28]; exact go_28 E hC hi ht hL
  by_cases h29 : j = 29
  · subst h29; rw [e44_29]; exact go_29 E hC hi ht hL
  by_cases h30 : j = 30
  · subst h30; rw [e44_30]; exact go_30 E hC hi ht hL
  by_cases h31 : j = 31
  · subst h31; rw [e44_31]; exact go_31 E hC hi ht hL
  by_cases h32 : j = 32
  · subst h32; rw [e44_32]; exact go_32 E hC hi ht hL
  by_cases h33 : j = 33
  · subst h33; rw [e44_33]; exact go_33 E hC hi ht hL
  by_cases h34 : j = 34
  · subst h34; rw [e44_34]; exact go_34 E hC hi ht hL
  by_cases h35 : j = 35
  · subst h35; rw [e44_35]; exact go_35 E hC hi ht hL
  by_cases h36 : j = 36
  · subst h36; rw [e44_36]; exact go_36 E hC hi ht hL
  by_cases h37 : j = 37
  · subst h37; rw [e44_37]; exact go_37 E hC hi ht hL
  by_cases h38 : j = 38
  · subst h38; rw [e44_38]; exact go_38 E hC hi ht hL
  by_cases h39 : j = 39
  · subst h39; rw [e44_39]; exact go_39 E hC hi ht hL
  by_cases h40 : j = 40
  · subst h40; rw [e44_40]; exact go_40 E hC hi ht hL
  by_cases h41 : j = 41
  · subst h41; rw [e44_41]; exact go_41 E hC hi ht hL
  by_cases h42 : j = 42
  · subst h42; rw [e44_42]; exact go_42 E hC hi ht hL
  by_cases h43 : j = 43
  · subst h43; rw [e44_43]; exact go_43 E hC hi ht hL
  by_cases h44 : j = 44
  · subst h44; rw [e44_44]; exact go_44 E hC hi ht hL
  by_cases h45 : j = 45
  · subst h45; rw [e44_45]; exact go_45 E hC hi ht hL
  by_cases h46 : j = 46
  · subst h46; rw [e44_46]; exact go_46 E hC hi ht hL
  by_cases h47 : j = 47
  · subst h47; rw [e44_47]; exact go_47 E hC hi ht hL
  by_cases h48 : j = 48
  · subst h48; rw [e44_48]; exact go_48 E hC hi ht hL
  by_cases h49 : j = 49
  · subst h49; rw [e44_49]; exact go_49 E hC hi ht hL
  by_cases h50 : j = 50
  · subst h50; rw [e44_50]; exact go_50 E hC hi ht hL
  by_cases h51 : j = 51
  · subst h51; rw [e44_51]; exact go_51 E hC hi ht hL
  by_cases h52 : j = 52
  · subst h52; rw [e44_52]; exact go_52 E hC hi ht hL
  by_cases h53 : j = 53
  · subst h53; rw [e44_53]; exact go_53 E hC hi ht hL
  by_cases h54 : j = 54
  · subst h54; rw [e44_54]; exact go_54 E hC hi ht hL
  by_cases h55 : j = 55
  · subst h55; rw [e44_55]; exact go_55 E hC hi ht hL
  by_cases h56 : j = 56
  · subst h56; rw [e44_56]; exact go_56 E hC hi ht hL
  by_cases h57 : j = 57
  · subst h57; rw [e44_57]; exact go_57 E hC hi ht hL
  by_cases h58 : j = 58
  · subst h58; rw [e44_58]; exact go_d hL
  by_cases h59 : j = 59
  · subst h59; rw [e44_59]; exact go_d hL
  by_cases h60 : j = 60
  · subst h60; rw [e44_60]; exact go_d hL
  by_cases h61 : j = 61
  · subst h61; rw [e44_61]; exact go_d hL
  by_cases h62 : j = 62
  · subst h62; rw [e44_62]; exact go_d hL
  by_cases h63 : j = 63
  · subst h63; rw [e44_63]; exact go_d hL
  omega
theorem loop (E : ENV G A H0 fl kd) (hC : SC A H0 a0 N f) : ∀ (g t : Nat) (mm : Mm) (D : Bd) (s : Nat → Int32) (H : Hp) (n r : Nat) (o6 o7 o8 : Option Value), N < 5 * (t + g) + 5 → 5 * t ≤ N → LJ A H0 mm D s H n r t → ∃ σ', run G 41 0 28 [some (.ref a0), some (.ref (ad A 11 0)), some (.ref (ad A 12 0)), some (.ref (A + 177)), some (.ref (A + 178)), some (.int (nI (5 * t))), o6, o7, o8] [] (S A H mm n r) = some (.inl (some (.int 1)), σ') ∧ σ'.2.1 ≤ A + 3000 ∧ σ'.2.2 ≤ 50000 := by
  have hN := hC.2.1
  intro g
  induction g with
  | zero =>
    intro t mm D s H n r o6 o7 o8 h1 h2 hL
    refine ⟨S A H mm n r, ?_, ?_⟩
    · rw [b0_28, SC_n hC (LJ_he hL), Option.bind_some, if_pos ((lt5 (by omega) (by omega)).mpr (by omega))]
    · obtain ⟨_, _, _, _, ⟨cap, tx, ⟨⟨v, mb, f', b1, b2, b3, b4, b5, b6, b7, b8⟩, _⟩, hn, hr⟩, _⟩ := hL
      exact ⟨by show n ≤ A + 3000; omega, by show r ≤ 50000; omega⟩
  | succ g ih =>
    intro t mm D s H n r o6 o7 o8 h1 h2 hL
    by_cases he : N < 5 * t + 5
    · refine ⟨S A H mm n r, ?_, ?_⟩
      · rw [b0_28, SC_n hC (LJ_he hL), Option.bind_some, if_pos ((lt5 (by omega) (by omega)).mpr he)]
      · obtain ⟨_, _, _, _, ⟨cap, tx, ⟨⟨v, mb, f', b1, b2, b3, b4, b5, b6, b7, b8⟩, _⟩, hn, hr⟩, _⟩ := hL
        exact ⟨by show n ≤ A + 3000; omega, by show r ≤ 50000; omega⟩
    · obtain ⟨j, hj, ej⟩ := and63 (f (5 * t))
      obtain ⟨mm', D', s', H', n', r', ⟨p6, p7, p8, hR⟩, hL'⟩ := go_all (o6 := o6) (o7 := o7) (o8 := o8) E hC (by omega) (by omega) hL j hj
      obtain ⟨σ', e1, e2⟩ := ih (t + 1) mm' D' s' H' n' r' p6 p7 p8 (by omega) (by omega) hL'
      refine ⟨σ', ?_, e2⟩
      rw [b0_28, SC_n hC (LJ_he hL), Option.bind_some, if_neg (fun h => he ((lt5 (by omega) (by omega)).mp h)), SC_r hC (LJ_he hL) rfl (by omega), Option.bind_some, ej, hR, nI_p5]
      exact e1
end
