/-! THE BOARD IS DRAWN, part 2: the loops. -/
section
variable {G : Glb} {A n r C : Nat} {H : Hp} {mm : Mm} {fl : Nat → Nat}
/-- a number of the script, halved -/
theorem cel2 {a0 N : Nat} {f : Nat → Int32} (hSC : SC A H a0 N f) (j : Nat) (hj : j < 100) : ∃ v y, y < 2 ^ 31 ∧ ((v : Int32).toUInt32 >>> ((1 : Int32).toUInt32 &&& Int32.toUInt32 31)).toInt32 = nI y ∧ ∀ (G : Glb) (m : Mm) (n r d : Nat), call G d 1 [.ref a0, .int (nI j)] (S A H m n r) = vI v (S A H m n r) := by
  obtain ⟨y, hy, ey⟩ := ush_nn (if N ≤ j then 40503 * nI j else f j) ((1 : Int32).toUInt32 &&& Int32.toUInt32 31) (by decide)
  exact ⟨_, y, hy, ey, fun G m n r d => SC_c hSC j d hj⟩
theorem drw_a (hg : GF G fl) (hgs : GS G) (hK : KT G A H 166 [99, 115, 110]) {a0 L : Nat} {f : Nat → Int32} (hSC : SC A H a0 L f) {N P : Nat} (hN : N ≤ 9) (x2 : Int32) (d : Nat) (o7 : Option Value) : ∀ t j, j + t = N → ∀ mm n r o6, DRW mm j j 0 → ∃ mm' n' r' o6', run G (d + 8) 41 35 [some (.ref a0), some (.ref (ad A 11 0)), some (.int x2), some (.int (nI N)), some (.int (nI P)), some (.int (nI j)), o6, o7] [] (S A H mm n r) = run G (d + 8) 41 96 [some (.ref a0), some (.ref (ad A 11 0)), some (.int x2), some (.int (nI N)), some (.int (nI P)), some (.int 0), o6', o7] [] (S A H mm' n' r') ∧ DRW mm' N N 0 ∧ n ≤ n' ∧ n' ≤ n + t ∧ r' ≤ r + 6 * t := by
  intro t
  induction t with
  | zero =>
    intro j hj mm n r o6 hD
    have : j = N := by omega
    subst this
    refine ⟨mm, n, r, o6, ?_, hD, Nat.le_refl _, Nat.le_refl _, Nat.le_refl _⟩
    rw [b41_35, if_pos (Int32.le_refl _)]
  | succ t ih =>
    intro j hj mm n r o6 hD
    obtain ⟨v, y, hy, ey, ec⟩ := cel2 hSC (1 + j) (by omega)
    obtain ⟨e40, hsh⟩ := sh40 (G := G) (A := A) (H := H) (mm := mm) hgs hK hy n r (d + 3)
    obtain ⟨z, hz, ez⟩ := ush_nn (nI y) ((2 : Int32).toUInt32 &&& Int32.toUInt32 31) (by decide)
    obtain ⟨z6, hz6, ez6⟩ := ush_nn (nI y) ((6 : Int32).toUInt32 &&& Int32.toUInt32 31) (by decide)
    have e11 : nI z - nI z / 11 * 11 = nI (z % 11) := nI_rm (b := 11) hz (by omega) (by omega)
    have e12 : nI z6 - nI z6 / 12 * 12 = nI (z6 % 12) := nI_rm (b := 12) hz6 (by omega) (by omega)
    have h11 : z % 11 < 11 := Nat.mod_lt _ (by omega)
    have h12 : z6 % 12 < 12 := Nat.mod_lt _ (by omega)
    have e10 : (10 : Int32) * nI (z % 11) = nI (10 * (z % 11)) := nI_mm 10 _
    obtain ⟨mm1, n1, r1, e2, hD1, a1, a2, a3⟩ := drw_add (A := A) (H := H) hg hD (by omega) (by omega) hsh (w := 10 * (z % 11)) (rr := z6 % 12) (by omega) (by omega) n r d
    obtain ⟨mm2, n2, r2, p6, g1, g2, b1, b2, b3⟩ := ih (j + 1) (by omega) mm1 n1 r1 (some (.int (nI y))) hD1
    refine ⟨mm2, n2, r2, p6, ?_, g2, by omega, by omega, by omega⟩
    rw [b41_35, if_neg (by rw [nI_leI (by omega) (by omega)]; omega), show (1 : Int32) + nI j = nI (1 + j) from nI_add 1 j, cI_of (ec ..), ey, cI_of e40, ez, ez6, e11, e12, e10, cI_of e2, if_pos rfl, nI_1]
    exact g1
theorem drw_o (hg : GF G fl) (hgs : GS G) (hK : KT G A H 166 [99, 115, 110]) {a0 L : Nat} {f : Nat → Int32} (hSC : SC A H a0 L f) {N P : Nat} (hP : P ≤ 6) (x2 : Int32) (d : Nat) (o7 : Option Value) : ∀ t j, j + t = P → ∀ mm n r o6, DRW mm C N j → ∃ mm' n' r' o6', run G (d + 8) 41 96 [some (.ref a0), some (.ref (ad A 11 0)), some (.int x2), some (.int (nI N)), some (.int (nI P)), some (.int (nI j)), o6, o7] [] (S A H mm n r) = run G (d + 8) 41 198 [some (.ref a0), some (.ref (ad A 11 0)), some (.int x2), some (.int (nI N)), some (.int (nI P)), some (.int 0), o6', o7] [] (S A H mm' n' r') ∧ DRW mm' C N P ∧ n ≤ n' ∧ n' ≤ n + t ∧ r' ≤ r + 6 * t := by
  intro t
  induction t with
  | zero =>
    intro j hj mm n r o6 hD
    have : j = P := by omega
    subst this
    refine ⟨mm, n, r, o6, ?_, hD, Nat.le_refl _, Nat.le_refl _, Nat.le_refl _⟩
    rw [b41_96, if_pos (Int32.le_refl _)]
  | succ t ih =>
    intro j hj mm n r o6 hD
    obtain ⟨v, y, hy, ey, ec⟩ := cel2 hSC (11 + j) (by omega)
    obtain ⟨y1, hy1, ey1⟩ := ush_nn (nI y) ((1 : Int32).toUInt32 &&& Int32.toUInt32 31) (by decide)
    obtain ⟨z3, hz3, ez3⟩ := ush_nn (nI y) ((3 : Int32).toUInt32 &&& Int32.toUInt32 31) (by decide)
    obtain ⟨z7, hz7, ez7⟩ := ush_nn (nI y) ((7 : Int32).toUInt32 &&& Int32.toUInt32 31) (by decide)
    obtain ⟨zd, hzd, ezd⟩ := ush_nn (nI y) ((13 : Int32).toUInt32 &&& Int32.toUInt32 31) (by decide)
    have e8 : nI z3 - nI z3 / 8 * 8 = nI (z3 % 8) := nI_rm (b := 8) hz3 (by omega) (by omega)
    have e9 : nI zd - nI zd / 9 * 9 = nI (zd % 9) := nI_rm (b := 9) hzd (by omega) (by omega)
    have h8 : z3 % 8 < 8 := Nat.mod_lt _ (by omega)
    have h9 : zd % 9 < 9 := Nat.mod_lt _ (by omega)
    have e10 : (10 : Int32) * nI (z3 % 8) = nI (10 * (z3 % 8)) := nI_mm 10 _
    have epay : (1 : Int32) + nI (zd % 9) = nI (1 + zd % 9) := nI_add 1 _
    -- the opening
    have op : ∀ (sh : Int32) (b : Nat) (x6 : Int32), x6 = nI y → ((sh == 42) || shp sh) = true → 0 < b → b ≤ 48 → ∃ mm' n' r' o6', run G (d + 8) 41 167 [some (.ref a0), some (.ref (ad A 11 0)), some (.int x2), some (.int (nI N)), some (.int (nI P)), some (.int (nI j)), some (.int x6), o7] [.int (nI b), .int (nI z7), .int 3, .int (nI (10 * (z3 % 8))), .int sh, .ref (ad A 11 0)] (S A H mm n r) = run G (d + 8) 41 198 [some (.ref a0), some (.ref (ad A 11 0)), some (.int x2), some (.int (nI N)), some (.int (nI P)), some (.int 0), o6', o7] [] (S A H mm' n' r') ∧ DRW mm' C N P ∧ n ≤ n' ∧ n' ≤ n + (t + 1) ∧ r' ≤ r + 6 * (t + 1) := by
      intro sh b x6 hx6 hsh hb0 hb48
      subst hx6
      have hrb : z7 % b < b := Nat.mod_lt _ hb0
      obtain ⟨mm1, n1, r1, e2, hD1, a1, a2, a3⟩ := drw_open (A := A) (H := H) hg hD (by omega) hsh (lo := 10 * (z3 % 8)) (hi := 3 + z7 % b) (pay := 1 + zd % 9) (by omega) (by omega) (by omega) (by omega) n r d
      obtain ⟨mm2, n2, r2, p6, g1, g2, b1, b2, b3⟩ := ih (j + 1) (by omega) mm1 n1 r1 (some (.int (nI y))) hD1
      refine ⟨mm2, n2, r2, p6, ?_, g2, by omega, by omega, by omega⟩
      rw [b41_167, if_neg (by rw [show (0 : Int32) = nI 0 from rfl, nI_eq (by omega) (by omega)]; omega), nI_rm (b := b) hz7 hb0 (by omega), show (3 : Int32) + nI (z7 % b) = nI (3 + z7 % b) from nI_add 3 _, ezd, e9, epay, cI_of e2, if_pos rfl, nI_1]
      exact g1
    have t136 : ∀ (sh : Int32), ((sh == 42) || shp sh) = true → ∃ mm' n' r' o6', run G (d + 8) 41 136 [some (.ref a0), some (.ref (ad A 11 0)), some (.int x2), some (.int (nI N)), some (.int (nI P)), some (.int (nI j)), some (.int (nI y)), o7] [.int sh, .ref (ad A 11 0)] (S A H mm n r) = run G (d + 8) 41 198 [some (.ref a0), some (.ref (ad A 11 0)), some (.int x2), some (.int (nI N)), some (.int (nI P)), some (.int 0), o6', o7] [] (S A H mm' n' r') ∧ DRW mm' C N P ∧ n ≤ n' ∧ n' ≤ n + (t + 1) ∧ r' ≤ r + 6 * (t + 1) := by
      intro sh hsh
      rw [b41_136, ez7, ez3, e8, e10]
      by_cases h : nI y - nI y / 9 * 9 = 0
      · rw [if_pos h]; exact op sh 48 (nI y) rfl hsh (by omega) (by omega)
      · rw [if_neg h]; exact op sh 14 (nI y) rfl hsh (by omega) (by omega)
    obtain ⟨e40, hsh⟩ := sh40 (G := G) (A := A) (H := H) (mm := mm) hgs hK hy1 n r (d + 3)
    have eb : ∀ Q : Res → Prop, Q (run G (d + 8) 41 136 [some (.ref a0), some (.ref (ad A 11 0)), some (.int x2), some (.int (nI N)), some (.int (nI P)), some (.int (nI j)), some (.int (nI y)), o7] [.int 42, .ref (ad A 11 0)] (S A H mm n r)) → Q (run G (d + 8) 41 136 [some (.ref a0), some (.ref (ad A 11 0)), some (.int x2), some (.int (nI N)), some (.int (nI P)), some (.int (nI j)), some (.int (nI y)), o7] [.int ([99, 115, 110].getD (y1 % 3) 0), .ref (ad A 11 0)] (S A H mm n r)) → Q (run G (d + 8) 41 96 [some (.ref a0), some (.ref (ad A 11 0)), some (.int x2), some (.int (nI N)), some (.int (nI P)), some (.int (nI j)), o6, o7] [] (S A H mm n r)) := by
      intro Q q1 q2
      rw [b41_96, if_neg (by rw [nI_leI (by omega) (by omega)]; omega), show (11 : Int32) + nI j = nI (11 + j) from nI_add 11 j, cI_of (ec ..), ey, ey1]
      by_cases h : nI y - nI y / 2 * 2 = 0
      · rw [if_pos h]; exact q1
      · rw [if_neg h, cI_of e40]; exact q2
    exact eb (fun z => ∃ mm' n' r' o6', z = run G (d + 8) 41 198 [some (.ref a0), some (.ref (ad A 11 0)), some (.int x2), some (.int (nI N)), some (.int (nI P)), some (.int 0), o6', o7] [] (S A H mm' n' r') ∧ DRW mm' C N P ∧ n ≤ n' ∧ n' ≤ n + (t + 1) ∧ r' ≤ r + 6 * (t + 1)) (t136 42 rfl) (t136 _ (by rw [hsh, Bool.or_true]))
theorem drw_c (hg : GF G fl) {a0 L : Nat} {f : Nat → Int32} (hSC : SC A H a0 L f) {N P : Nat} (hN : N ≤ 9) (hN0 : 0 < N) (hP : P ≤ 6) (hP0 : 0 < P) (x2 : Int32) (d : Nat) : ∀ t j, j + t = 12 → ∀ C mm n r o6 o7, DRX mm C N P → ∃ mm' n' r' o6' o7', run G (d + 8) 41 198 [some (.ref a0), some (.ref (ad A 11 0)), some (.int x2), some (.int (nI N)), some (.int (nI P)), some (.int (nI j)), o6, o7] [] (S A H mm n r) = run G (d + 8) 41 198 [some (.ref a0), some (.ref (ad A 11 0)), some (.int x2), some (.int (nI N)), some (.int (nI P)), some (.int 12), o6', o7'] [] (S A H mm' n' r') ∧ DRX mm' (C + 2970 * t) N P ∧ n ≤ n' ∧ n' ≤ n + t ∧ r' ≤ r + 6 * t := by
  intro t
  induction t with
  | zero =>
    intro j hj C mm n r o6 o7 hD
    have : j = 12 := by omega
    subst this
    exact ⟨mm, n, r, o6, o7, rfl, hD, Nat.le_refl _, Nat.le_refl _, Nat.le_refl _⟩
  | succ t ih =>
    intro j hj C mm n r o6 o7 hD
    obtain ⟨v, y, hy, ey, ec⟩ := cel2 hSC (17 + j) (by omega)
    obtain ⟨z2, hz2, ez2⟩ := ush_nn (nI y) ((2 : Int32).toUInt32 &&& Int32.toUInt32 31) (by decide)
    obtain ⟨z6, hz6, ez6⟩ := ush_nn (nI y) ((6 : Int32).toUInt32 &&& Int32.toUInt32 31) (by decide)
    have hNz : ¬ nI N = 0 := by rw [show (0 : Int32) = nI 0 from rfl, nI_eq (by omega) (by omega)]; omega
    have hPz : ¬ nI P = 0 := by rw [show (0 : Int32) = nI 0 from rfl, nI_eq (by omega) (by omega)]; omega
    have fin : ∀ F, CHG A H n r C N P F → ∃ mm' n' r' o6' o7', (cI F fun v6 s6 => run G (d + 8) 41 312 [some (.ref a0), some (.ref (ad A 11 0)), some (.int x2), some (.int (nI N)), some (.int (nI P)), some (.int (nI j)), some (.int (nI y)), o7] [.int v6] s6) = run G (d + 8) 41 198 [some (.ref a0), some (.ref (ad A 11 0)), some (.int x2), some (.int (nI N)), some (.int (nI P)), some (.int 12), o6', o7'] [] (S A H mm' n' r') ∧ DRX mm' (C + 2970 * (t + 1)) N P ∧ n ≤ n' ∧ n' ≤ n + (t + 1) ∧ r' ≤ r + 6 * (t + 1) := by
      intro F hF
      obtain ⟨v, mm1, n1, r1, e, hv, hD1, a1, a2, a3⟩ := hF
      obtain ⟨mm2, n2, r2, p6, p7, g1, g2, b1, b2, b3⟩ := ih (j + 1) (by omega) (C + 2970) mm1 n1 r1 (some (.int (nI y))) (some (.int v)) hD1
      refine ⟨mm2, n2, r2, p6, p7, ?_, DRX_le g2 (by omega), by omega, by omega, by omega⟩
      rw [cI_of e, b41_312, if_neg hv, nI_1]
      exact g1
    have eb : ∀ Q : Res → Prop, Q (cI (call G (d + 7) 13 [.ref (ad A 11 0), .int (nI (z2 % N)), .int (nI (z6 % N))] (S A H mm n r)) fun v6 s6 => run G (d + 8) 41 312 [some (.ref a0), some (.ref (ad A 11 0)), some (.int x2), some (.int (nI N)), some (.int (nI P)), some (.int (nI j)), some (.int (nI y)), o7] [.int v6] s6) → Q (cI (call G (d + 7) 29 [.ref (ad A 11 0), .int (nI (z2 % P)), .int (nI (z6 % N))] (S A H mm n r)) fun v6 s6 => run G (d + 8) 41 312 [some (.ref a0), some (.ref (ad A 11 0)), some (.int x2), some (.int (nI N)), some (.int (nI P)), some (.int (nI j)), some (.int (nI y)), o7] [.int v6] s6) → Q (cI (call G (d + 7) 32 [.ref (ad A 11 0), .int (nI (1 + z6 % 3))] (S A H mm n r)) fun v6 s6 => run G (d + 8) 41 312 [some (.ref a0), some (.ref (ad A 11 0)), some (.int x2), some (.int (nI N)), some (.int (nI P)), some (.int (nI j)), some (.int (nI y)), o7] [.int v6] s6) → Q (cI (call G (d + 7) 30 [.ref (ad A 11 0), .int (nI (z6 % P))] (S A H mm n r)) fun v6 s6 => run G (d + 8) 41 312 [some (.ref a0), some (.ref (ad A 11 0)), some (.int x2), some (.int (nI N)), some (.int (nI P)), some (.int (nI j)), some (.int (nI y)), o7] [.int v6] s6) → Q (run G (d + 8) 41 198 [some (.ref a0), some (.ref (ad A 11 0)), some (.int x2), some (.int (nI N)), some (.int (nI P)), some (.int (nI j)), o6, o7] [] (S A H mm n r)) := by
      intro Q q1 q2 q3 q4
      rw [b41_198, if_neg (by rw [show (12 : Int32) = nI 12 from rfl, nI_leI (by omega) (by omega)]; omega), show (17 : Int32) + nI j = nI (17 + j) from nI_add 17 j, cI_of (ec ..), ey, ez2, ez6, nI_rm (b := N) hz2 hN0 (by omega), nI_rm (b := P) hz2 hP0 (by omega), nI_rm (b := N) hz6 hN0 (by omega), nI_rm (b := P) hz6 hP0 (by omega), show nI z6 - nI z6 / 3 * 3 = nI (z6 % 3) from nI_rm (b := 3) hz6 (by omega) (by omega), show (1 : Int32) + nI (z6 % 3) = nI (1 + z6 % 3) from nI_add 1 _]
      by_cases h1 : 2 ≤ nI y - nI y / 4 * 4
      · rw [if_pos h1]
        by_cases h2 : nI y - nI y / 4 * 4 = 2
        · rw [if_pos h2, if_neg hPz, if_neg hNz]; exact q2
        · rw [if_neg h2]
          by_cases h3 : nI z2 - nI z2 / 3 * 3 = 0
          · rw [if_pos h3]; exact q3
          · rw [if_neg h3, if_neg hPz]; exact q4
      · rw [if_neg h1, if_neg hNz, if_neg hNz]; exact q1
    have hm3 : z6 % 3 < 3 := Nat.mod_lt _ (by omega)
    exact eb (fun z => ∃ mm' n' r' o6' o7', z = run G (d + 8) 41 198 [some (.ref a0), some (.ref (ad A 11 0)), some (.int x2), some (.int (nI N)), some (.int (nI P)), some (.int 12), o6', o7'] [] (S A H mm' n' r') ∧ DRX mm' (C + 2970 * (t + 1)) N P ∧ n ≤ n' ∧ n' ≤ n + (t + 1) ∧ r' ≤ r + 6 * (t + 1))
      (fin _ (chg_rf hg hD (by omega) (a := z2 % N) (b := z6 % N) (Nat.mod_lt _ hN0) (Nat.mod_lt _ hN0) n r d))
      (fin _ (chg_hi hg hD hP (q := z2 % P) (Nat.mod_lt _ hP0) (nI (z6 % N)) n r d))
      (fin _ (chg_pd hg hD (t := 1 + z6 % 3) (by omega) (by omega) n r d))
      (fin _ (chg_hb hg hD hP (q := z6 % P) (Nat.mod_lt _ hP0) n r d))
end
