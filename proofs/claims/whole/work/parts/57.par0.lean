/-! THE LAW'S LOOP, part 2: both answer a question alike; ways to say so. -/
theorem SB_n {A : Nat} {H : Hp} {cap n n' : Nat} {t : List Int32} (h : SB A H cap t n) (hn : n ≤ n') : SB A H cap t n' := by
  obtain ⟨v, mb, f, h1, h2, h3, h4, h5, h6, h7⟩ := h
  exact ⟨v, mb, f, h1, h2, h3.imp id fun ⟨a, b⟩ => ⟨a, by omega⟩, h4, h5, by omega, h7⟩
theorem SB_q {A q : Nat} {H : Hp} {cap n : Nat} {t : List Int32} {c : Cel} (h : SB A H cap t n) (hq : A + 177 ≤ q) (hq2 : q < A + 179 ∨ n ≤ q) : SB A (hset H q c) cap t n := by
  obtain ⟨v, mb, f, h1, h2, h3, h4, h5, h6, h7⟩ := h
  have e9 := ad_9 A
  have e10 := ad_10 A
  exact ⟨v, mb, f, by rw [hset_ne (by omega)]; exact h1, by rw [hset_ne (by omega)]; exact h2, h3, h4, h5, h6, h7⟩
theorem SBK_n {A : Nat} {H : Hp} {n n' : Nat} (hn : n ≤ n') : SBK A H n H n' := fun _ _ h => SB_n h hn
theorem SBK_q {A q : Nat} {H : Hp} {n n' : Nat} {c : Cel} (hq : A + 177 ≤ q) (hq2 : q < A + 179 ∨ n ≤ q) (hn : n ≤ n') : SBK A H n (hset H q c) n' := fun _ _ h => SB_n (SB_q h hq hq2) hn
theorem LX_177 {A : Nat} {H : Hp} (h : LX A H) (y : Int64) : LX A (hset H (A + 177) (lC y)) := ⟨⟨y, hset_at ..⟩, by obtain ⟨x, e⟩ := h.2; exact ⟨x, by rw [hset_ne (by omega)]; exact e⟩⟩
theorem LX_178 {A : Nat} {H : Hp} (h : LX A H) (y : UInt64) : LX A (hset H (A + 178) (dC y)) := ⟨by obtain ⟨x, e⟩ := h.1; exact ⟨x, by rw [hset_ne (by omega)]; exact e⟩, ⟨y, hset_at ..⟩⟩
theorem LX_hi {A q : Nat} {H : Hp} {c : Cel} (h : LX A H) (hq : A + 179 ≤ q) : LX A (hset H q c) := by
  obtain ⟨⟨x, e⟩, y, f⟩ := h
  exact ⟨⟨x, by rw [hset_ne (by omega)]; exact e⟩, y, by rw [hset_ne (by omega)]; exact f⟩
theorem HE_rfl (A : Nat) (H : Hp) : HE A H H := fun _ _ => rfl
/-- a call of both: by the wrapper w and the model's method q -/
def PAIR (G : Glb) (A : Nat) (H0 : Hp) (mm : Mm) (H : Hp) (n r t w q : Nat) (ca ma : List Value) (fo : Int32 → Int64) : Prop := ∃ kk b mm1 H1 n1 r1 D' s' H2 n2 r2, call G 40 w (.ref (ad A 11 0) :: (ca ++ [.ref (A + 177)])) (S A H mm n r) = vI kk (S A H1 mm1 n1 r1) ∧ call G 40 q (.ref (ad A 12 0) :: ma) (S A H1 mm1 n1 r1) = vI b (S A H2 (sb mm1 12 (us D' 1 s')) n2 r2) ∧ D' 0 6 = kk ∧ (kk = 0 → H2 (A + 177) = some (lC (fo b))) ∧ HE A H H1 ∧ HE A H H2 ∧ LJ A H0 (sb mm1 12 (us D' 1 s')) D' s' H2 n2 r2 (t + 1)
/-- a call of both without exceptions -/
def PAIA (G : Glb) (A : Nat) (H0 : Hp) (mm : Mm) (H : Hp) (n r t w q : Nat) : Prop := ∃ b mm1 H1 n1 r1 D' s' H2 n2 r2, call G 40 w [.ref (ad A 11 0)] (S A H mm n r) = vI b (S A H1 mm1 n1 r1) ∧ call G 40 q [.ref (ad A 12 0)] (S A H1 mm1 n1 r1) = vI b (S A H2 (sb mm1 12 (us D' 1 s')) n2 r2) ∧ HE A H H2 ∧ LJ A H0 (sb mm1 12 (us D' 1 s')) D' s' H2 n2 r2 (t + 1)
section
variable {G : Glb} {A n r t w q : Nat} {H H0 : Hp} {mm : Mm} {D : Bd} {s : Nat → Int32} {ca ma : List Value} {fo : Int32 → Int64}
theorem LJ_mm (hL : LJ A H0 mm D s H n r t) {mm' : Mm} (h : mm' 12 = mm 12) : sb mm' 12 (us D 1 s) = mm' := by
  rw [← hL.1, ← h, sb_self]
theorem LJ_lx (hL : LJ A H0 mm D s H n r t) : LX A H := hL.2.2.2.2.2.2
theorem LJ_n (hL : LJ A H0 mm D s H n r t) : A + 179 ≤ n := by
  obtain ⟨_, _, _, _, ⟨cap, tx, ⟨o1, _⟩, _⟩, _⟩ := hL
  obtain ⟨v, mb, f, h1, h2, h3, h4, h5, h6, h7⟩ := o1
  exact h6
theorem LJ_q6 (hL : LJ A H0 mm D s H n r t) {mm' : Mm} (hS : SAME mm mm') {v : Int32} {H' : Hp} {n' r' : Nat} (hE : HE A H H') (hx : LX A H') (hsb : SBK A H n H' n') (hn : n' ≤ n + 2) (hr : r' ≤ r + 70) : LJ A H0 (sb mm' 12 (us (ud D 0 6 v) 1 s)) (ud D 0 6 v) s H' n' r' (t + 1) := LJ_same hL hS (SAMD_6 D v) hE hx hsb (by omega) (by omega) (by omega)
/-- both refuse a question -/
theorem PQ_x (hL : LJ A H0 mm D s H n r t) {kk b : Int32} (hk : ¬ kk = 0) (hw : call G 40 w (.ref (ad A 11 0) :: (ca ++ [.ref (A + 177)])) (S A H mm n r) = vI kk (S A H mm (n + 1) (r + 6))) (hq : call G 40 q (.ref (ad A 12 0) :: ma) (S A H (sb mm 12 (us D 1 s)) (n + 1) (r + 6)) = vI b (S A H (sb mm 12 (us (ud D 0 6 kk) 1 s)) (n + 1) (r + 6))) : PAIR G A H0 mm H n r t w q ca ma fo := by
  rw [LJ_mm hL rfl] at hq
  exact ⟨kk, b, mm, H, n + 1, r + 6, ud D 0 6 kk, s, H, n + 1, r + 6, hw, hq, ud_eq .., fun h => absurd h hk, HE_rfl A H, HE_rfl A H, LJ_q6 hL (SAME_rfl mm) (HE_rfl A H) (LJ_lx hL) (SBK_n (by omega)) (by omega) (by omega)⟩
/-- both answer it -/
theorem PQ_v (hL : LJ A H0 mm D s H n r t) {y : Int64} {b : Int32} (hw : call G 40 w (.ref (ad A 11 0) :: (ca ++ [.ref (A + 177)])) (S A H mm n r) = vI 0 (S A (hset H (A + 177) (lC y)) mm n r)) (hq : call G 40 q (.ref (ad A 12 0) :: ma) (S A (hset H (A + 177) (lC y)) (sb mm 12 (us D 1 s)) n r) = vI b (S A (hset H (A + 177) (lC y)) (sb mm 12 (us (ud D 0 6 0) 1 s)) n r)) (hy : y = fo b) : PAIR G A H0 mm H n r t w q ca ma fo := by
  rw [LJ_mm hL rfl] at hq
  refine ⟨0, b, mm, hset H (A + 177) (lC y), n, r, ud D 0 6 0, s, hset H (A + 177) (lC y), n, r, hw, hq, ud_eq .., fun _ => by rw [← hy]; exact hset_at .., HE_set (by omega), HE_set (by omega), LJ_q6 hL (SAME_rfl mm) (HE_set (by omega)) (LX_177 (LJ_lx hL) y) (SBK_q (by omega) (Or.inl (by omega)) (Nat.le_refl _)) (by omega) (by omega)⟩
/-- both answer a question that is always answered -/
theorem PA_v (hL : LJ A H0 mm D s H n r t) {b : Int32} {mm' : Mm} (hS : SAME mm mm') (h12 : mm' 12 = mm 12) (hw : call G 40 w [.ref (ad A 11 0)] (S A H mm n r) = vI b (S A H mm' n r)) (hq : call G 40 q [.ref (ad A 12 0)] (S A H (sb mm' 12 (us D 1 s)) n r) = vI b (S A H (sb mm' 12 (us (ud D 0 6 0) 1 s)) n r)) : PAIA G A H0 mm H n r t w q := by
  rw [LJ_mm hL h12] at hq
  exact ⟨b, mm', H, n, r, ud D 0 6 0, s, H, n, r, hw, hq, HE_rfl A H, LJ_q6 hL hS (HE_rfl A H) (LJ_lx hL) (SBK_n (Nat.le_refl _)) (by omega) (by omega)⟩
/-- what a state gives -/
theorem LJ_get (hL : LJ A H0 mm D s H n r t) : ∃ k p g C u, CP (mm 0) s k p g ∧ CB (mm 0) k C ∧ C ≤ 2970 * t ∧ mm 0 1 0 = nI k ∧ k ≤ 10 ∧ mm 0 9 0 = nI p ∧ p ≤ 6 ∧ PV (mm 0) k p ∧ s 2 = nI p ∧ mm 11 0 4 = nI u ∧ u ≤ 8 ∧ HW (mm 11) ∧ D 0 5 = nI u ∧ ∀ i, i < k → ¬ mm 0 2 i = -1 := by
  obtain ⟨_, ⟨C, hC, ⟨k, p, g, cp, cb⟩, ⟨u, u1, u2, u3, u4, u5, u6⟩, _⟩, _⟩ := hL
  refine ⟨k, p, g, C, u, cp, cb, hC, cp.1.1.1, CP_k cp, cp.1.1.2.2.1, CP_p cp, CP_pv cp, cp.2.2.1.2.2, u2, u1, u4, u3, fun i hi => ?_⟩
  obtain ⟨x, hx, e⟩ := CP_id cp hi
  rw [e]; exact nI_nm1 (by omega)
theorem eq_chr {v : Int32} (h : v = 42 ∨ isSh v) : c16 v = v := by
  rcases h with h | h | h | h <;> subst h <;> decide
end
