/-! CLASS AND MODEL TOGETHER, part 17: augmenting paths find the greatest number. -/
theorem cnt_inj {f : Nat → Nat} {m : Nat} : ∀ {n : Nat} {P Q : Nat → Bool}, (∀ i, i < n → P i = true → f i < m ∧ Q (f i) = true) → (∀ i j, i < n → j < n → P i = true → P j = true → f i = f j → i = j) → cnt P n ≤ cnt Q m := by
  intro n
  induction n with
  | zero => intro P Q _ _; exact Nat.zero_le _
  | succ n ih =>
    intro P Q h1 h2
    by_cases e : P n = true
    · obtain ⟨a, b⟩ := h1 n (by omega) e
      rw [cnt_t e]
      have := cnt_upd (p := Q) (p' := fun a => Q a && !(a == f n)) (q := f n) a b (by simp) (fun j hj => by simp [hj])
      rw [this]
      have := ih (P := P) (Q := fun a => Q a && !(a == f n)) (fun i hi hx => by
        obtain ⟨c, d⟩ := h1 i (by omega) hx
        refine ⟨c, ?_⟩
        have hne : f i ≠ f n := fun hy => by have := h2 i n (by omega) (by omega) hx e hy; omega
        simp [d, hne]) (fun i j hi hj => h2 i j (by omega) (by omega))
      omega
    · rw [cnt_f (by simpa using e)]
      exact ih (fun i hi => h1 i (by omega)) (fun i j hi hj => h2 i j (by omega) (by omega))
theorem cnt_two {P Q R : Nat → Bool} : ∀ {n : Nat}, (∀ i, i < n → P i = true → Q i = true ∨ R i = true) → cnt P n ≤ cnt Q n + cnt R n := by
  intro n
  induction n with
  | zero => intro _; exact Nat.le_refl _
  | succ n ih =>
    intro h
    have i1 := ih (fun i hi => h i (by omega))
    rw [cnt, cnt, cnt]
    have h1 := h n (by omega)
    cases e1 : P n <;> cases e2 : Q n <;> cases e3 : R n <;> simp <;> first | omega | (exfalso; rw [e1, e2, e3] at h1; simp at h1)
theorem cnt_dis {P Q R : Nat → Bool} : ∀ {n : Nat}, (∀ i, i < n → Q i = true → P i = true) → (∀ i, i < n → R i = true → P i = true) → (∀ i, i < n → Q i = true → R i = true → False) → cnt Q n + cnt R n ≤ cnt P n := by
  intro n
  induction n with
  | zero => intro _ _ _; exact Nat.le_refl _
  | succ n ih =>
    intro h1 h2 h3
    have i1 := ih (fun i hi => h1 i (by omega)) (fun i hi => h2 i (by omega)) (fun i hi => h3 i (by omega))
    rw [cnt, cnt, cnt]
    have a1 := h1 n (by omega)
    have a2 := h2 n (by omega)
    have a3 := h3 n (by omega)
    cases e1 : P n <;> cases e2 : Q n <;> cases e3 : R n <;> simp <;> first | omega | exact (a3 e2 e3).elim | exact absurd (a1 e2) (by rw [e1]; decide) | exact absurd (a2 e3) (by rw [e1]; decide)
def mkT (P : Nat → Bool) : Nat → Nat
  | 0 => 0
  | n + 1 => if P n = true then mkT P n ||| 2 ^ n else mkT P n
theorem mkT_lt (P : Nat → Bool) : ∀ n, mkT P n < 2 ^ n := by
  intro n
  induction n with
  | zero => exact Nat.one_pos
  | succ n ih =>
    have h2 : 2 ^ n < 2 ^ (n + 1) := Nat.pow_lt_pow_right (by decide) (by omega)
    rw [mkT]
    split
    · exact Nat.or_lt_two_pow (Nat.lt_trans ih h2) h2
    · exact Nat.lt_trans ih h2
theorem mkT_b (P : Nat → Bool) : ∀ n t, (mkT P n).testBit t = (decide (t < n) && P t) := by
  intro n
  induction n with
  | zero => intro t; rw [mkT, Nat.zero_testBit]; simp
  | succ n ih =>
    intro t
    rw [mkT]
    by_cases hp : P n = true
    · rw [if_pos hp, bt_orb, ih t]
      by_cases e : n = t
      · subst e; simp [hp]
      · rw [decide_eq_false e, Bool.or_false]
        congr 1
        rw [decide_eq_decide]; omega
    · rw [if_neg hp, ih t]
      by_cases e : n = t
      · subst e; simp [hp]
      · congr 1
        rw [decide_eq_decide]; omega
theorem clr_5 (X : Bd) : clr6 X 5 = X 5 := us_ne (by omega)
theorem clr_t {X : Bd} {i : Nat} (hi : i < 10) : trb (clr6 X) i = false := by
  unfold trb clr6 mix
  rw [us_eq]
  simp only [if_pos hi]; rfl
/-- the posts that are given -/
def mtd (X : Bd) (k t : Nat) : Bool := (fst (fun i => X 5 i == nI t) k).isSome
theorem mtd_iff {X : Bd} {k t : Nat} : mtd X k t = true ↔ ∃ i, i < k ∧ X 5 i = nI t := by
  unfold mtd
  constructor
  · intro h
    obtain ⟨i, e⟩ := Option.isSome_iff_exists.mp h
    have := fst_some e
    exact ⟨i, this.1, by have := this.2.1; simpa using this⟩
  · rintro ⟨i, hi, e⟩
    obtain ⟨j, e'⟩ := fst_ex (p := fun i => X 5 i == nI t) (n := k) ⟨i, hi, by simp [e]⟩
    rw [e']; rfl
def KI (B X : Bd) (k p q c : Nat) : Prop := (∀ i, i < k → X 5 i = -1 ∨ ∃ t, t < q ∧ X 5 i = nI t ∧ waB B i = true ∧ ftB B i t = true ∧ vcB B k t = true) ∧ (∀ i j t, i < k → j < k → t < p → X 5 i = nI t → X 5 j = nI t → i = j) ∧ c = cnt (mtd X k) q ∧ ∃ C : Nat → Prop, (∀ i, i < k → C i → ∃ t, t < q ∧ X 5 i = nI t ∧ Nb B k t C) ∧ ∀ t, t < q → vcB B k t = true → mtd X k t = false → Nb B k t C
section
variable {B : Bd} {s : Nat → Int32} {k p : Nat} {g : Nat → Nat}
theorem KI_s (h : CP B s k p g) (X : Bd) : ∀ q, q ≤ p → KI B (cpS B k (vac B p k) (X0p X) q).2 k p q (cpS B k (vac B p k) (X0p X) q).1 := by
  have hp := CP_p h
  have hk := CP_k h
  obtain ⟨V, hV, eV, hVb⟩ := vac_v h
  intro q
  induction q with
  | zero =>
    intro _
    have e5 : ∀ i, i < k → X0p X 5 i = -1 := fun i hi => by unfold X0p; rw [us_eq]; exact if_pos (by omega)
    refine ⟨fun i hi => Or.inl (e5 i hi), fun i j t hi hj ht h1 => ?_, rfl, fun _ => False, fun _ _ h1 => h1.elim, fun t ht => by omega⟩
    have h1' : X0p X 5 i = nI t := h1
    rw [e5 i hi] at h1'; exact absurd h1'.symm (nI_nm1 (by omega))
  | succ q ih =>
    intro hq
    have i0 := ih (by omega)
    rw [cpS]
    generalize cpS B k (vac B p k) (X0p X) q = st at i0 ⊢
    obtain ⟨c, Y⟩ := st
    obtain ⟨k1, k2, k3, C, k4, k5⟩ := i0
    have k1' : ∀ i, i < k → Y 5 i = -1 ∨ ∃ t, t < q ∧ Y 5 i = nI t ∧ waB B i = true ∧ ftB B i t = true ∧ vcB B k t = true := k1
    have k3' : c = cnt (mtd Y k) q := k3
    have hbit : bitq (vac B p k) q = vcB B k q := by
      unfold bitq
      rw [eV, bt_ush V hV q (by omega), hVb q (by omega)]
    have hnq : mtd Y k q = false := by
      cases e : mtd Y k q with
      | false => rfl
      | true =>
        obtain ⟨i, hi, hx⟩ := mtd_iff.mp e
        rcases k1' i hi with h0 | ⟨t, ht, h0, _⟩
        · rw [hx] at h0; exact absurd h0 (nI_nm1 (by omega))
        · rw [hx] at h0; have := nI_inj (by omega) (by omega) h0; omega
    rw [hbit]
    by_cases hv : vcB B k q = true
    · rw [if_pos hv]
      obtain ⟨R, eR⟩ : ∃ R, R = fpB B k 6 q (clr6 Y) := ⟨_, rfl⟩
      show KI B (fpB B k 6 q (clr6 Y)).2 k p (q + 1) (c + if (fpB B k 6 q (clr6 Y)).1 = true then 1 else 0)
      have hVal : Val B (clr6 Y) k p := fun i hi => by
        rw [clr_5]
        rcases k1' i hi with h0 | ⟨t, ht, h0, h1, h2, _⟩
        · exact Or.inl h0
        · exact Or.inr ⟨t, by omega, h0, h1, h2⟩
      obtain ⟨⟨a1, a2, a3, a4⟩, a5⟩ := fpB_sp hp hk 6 q (clr6 Y) (by omega) hVal
      have hU : ∀ i, i < k → UU (clr6 Y) k i := fun i hi => ⟨hi, clr_t (by omega)⟩
      have hW : Way (clr6 Y) k q 6 (fun _ => false) := ⟨rfl, rfl, fun i t hi ht hx => ⟨rfl, fun e => by
        rw [clr_5] at hx
        have := mtd_iff.mpr ⟨i, hi.1, hx⟩
        rw [e, hnq] at this; cases this⟩⟩
      have hI : Inj (clr6 Y) k p := fun i j t hi hj ht h1 h2 => by
        rw [clr_5] at h1 h2; exact k2 i j t hi.1 hj.1 ht h1 h2
      obtain ⟨f1, f2⟩ := a5 _ hW hI
      rw [← eR] at a1 a2 a3 a4 f1 f2 ⊢
      by_cases hb : R.1 = true
      · rw [if_pos hb]
        obtain ⟨s1, s2, s3⟩ := f2 hb
        have him : ∀ t, t < p → (mtd R.2 k t = true ↔ t = q ∨ mtd Y k t = true) := by
          intro t ht
          rw [mtd_iff, mtd_iff]
          constructor
          · rintro ⟨i, hi, hx⟩
            rcases (s3 t ht).mp ⟨i, hU i hi, hx⟩ with e | ⟨j, hj, hy⟩
            · exact Or.inl e
            · rw [clr_5] at hy; exact Or.inr ⟨j, hj.1, hy⟩
          · intro hx
            have : ∃ i, UU (clr6 Y) k i ∧ R.2 5 i = nI t := (s3 t ht).mpr (by
              rcases hx with e | ⟨j, hj, hy⟩
              · exact Or.inl e
              · exact Or.inr ⟨j, hU j hj, by rw [clr_5]; exact hy⟩)
            obtain ⟨i, hi, hy⟩ := this
            exact ⟨i, hi.1, hy⟩
        refine ⟨fun i hi => ?_, fun i j t hi hj ht h1 h2 => s2 i j t (hU i hi) (hU j hj) ht h1 h2, ?_, C, fun i hi hC => ?_, fun t ht hvt hm => ?_⟩
        · rcases s1 i hi with h0 | ⟨t, ht, h0, h1, h2⟩
          · exact Or.inl h0
          · refine Or.inr ⟨t, ?_, h0, h1, h2, ?_⟩
            all_goals
              rcases (him t ht).mp (mtd_iff.mpr ⟨i, hi, h0⟩) with e | e
            · omega
            · obtain ⟨j, hj, hy⟩ := mtd_iff.mp e
              rcases k1' j hj with g0 | ⟨u, hu, g0, _⟩
              · rw [hy] at g0; exact absurd g0 (nI_nm1 (by omega))
              · rw [hy] at g0; have := nI_inj (by omega) (by omega) g0; omega
            · rw [e]; exact hv
            · obtain ⟨j, hj, hy⟩ := mtd_iff.mp e
              rcases k1' j hj with g0 | ⟨u, hu, g0, _, _, g1⟩
              · rw [hy] at g0; exact absurd g0 (nI_nm1 (by omega))
              · rw [hy] at g0
                have := nI_inj (by omega) (by omega) g0
                subst this; exact g1
        · have hqm : mtd R.2 k q = true := (him q (by omega)).mpr (Or.inl rfl)
          rw [cnt_t hqm, k3']
          congr 1
          refine cnt_cg fun t ht => ?_
          have := him t (by omega)
          cases e1 : mtd R.2 k t with
          | true =>
            rcases this.mp e1 with e | e
            · omega
            · exact e
          | false =>
            cases e2 : mtd Y k t with
            | false => rfl
            | true => rw [this.mpr (Or.inr e2)] at e1; cases e1
        · obtain ⟨t, ht, hx, hN⟩ := k4 i hi hC
          refine ⟨t, by omega, ?_, hN⟩
          rw [(a4 C (fun j hj hCj => by
            obtain ⟨u, hu, hy, hN2⟩ := k4 j hj hCj
            exact ⟨u, by omega, by rw [clr_5]; exact hy, hN2⟩)).2 i hi hC, clr_5]
          exact hx
        · have hne : t ≠ q := fun e => by
            subst e; rw [(him t (by omega)).mpr (Or.inl rfl)] at hm; cases hm
          refine k5 t (by omega) hvt ?_
          cases e2 : mtd Y k t with
          | false => rfl
          | true => rw [(him t (by omega)).mpr (Or.inr e2)] at hm; cases hm
      · rw [if_neg hb, Nat.add_zero]
        have hb' : R.1 = false := by simpa using hb
        obtain ⟨b1, b2⟩ := f1 hb'
        have r5 : ∀ i, R.2 5 i = Y 5 i := fun i => by rw [a2 hb' i, clr_5]
        have em : ∀ t, mtd R.2 k t = mtd Y k t := fun t => by
          unfold mtd; rw [fst_cg (fun i _ => by rw [r5])]
        refine ⟨fun i hi => ?_, fun i j t hi hj ht h1 h2 => ?_, ?_, fun j => C j ∨ trb R.2 j = true, fun i hi hC => ?_, fun t ht hvt hm => ?_⟩
        · rw [r5]
          exact (k1' i hi).imp id fun ⟨t, ht, h0⟩ => ⟨t, by omega, h0⟩
        · rw [r5] at h1 h2; exact k2 i j t hi hj ht h1 h2
        · rw [cnt_f ((em q).trans hnq), k3']
          exact cnt_cg fun t _ => (em t).symm
        · rcases hC with hC | hC
          · obtain ⟨t, ht, hx, hN⟩ := k4 i hi hC
            exact ⟨t, by omega, by rw [r5]; exact hx, fun j hj h1 h2 => Or.inl (hN j hj h1 h2)⟩
          · obtain ⟨t, ht, hx, hN⟩ := b2 i hi hC (clr_t (by omega))
            rw [clr_5] at hx
            have htq : t < q := by
              rcases k1' i hi with g0 | ⟨u, hu, g0, _⟩
              · rw [hx] at g0; exact absurd g0 (nI_nm1 (by omega))
              · rw [hx] at g0; have := nI_inj (by omega) (by omega) g0; omega
            exact ⟨t, by omega, by rw [r5]; exact hx, fun j hj h1 h2 => Or.inr (hN j hj h1 h2)⟩
        · by_cases e : t = q
          · subst e; exact fun j hj h1 h2 => Or.inr (b1 j hj h1 h2)
          · have := k5 t (by omega) hvt (by rw [← em t]; exact hm)
            exact fun j hj h1 h2 => Or.inl (this j hj h1 h2)
    · rw [if_neg hv]
      show KI B Y k p (q + 1) c
      refine ⟨fun i hi => (k1' i hi).imp id fun ⟨t, ht, h0⟩ => ⟨t, by omega, h0⟩, k2, by rw [cnt_f hnq]; exact k3', C, fun i hi hC => ?_, fun t ht hvt hm => ?_⟩
      · obtain ⟨t, ht, hx⟩ := k4 i hi hC
        exact ⟨t, by omega, hx⟩
      · have : t ≠ q := fun e => hv (by rw [← e]; exact hvt)
        exact k5 t (by omega) hvt hm
theorem O_mo (h : CP B s k p g) (X Y : Bd) : nI (cpS B k (vac B p k) (X0p X) p).1 = mxM (mcA s p F0m 10) 64 ∧ mxS (fsA B p (vac B p k) (F0s Y) k) 64 = mxM (mcA s p F0m 10) 64 := by
  have hp := CP_p h
  have hk := CP_k h
  refine ⟨?_, O_ms h Y⟩
  have h0 := KI_s h X p (Nat.le_refl p)
  generalize cpS B k (vac B p k) (X0p X) p = st at h0 ⊢
  obtain ⟨c, Z⟩ := st
  obtain ⟨k1, k2, k3, C, k4, k5⟩ := h0
  have k1' : ∀ i, i < k → Z 5 i = -1 ∨ ∃ t, t < p ∧ Z 5 i = nI t ∧ waB B i = true ∧ ftB B i t = true ∧ vcB B k t = true := k1
  have k2' : ∀ i j t, i < k → j < k → t < p → Z 5 i = nI t → Z 5 j = nI t → i = j := k2
  have k3' : c = cnt (mtd Z k) p := k3
  have k4' : ∀ i, i < k → C i → ∃ t, t < p ∧ Z 5 i = nI t ∧ Nb B k t C := k4
  have k5' : ∀ t, t < p → vcB B k t = true → mtd Z k t = false → Nb B k t C := k5
  show nI c = _
  have hpc : ∀ S : Nat, S < 64 → (∀ t, S.testBit t = true → t < p) → pcn S = cnt S.testBit p := by
    intro S hS hb
    unfold pcn
    have : IJ (fun j => j) p 10 := ⟨fun i hi => Nat.lt_of_lt_of_le hi (by omega), fun i j _ _ e => e⟩
    exact cnt_ij this (p := fun a => S.testBit a) (fun a _ ht => ⟨a, hb a ht, rfl⟩)
  symm
  -- the matching itself
  have hMl := mkT_lt (mtd Z k) p
  have hM64 : mkT (mtd Z k) p < 64 := Nat.lt_of_lt_of_le hMl (Nat.pow_le_pow_right (by decide) hp : 2 ^ p ≤ 2 ^ 6)
  have hMb := mkT_b (mtd Z k) p
  have hMp : ∀ t, (mkT (mtd Z k) p).testBit t = true → t < p ∧ mtd Z k t = true := fun t ht => by
    rw [hMb, Bool.and_eq_true, decide_eq_true_eq] at ht; exact ht
  refine mx_c (j := mkT (mtd Z k) p) hM64 ?_ ?_ ?_
  · rw [mcA_TB hp 10 _ hM64, TB_MT hp 10 _ hM64, ← MT_iff h]
    refine ⟨fun t ht => (hMp t ht).1, fun t => (fst (fun i => Z 5 i == nI t) k).getD 0, fun t ht => ?_, fun t u ht hu => ?_⟩
    · obtain ⟨h1, h2⟩ := hMp t ht
      unfold mtd at h2
      obtain ⟨i, e⟩ := Option.isSome_iff_exists.mp h2
      have hi := fst_some e
      have hx : Z 5 i = nI t := by have := hi.2.1; simpa using this
      simp only [e, Option.getD_some]
      refine ⟨hi.1, ?_⟩
      rcases k1' i hi.1 with g0 | ⟨u, hu, g0, g1, g2, g3⟩
      · rw [hx] at g0; exact absurd g0 (nI_nm1 (by omega))
      · rw [hx] at g0
        have := nI_inj (by omega) (by omega) g0
        subst this
        unfold eB; rw [g1, g2, g3]; rfl
    · obtain ⟨h1, h2⟩ := hMp t ht
      obtain ⟨h3, h4⟩ := hMp u hu
      unfold mtd at h2 h4
      obtain ⟨i, e⟩ := Option.isSome_iff_exists.mp h2
      obtain ⟨j, e'⟩ := Option.isSome_iff_exists.mp h4
      have hi := (fst_some e).2.1
      have hj := (fst_some e').2.1
      simp only [e, e', Option.getD_some]
      intro hij
      subst hij
      have hx : Z 5 i = nI t := by simpa using hi
      have hy : Z 5 i = nI u := by simpa using hj
      rw [hx] at hy
      exact nI_inj (by omega) (by omega) hy
  · rw [hpc _ hM64 (fun t ht => (hMp t ht).1), k3']
    exact cnt_cg fun t ht => by rw [hMb, decide_eq_true ht, Bool.true_and]
  · intro S hS hz
    rw [mcA_TB hp 10 _ hS, TB_MT hp 10 _ hS, ← MT_iff h] at hz
    obtain ⟨hb, f, f1, f2⟩ := hz
    rw [hpc S hS hb, k3']
    have dec : ∀ P : Prop, ∃ b : Bool, b = true ↔ P := fun P => by
      by_cases hx : P
      · exact ⟨true, fun _ => hx, fun _ => rfl⟩
      · exact ⟨false, fun h => (by cases h), fun h => absurd h hx⟩
    obtain ⟨Cb, hCb⟩ : ∃ Cb : Nat → Bool, ∀ i, Cb i = true ↔ C i := ⟨fun i => (dec (C i)).choose, fun i => (dec (C i)).choose_spec⟩
    obtain ⟨Nbb, hNb⟩ : ∃ Nbb : Nat → Bool, ∀ t, Nbb t = true ↔ Nb B k t C := ⟨fun t => (dec (Nb B k t C)).choose, fun t => (dec (Nb B k t C)).choose_spec⟩
    obtain ⟨MC, hMC⟩ : ∃ MC : Nat → Bool, ∀ t, MC t = true ↔ ∃ i, i < k ∧ Z 5 i = nI t ∧ C i := ⟨fun t => (dec _).choose, fun t => (dec (∃ i, i < k ∧ Z 5 i = nI t ∧ C i)).choose_spec⟩
    obtain ⟨MN, hMN⟩ : ∃ MN : Nat → Bool, ∀ t, MN t = true ↔ ∃ i, i < k ∧ Z 5 i = nI t ∧ ¬ C i := ⟨fun t => (dec _).choose, fun t => (dec (∃ i, i < k ∧ Z 5 i = nI t ∧ ¬ C i)).choose_spec⟩
    have l1 : cnt S.testBit p ≤ cnt (fun t => S.testBit t && Nbb t) p + cnt (fun t => S.testBit t && !(Nbb t)) p := cnt_two fun t _ ht => by
      cases e : Nbb t <;> simp [ht, e]
    have l2 : cnt (fun t => S.testBit t && Nbb t) p ≤ cnt Cb k := cnt_inj (f := f) (fun t ht hx => by
      simp only [Bool.and_eq_true] at hx
      obtain ⟨h1, h2⟩ := f1 t hx.1
      unfold eB at h2
      simp only [Bool.and_eq_true] at h2
      exact ⟨h1, (hCb _).mpr ((hNb t).mp hx.2 _ h1 h2.1 h2.2.1)⟩) (fun t u _ _ hx hy => by
      simp only [Bool.and_eq_true] at hx hy
      exact f2 t u hx.1 hy.1)
    have l3 : cnt Cb k ≤ cnt MC p := cnt_inj (f := fun i => nt (Z 5 i)) (fun i hi hx => by
      obtain ⟨t, ht, e, _⟩ := k4' i hi ((hCb i).mp hx)
      simp only [e, nt_nI (show t < 2 ^ 31 by omega)]
      exact ⟨ht, (hMC t).mpr ⟨i, hi, e, (hCb i).mp hx⟩⟩) (fun i j hi hj hx hy hxy => by
      obtain ⟨t, ht, e, _⟩ := k4' i hi ((hCb i).mp hx)
      obtain ⟨u, hu, e', _⟩ := k4' j hj ((hCb j).mp hy)
      simp only [e, e', nt_nI (show t < 2 ^ 31 by omega), nt_nI (show u < 2 ^ 31 by omega)] at hxy
      subst hxy
      exact k2' i j t hi hj ht e e')
    have l4 : cnt (fun t => S.testBit t && !(Nbb t)) p ≤ cnt MN p := cnt_le_of fun t ht hx => by
      simp only [Bool.and_eq_true, Bool.not_eq_true'] at hx
      obtain ⟨h1, h2⟩ := f1 t hx.1
      unfold eB at h2
      simp only [Bool.and_eq_true] at h2
      have hnN : ¬ Nb B k t C := fun hy => by rw [(hNb t).mpr hy] at hx; exact absurd hx.2 (by decide)
      have hm : mtd Z k t = true := by
        cases e : mtd Z k t with
        | true => rfl
        | false => exact absurd (k5' t ht h2.2.2 e) hnN
      obtain ⟨i, hi, e⟩ := mtd_iff.mp hm
      refine (hMN t).mpr ⟨i, hi, e, fun hC => ?_⟩
      obtain ⟨u, hu, e', hN⟩ := k4' i hi hC
      rw [e] at e'
      have := nI_inj (by omega) (by omega) e'
      subst this; exact hnN hN
    have l5 : cnt MC p + cnt MN p ≤ cnt (mtd Z k) p := cnt_dis (fun t _ hx => by
      obtain ⟨i, hi, e, _⟩ := (hMC t).mp hx
      exact mtd_iff.mpr ⟨i, hi, e⟩) (fun t _ hx => by
      obtain ⟨i, hi, e, _⟩ := (hMN t).mp hx
      exact mtd_iff.mpr ⟨i, hi, e⟩) (fun t ht hx hy => by
      obtain ⟨i, hi, e, h1⟩ := (hMC t).mp hx
      obtain ⟨j, hj, e', h2⟩ := (hMN t).mp hy
      have := k2' i j t hi hj ht e e'
      subst this; exact h2 h1)
    omega
end
