/-! THE LAW'S MOST HIRES: a recursion over sets of positions. -/
/-- a turn of the positions: value of each, which may be taken, the most there can be -/
def lmL (f : Nat → Nat) (e : Nat → Bool) (cap : Nat) : Nat → Nat → Nat
  | 0, b => b
  | j + 1, b => if e j = true ∧ lmL f e cap j b < cap then max (lmL f e cap j b) (1 + f j) else lmL f e cap j b
def lmE (B : Bd) (q V j : Nat) : Bool := V.testBit j && ftB B j q
def lm (B : Bd) (k p : Nat) : Nat → Nat → Nat
  | 0, _ => 0
  | u + 1, V => if vqB B k (p - (u + 1)) = true then lmL (fun j => lm B k p u (clN j V)) (lmE B (p - (u + 1)) V) (u + 1) k (lm B k p u V) else lm B k p u V
/-- what may be filled of the last u posts with a set of positions -/
def MU (B : Bd) (k p u V : Nat) (T : Nat → Bool) : Prop := (∀ t, T t = true → p - u ≤ t ∧ t < p) ∧ ∃ f : Nat → Nat, (∀ t, T t = true → f t < k ∧ V.testBit (f t) = true ∧ ftB B (f t) t = true ∧ vqB B k t = true) ∧ ∀ t w, T t = true → T w = true → f t = f w → t = w
theorem lmL_ge (f : Nat → Nat) (e : Nat → Bool) (cap b : Nat) : ∀ j, b ≤ lmL f e cap j b := by
  intro j
  induction j with
  | zero => exact Nat.le_refl _
  | succ j ih =>
    rw [lmL]
    split
    · exact Nat.le_trans ih (Nat.le_max_left _ _)
    · exact ih
theorem lmL_mono (f : Nat → Nat) (e : Nat → Bool) (cap b : Nat) : ∀ j t, j ≤ t → lmL f e cap j b ≤ lmL f e cap t b := by
  intro j t
  induction t with
  | zero => intro h; have : j = 0 := by omega
            subst this; exact Nat.le_refl _
  | succ t ih =>
    intro h
    by_cases e1 : j = t + 1
    · subst e1; exact Nat.le_refl _
    · refine Nat.le_trans (ih (by omega)) ?_
      rw [lmL]
      split
      · exact Nat.le_max_left _ _
      · exact Nat.le_refl _
theorem lmL_ex (f : Nat → Nat) (e : Nat → Bool) (cap b : Nat) : ∀ j, lmL f e cap j b = b ∨ ∃ i, i < j ∧ e i = true ∧ lmL f e cap j b = 1 + f i := by
  intro j
  induction j with
  | zero => exact Or.inl rfl
  | succ j ih =>
    rw [lmL]
    split
    · rename_i h
      rcases Nat.le_total (1 + f j) (lmL f e cap j b) with h1 | h1
      · rw [Nat.max_eq_left h1]
        rcases ih with a | ⟨i, a1, a2, a3⟩
        · exact Or.inl a
        · exact Or.inr ⟨i, by omega, a2, a3⟩
      · rw [Nat.max_eq_right h1]
        exact Or.inr ⟨j, by omega, h.1, rfl⟩
    · rcases ih with a | ⟨i, a1, a2, a3⟩
      · exact Or.inl a
      · exact Or.inr ⟨i, by omega, a2, a3⟩
theorem lmL_up (f : Nat → Nat) (e : Nat → Bool) (cap b : Nat) {i j : Nat} (hi : i < j) (he : e i = true) : cap ≤ lmL f e cap j b ∨ 1 + f i ≤ lmL f e cap j b := by
  have h1 := lmL_mono f e cap b (i + 1) j (by omega)
  by_cases h : lmL f e cap i b < cap
  · right
    refine Nat.le_trans ?_ h1
    rw [lmL, if_pos ⟨he, h⟩]
    exact Nat.le_max_right _ _
  · left
    have h2 := lmL_mono f e cap b i j (by omega)
    omega
theorem cnt_set {T : Nat → Bool} {q : Nat} : ∀ {n : Nat}, q < n → T q = true → cnt T n = 1 + cnt (fun t => T t && !decide (t = q)) n := by
  intro n
  induction n with
  | zero => intro h _; omega
  | succ n ih =>
    intro h hT
    show cnt T n + _ = 1 + (cnt _ n + _)
    by_cases e : q = n
    · subst e
      have : cnt (fun t => T t && !decide (t = q)) q = cnt T q := cnt_cg fun t ht => by
        have : t ≠ q := by omega
        simp [this]
      rw [this, hT]; simp; omega
    · rw [ih (by omega) hT]
      have : n ≠ q := fun h => e h.symm
      simp [this]; omega
theorem cnt_lim {T : Nat → Bool} {a : Nat} : ∀ {n : Nat}, (∀ t, T t = true → a ≤ t) → a ≤ n → cnt T n ≤ n - a := by
  intro n
  induction n with
  | zero => intro _ _; exact Nat.zero_le _
  | succ n ih =>
    intro h ha
    show cnt T n + _ ≤ _
    by_cases e : a = n + 1
    · subst e
      have h0 : cnt T (n + 1) = 0 := cnt_0 fun i hi => by
        cases ht : T i with
        | false => rfl
        | true => have := h i ht; omega
      have h1 : cnt T (n + 1) = cnt T n + (if T n = true then 1 else 0) := rfl
      omega
    · have := ih h (by omega)
      split <;> omega
theorem clN_tb {V j i : Nat} (hi : i < 10) : (clN j V).testBit i = (V.testBit i && !decide (j = i)) := bt_clb V j i hi
section
variable {B : Bd} {k p : Nat}
theorem lm_le : ∀ u V, lm B k p u V ≤ u := by
  intro u
  induction u with
  | zero => intro V; exact Nat.le_refl _
  | succ u ih =>
    intro V
    rw [lm]
    have h0 := ih V
    split
    · rcases lmL_ex (fun j => lm B k p u (clN j V)) (lmE B (p - (u + 1)) V) (u + 1) (lm B k p u V) k with h | ⟨i, _, _, h⟩
      · rw [h]; omega
      · rw [h]; have := ih (clN i V); omega
    · omega
/-- the law's most is the size of what may be filled -/
theorem lm_is (hk : k ≤ 10) : ∀ u, u ≤ p → ∀ V, (∃ T, MU B k p u V T ∧ cnt T p = lm B k p u V) ∧ ∀ T, MU B k p u V T → cnt T p ≤ lm B k p u V := by
  intro u
  induction u with
  | zero =>
    intro _ V
    constructor
    · refine ⟨fun _ => false, ⟨fun t h => (by cases h), fun _ => 0, fun t h => (by cases h), fun t w h => (by cases h)⟩, ?_⟩
      exact cnt_0 fun _ _ => rfl
    · intro T hT
      rw [cnt_0 (p := T) fun i hi => ?_]
      · exact Nat.zero_le _
      · cases ht : T i with
        | false => rfl
        | true => have := hT.1 i ht; omega
  | succ u ih =>
    intro hu V
    obtain ⟨q, hq⟩ : ∃ q, q = p - (u + 1) := ⟨_, rfl⟩
    have hqp : q < p := by omega
    have up : ∀ T, MU B k p u V T → MU B k p (u + 1) V T := fun T h => ⟨fun t ht => by have := h.1 t ht; omega, h.2⟩
    have key : ∀ T, MU B k p (u + 1) V T → (T q = false → MU B k p u V T) ∧ (T q = true → ∃ j, j < k ∧ lmE B q V j = true ∧ vqB B k q = true ∧ MU B k p u (clN j V) (fun t => T t && !decide (t = q))) := by
      intro T hT
      obtain ⟨h1, f, h2, h3⟩ := hT
      constructor
      · intro h0
        refine ⟨fun t ht => ?_, f, h2, h3⟩
        have := h1 t ht
        have : t ≠ q := fun e => by rw [e, h0] at ht; cases ht
        omega
      · intro h0
        obtain ⟨a1, a2, a3, a4⟩ := h2 q h0
        refine ⟨f q, a1, by unfold lmE; rw [a2, a3]; rfl, a4, fun t ht => ?_, f, fun t ht => ?_, fun t w ht hw e => ?_⟩
        · simp only [Bool.and_eq_true, Bool.not_eq_true', decide_eq_false_iff_not] at ht
          have := h1 t ht.1
          have := ht.2
          omega
        · simp only [Bool.and_eq_true, Bool.not_eq_true', decide_eq_false_iff_not] at ht
          obtain ⟨c1, c2, c3, c4⟩ := h2 t ht.1
          refine ⟨c1, ?_, c3, c4⟩
          rw [clN_tb (by omega), c2]
          have : f q ≠ f t := fun e => ht.2 (h3 q t h0 ht.1 e).symm
          simp [this]
        · simp only [Bool.and_eq_true, Bool.not_eq_true', decide_eq_false_iff_not] at ht hw
          exact h3 t w ht.1 hw.1 e
    have ext : ∀ j T, j < k → lmE B q V j = true → vqB B k q = true → MU B k p u (clN j V) T → MU B k p (u + 1) V (fun t => T t || decide (t = q)) ∧ cnt (fun t => T t || decide (t = q)) p = 1 + cnt T p := by
      intro j T hj he hv hT
      obtain ⟨h1, f, h2, h3⟩ := hT
      have hTq : T q = false := by
        cases ht : T q with
        | false => rfl
        | true => have := h1 q ht; omega
      unfold lmE at he
      rw [Bool.and_eq_true] at he
      constructor
      · refine ⟨fun t ht => ?_, fun t => if t = q then j else f t, fun t ht => ?_, fun t w ht hw e => ?_⟩
        · by_cases e : t = q
          · omega
          · simp [e] at ht; have := h1 t ht; omega
        · by_cases e : t = q
          · subst e; simp only [if_true]; exact ⟨hj, he.1, he.2, hv⟩
          · simp [e] at ht
            simp only [e, if_false]
            obtain ⟨c1, c2, c3, c4⟩ := h2 t ht
            rw [clN_tb (by omega), Bool.and_eq_true] at c2
            exact ⟨c1, c2.1, c3, c4⟩
        · have nj : ∀ t, T t = true → f t ≠ j := by
            intro t ht e
            obtain ⟨c1, c2, _⟩ := h2 t ht
            rw [clN_tb (by omega), e] at c2
            simp at c2
          by_cases e1 : t = q <;> by_cases e2 : w = q
          · rw [e1, e2]
          · simp only [e1, e2, if_true, if_false] at e
            simp [e2] at hw
            exact absurd e.symm (nj w hw)
          · simp only [e1, e2, if_true, if_false] at e
            simp [e1] at ht
            exact absurd e (nj t ht)
          · simp only [e1, e2, if_false] at e
            simp [e1] at ht
            simp [e2] at hw
            exact h3 t w ht hw e
      · rw [cnt_set hqp (by simp)]
        congr 1
        refine cnt_cg fun t _ => ?_
        by_cases e : t = q
        · subst e; rw [hTq]; simp
        · simp [e]
    rw [lm, ← hq]
    obtain ⟨⟨T0, b1, b2⟩, b3⟩ := ih (by omega) V
    cases hv : vqB B k q with
    | false =>
      rw [if_neg (by decide)]
      refine ⟨⟨T0, up T0 b1, b2⟩, fun T hT => ?_⟩
      cases h0 : T q with
      | false => exact b3 T ((key T hT).1 h0)
      | true => obtain ⟨j, _, _, h9, _⟩ := (key T hT).2 h0; rw [hv] at h9; cases h9
    | true =>
      rw [if_pos rfl]
      constructor
      · rcases lmL_ex (fun j => lm B k p u (clN j V)) (lmE B q V) (u + 1) (lm B k p u V) k with h | ⟨i, h1, h2, h⟩
        · rw [h]; exact ⟨T0, up T0 b1, b2⟩
        · rw [h]
          obtain ⟨⟨T, c1, c2⟩, _⟩ := ih (by omega) (clN i V)
          obtain ⟨d1, d2⟩ := ext i T h1 h2 hv c1
          exact ⟨_, d1, by rw [d2, c2]⟩
      · intro T hT
        cases h0 : T q with
        | false => exact Nat.le_trans (b3 T ((key T hT).1 h0)) (lmL_ge _ _ _ _ _)
        | true =>
          obtain ⟨j, j1, j2, _, j3⟩ := (key T hT).2 h0
          have e1 := cnt_set (T := T) hqp h0
          have e2 := (ih (by omega) (clN j V)).2 _ j3
          rcases lmL_up (fun j => lm B k p u (clN j V)) (lmE B q V) (u + 1) (lm B k p u V) j1 j2 with h | h
          · refine Nat.le_trans ?_ h
            have := cnt_lim (T := T) (n := p) (fun t ht => (hT.1 t ht).1) (by omega)
            omega
          · refine Nat.le_trans ?_ h
            rw [e1]; omega
end
theorem pcn_mk {T : Nat → Bool} {p : Nat} (hp : p ≤ 10) : pcn (mkT T p) = cnt T p := by
  have h : ∀ n, p ≤ n → cnt (fun j => (mkT T p).testBit j) n = cnt T p := by
    intro n hn
    have e : cnt (fun j => (mkT T p).testBit j) n = cnt (fun j => decide (j < p) && T j) n := cnt_cg fun j _ => mkT_b T p j
    rw [e]; exact cnt_below hn
  exact h 10 hp
/-- it is what the class says, by both ways -/
theorem lm_mx {B : Bd} {s : Nat → Int32} {k p : Nat} {g : Nat → Nat} (h : CP B s k p g) : mxM (mcA s p F0m 10) 64 = nI (lm B k p p (mkT (waB B) k)) := by
  have hp := CP_p h
  have hk := CP_k h
  have h64 : ∀ T : Nat → Bool, mkT T p < 64 := fun T => Nat.lt_of_lt_of_le (mkT_lt T p) (Nat.pow_le_pow_right (by decide) hp : 2 ^ p ≤ 2 ^ 6)
  have tm : ∀ j, j < 64 → (nz (mcA s p F0m 10) j ↔ MT (eB B k) k p j.testBit) := fun j hj => ((tab_eq h B hj).symm.trans (fsA_TB h B k (Nat.le_refl _) j hj)).trans (TB_MT hp k j hj)
  have um : ∀ T : Nat → Bool, MU B k p p (mkT (waB B) k) T ↔ MT (eB B k) k p T := by
    intro T
    constructor
    · rintro ⟨h1, f, h2, h3⟩
      refine ⟨fun t ht => (h1 t ht).2, f, fun t ht => ?_, h3⟩
      obtain ⟨a1, a2, a3, a4⟩ := h2 t ht
      rw [mkT_b, Bool.and_eq_true] at a2
      refine ⟨a1, ?_⟩
      unfold eB
      rw [a2.2, a3]
      exact a4
    · rintro ⟨h1, f, h2, h3⟩
      refine ⟨fun t ht => ⟨by omega, h1 t ht⟩, f, fun t ht => ?_, h3⟩
      obtain ⟨a1, a2⟩ := h2 t ht
      unfold eB at a2
      rw [Bool.and_eq_true, Bool.and_eq_true] at a2
      refine ⟨a1, ?_, a2.2.1, a2.2.2⟩
      rw [mkT_b, a2.1, decide_eq_true a1]; rfl
  obtain ⟨⟨T, c1, c2⟩, c3⟩ := lm_is (B := B) hk p (Nat.le_refl _) (mkT (waB B) k)
  have hbit : ∀ T : Nat → Bool, (∀ t, T t = true → t < p) → (mkT T p).testBit = T := by
    intro T hT
    funext t
    rw [mkT_b]
    cases ht : T t with
    | false => simp
    | true => rw [decide_eq_true (hT t ht)]; rfl
  refine mx_c (h64 T) ((tm _ (h64 T)).mpr ?_) ((pcn_mk (by omega)).trans c2) fun j hj hx => ?_
  · rw [hbit T fun t ht => (c1.1 t ht).2]
    exact (um T).mp c1
  · have hm := (tm j hj).mp hx
    have h1 := c3 _ ((um _).mpr hm)
    have e : pcn j = cnt j.testBit p := by
      unfold pcn
      have e2 : cnt (fun i => j.testBit i) 10 = cnt (fun i => decide (i < p) && j.testBit i) 10 := cnt_cg fun i _ => by
        cases ht : j.testBit i with
        | false => simp
        | true => rw [decide_eq_true (hm.1 i ht)]; rfl
      rw [e2]; exact cnt_below (by omega)
    rw [e]; exact h1
