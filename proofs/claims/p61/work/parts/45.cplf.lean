/-! CLASS AND MODEL TOGETHER, part 15: which sets of posts can be filled, by tables. -/
theorem and_nn (V W : Nat) : nI V &&& nI W = nI (V &&& W) := by
  apply Int32.toBitVec_inj.mp
  rw [Int32.toBitVec_and, tbv, tbv, tbv]
  apply BitVec.eq_of_getLsbD_eq
  intro i hi
  rw [BitVec.getLsbD_and, BitVec.getLsbD_ofNat, BitVec.getLsbD_ofNat, BitVec.getLsbD_ofNat, Nat.testBit_and]
  simp [hi]
theorem bt_an : ∀ X, X < 1024 → ∀ u, u < 10 → (nI X &&& one u == 0) = !(X.testBit u) := by decide +kernel
theorem bt_sr : ∀ X, X < 64 → ∀ u, u < 6 → (((nI X >>> (nI u &&& 31)) &&& 1) == 1) = X.testBit u := fun X hX u hu => bt_shr X (by omega) u (by omega)
theorem clrn_N {s q : Nat} (hs : s < 64) (hq : q < 6) : clrn s q = clN q s := by
  unfold clrn
  rw [bt_cl s (by omega) q (by omega), nI_clamp (by have := bt_cll (j := q) (show s < 1024 by omega); omega)]
theorem clN_le (q V : Nat) : clN q V ≤ V := Nat.and_le_left
theorem clN_ne {q V : Nat} (hq : q < 10) (h : V.testBit q = true) : clN q V ≠ V := by
  intro e
  have := bt_clb V q q hq
  rw [e, h] at this; simp at this
/-- true in a table -/
def nz (F : Nat → Int32) (j : Nat) : Prop := ¬ vp_nar .boolean (F j) = 0
theorem nz_1 {F : Nat → Int32} {j : Nat} (h : F j = 1) : nz F j := by unfold nz; rw [h]; exact not1
theorem nz_c {F F' : Nat → Int32} {j : Nat} (h : F j = F' j) : nz F j ↔ nz F' j := by unfold nz; rw [h]
def TB (e : Nat → Nat → Bool) (p : Nat) : Nat → Nat → Prop
  | 0, j => j = 0
  | n + 1, j => TB e p n j ∨ ∃ u, u < p ∧ j.testBit u = true ∧ e n u = true ∧ TB e p n (clN u j)
def eB (B : Bd) (k i u : Nat) : Bool := waB B i && (ftB B i u && vcB B k u)
def eM (s : Nat → Int32) (p a u : Nat) : Bool := wM s p a && (ftM s a u && (po s u 4 == 0))
section
variable {B : Bd} {s : Nat → Int32} {k p : Nat} {g : Nat → Nat}
theorem fsc_iff (h : CP B s k p g) {i j u : Nat} {F : Nat → Int32} (hj : j < 64) (hu : u < p) : fsc B i (vac B p k) j F u = true ↔ j.testBit u = true ∧ vcB B k u = true ∧ nz F (clN u j) ∧ ftB B i u = true := by
  have hp := CP_p h
  obtain ⟨V, h1, h2, h3⟩ := vac_v h
  unfold fsc nz
  rw [h2, and_nn, bt_an _ (Nat.lt_of_le_of_lt Nat.and_le_right h1) u (by omega), Nat.testBit_and, h3 u hu, clrn_N hj (by omega)]
  simp only [Bool.and_eq_true, Bool.not_not, Bool.not_eq_true', beq_eq_false_iff_ne, ne_eq]
  exact ⟨fun ⟨⟨a, b⟩, c, d⟩ => ⟨a, b, c, d⟩, fun ⟨a, b, c, d⟩ => ⟨⟨a, b⟩, c, d⟩⟩
theorem fsq_z (h : CP B s k p g) {i j : Nat} {F : Nat → Int32} (hj : j < 64) : ∀ q, q ≤ p → (∀ l, l ≠ j → fsq B i (vac B p k) j F q l = F l) ∧ (nz (fsq B i (vac B p k) j F q) j ↔ nz F j ∨ ∃ u, u < q ∧ fsc B i (vac B p k) j F u = true) := by
  have hp := CP_p h
  intro q
  induction q with
  | zero => intro _; exact ⟨fun _ _ => rfl, fun h => Or.inl h, fun h => h.resolve_right fun ⟨u, hu, _⟩ => by omega⟩
  | succ q ih =>
    intro hq
    obtain ⟨i1, i2⟩ := ih (by omega)
    have hc : fsc B i (vac B p k) j (fsq B i (vac B p k) j F q) q = true ↔ fsc B i (vac B p k) j F q = true := by
      rw [fsc_iff h hj (by omega), fsc_iff h hj (by omega)]
      constructor
      · rintro ⟨a, b, c, d⟩
        exact ⟨a, b, (nz_c (i1 _ (clN_ne (by omega) a))).mp c, d⟩
      · rintro ⟨a, b, c, d⟩
        exact ⟨a, b, (nz_c (i1 _ (clN_ne (by omega) a))).mpr c, d⟩
    rw [fsq]
    by_cases e : fsc B i (vac B p k) j (fsq B i (vac B p k) j F q) q = true
    · rw [if_pos e]
      refine ⟨fun l hl => ?_, fun _ => Or.inr ⟨q, by omega, hc.mp e⟩, fun _ => nz_1 (if_pos rfl)⟩
      show (if l = j then (1 : Int32) else fsq B i (vac B p k) j F q l) = F l
      rw [if_neg hl, i1 l hl]
    · rw [if_neg e]
      refine ⟨i1, fun hx => ?_, fun hx => i2.mpr ?_⟩
      · rcases i2.mp hx with h1 | ⟨u, hu, h1⟩
        · exact Or.inl h1
        · exact Or.inr ⟨u, by omega, h1⟩
      · rcases hx with h1 | ⟨u, hu, h1⟩
        · exact Or.inl h1
        · refine Or.inr ⟨u, ?_, h1⟩
          by_cases huq : u = q
          · subst huq; exact absurd (hc.mpr h1) e
          · omega
theorem fso_z (h : CP B s k p g) {i : Nat} : ∀ n, n < 64 → ∀ F : Nat → Int32, (∀ l, n < l → fso B i p (vac B p k) n F l = F l) ∧ ∀ j, j ≤ n → (nz (fso B i p (vac B p k) n F) j ↔ nz F j ∨ ∃ u, u < p ∧ fsc B i (vac B p k) j F u = true) := by
  intro n
  induction n with
  | zero =>
    intro _ F
    refine ⟨fun _ _ => rfl, fun j hj => ⟨fun hx => Or.inl hx, fun hx => hx.resolve_right fun ⟨u, hu, h1⟩ => ?_⟩⟩
    have : j = 0 := by omega
    subst this
    have := ((fsc_iff h (by omega) hu).mp h1).1
    rw [Nat.zero_testBit] at this; cases this
  | succ n ih =>
    intro hn F
    obtain ⟨i1, i2⟩ := ih (by omega) (fsq B i (vac B p k) (n + 1) F p)
    obtain ⟨f1, f2⟩ := fsq_z h (i := i) (F := F) hn p (Nat.le_refl p)
    rw [fso]
    refine ⟨fun l hl => by rw [i1 l (by omega), f1 l (by omega)], fun j hj => ?_⟩
    by_cases e : j = n + 1
    · subst e
      rw [nz_c (i1 (n + 1) (by omega)), f2]
    · rw [i2 j (by omega), nz_c (f1 j e)]
      have : ∀ u, u < p → (fsc B i (vac B p k) j (fsq B i (vac B p k) (n + 1) F p) u = true ↔ fsc B i (vac B p k) j F u = true) := by
        intro u hu
        rw [fsc_iff h (by omega) hu, fsc_iff h (by omega) hu, nz_c (f1 (clN u j) (by have := clN_le u j; omega))]
      constructor
      · rintro (h1 | ⟨u, hu, h1⟩)
        · exact Or.inl h1
        · exact Or.inr ⟨u, hu, (this u hu).mp h1⟩
      · rintro (h1 | ⟨u, hu, h1⟩)
        · exact Or.inl h1
        · exact Or.inr ⟨u, hu, (this u hu).mpr h1⟩
theorem fsA_TB (h : CP B s k p g) (X : Bd) : ∀ i, i ≤ k → ∀ j, j < 64 → (nz (fsA B p (vac B p k) (F0s X) i) j ↔ TB (eB B k) p i j) := by
  intro i
  induction i with
  | zero =>
    intro _ j hj
    show nz (F0s X) j ↔ j = 0
    unfold F0s
    by_cases e : j = 0
    · subst e; exact ⟨fun _ => rfl, fun _ => nz_1 rfl⟩
    · refine ⟨fun hx => ?_, fun hx => absurd hx e⟩
      exfalso; apply hx
      show vp_nar .boolean (if j = 0 then (1 : Int32) else mix (fun _ => 0) (X 7) 64 j) = 0
      rw [if_neg e]
      unfold mix
      rw [if_pos hj]; exact vB_0
  | succ i ih =>
    intro hi j hj
    have i1 := ih (by omega)
    rw [fsA, TB]
    by_cases hw : waB B i = true
    · rw [if_pos hw]
      obtain ⟨_, f2⟩ := fso_z h (i := i) 63 (by omega) (fsA B p (vac B p k) (F0s X) i)
      rw [f2 j (by omega), i1 j hj]
      have : (∃ u, u < p ∧ fsc B i (vac B p k) j (fsA B p (vac B p k) (F0s X) i) u = true) ↔ ∃ u, u < p ∧ j.testBit u = true ∧ eB B k i u = true ∧ TB (eB B k) p i (clN u j) := by
        constructor
        · rintro ⟨u, hu, h1⟩
          obtain ⟨a, b, c, d⟩ := (fsc_iff h hj hu).mp h1
          exact ⟨u, hu, a, by unfold eB; rw [hw, b, d]; rfl, (i1 _ (by have := clN_le u j; omega)).mp c⟩
        · rintro ⟨u, hu, a, b, c⟩
          unfold eB at b
          simp only [Bool.and_eq_true] at b
          exact ⟨u, hu, (fsc_iff h hj hu).mpr ⟨a, b.2.2, (i1 _ (by have := clN_le u j; omega)).mpr c, b.2.1⟩⟩
      rw [this]
    · rw [if_neg hw, i1 j hj]
      refine ⟨fun hx => Or.inl hx, fun hx => hx.resolve_right fun ⟨u, hu, a, b, c⟩ => hw ?_⟩
      unfold eB at b
      simp only [Bool.and_eq_true] at b
      exact b.1
theorem mcc_iff {a j u : Nat} (hj : j < 64) (hu : u < 6) : mcc s a j u = true ↔ j.testBit u = true ∧ po s u 4 = 0 ∧ ftM s a u = true := by
  unfold mcc
  rw [bt_sr j hj u hu]
  simp only [Bool.and_eq_true, beq_iff_eq]
theorem mcq_z {a j : Nat} {F : Nat → Int32} (hj : j < 64) : ∀ q, q ≤ 6 → (∀ l, l ≠ j → mcq s a j F q l = F l) ∧ (nz (mcq s a j F q) j ↔ nz F j ∨ ∃ u, u < q ∧ mcc s a j u = true ∧ nz F (clN u j)) := by
  intro q
  induction q with
  | zero => intro _; exact ⟨fun _ _ => rfl, fun h => Or.inl h, fun h => h.resolve_right fun ⟨u, hu, _⟩ => by omega⟩
  | succ q ih =>
    intro hq
    obtain ⟨i1, i2⟩ := ih (by omega)
    rw [mcq]
    by_cases e : vp_nar .boolean (mcq s a j F q j) = 0
    · rw [if_pos e]
      have hno : ¬ (nz F j ∨ ∃ u, u < q ∧ mcc s a j u = true ∧ nz F (clN u j)) := fun hx => (i2.mpr hx) e
      have hb : ∀ b : Bool, (nz (fun l => if l = j then bI b else mcq s a j F q l) j ↔ b = true) := by
        intro b
        unfold nz
        show ¬ vp_nar .boolean (if j = j then bI b else mcq s a j F q j) = 0 ↔ _
        rw [if_pos rfl]
        cases b
        · exact ⟨fun hx => absurd rfl hx, fun hx => (by cases hx)⟩
        · exact ⟨fun _ => rfl, fun _ => not1⟩
      refine ⟨fun l hl => ?_, ?_⟩
      · show (if l = j then bI _ else mcq s a j F q l) = F l
        rw [if_neg hl, i1 l hl]
      · rw [hb, Bool.and_eq_true, clrn_N hj (by omega)]
        have hm : mcc s a j q = true → (nz (mcq s a j F q) (clN q j) ↔ nz F (clN q j)) := fun hx => nz_c (i1 _ (clN_ne (by omega) ((mcc_iff hj (by omega)).mp hx).1))
        constructor
        · rintro ⟨h1, h2⟩
          refine Or.inr ⟨q, by omega, h1, (hm h1).mp ?_⟩
          unfold nz; simpa using h2
        · rintro (h1 | ⟨u, hu, h1, h2⟩)
          · exact absurd (Or.inl h1) hno
          · by_cases huq : u = q
            · subst huq
              refine ⟨h1, ?_⟩
              have := (hm h1).mpr h2
              unfold nz at this; simpa using this
            · exact absurd (Or.inr ⟨u, by omega, h1, h2⟩) hno
    · rw [if_neg e]
      have hy := i2.mp e
      refine ⟨i1, fun _ => ?_, fun _ => e⟩
      rcases hy with h1 | ⟨u, hu, h1⟩
      · exact Or.inl h1
      · exact Or.inr ⟨u, by omega, h1⟩
theorem mcs_z (hp : p ≤ 6) {a : Nat} : ∀ n, n ≤ 64 → ∀ F : Nat → Int32, (∀ l, n ≤ l → mcs s p a n F l = F l) ∧ ∀ j, j < n → (nz (mcs s p a n F) j ↔ nz F j ∨ ∃ u, u < p ∧ mcc s a j u = true ∧ nz F (clN u j)) := by
  intro n
  induction n with
  | zero => intro _ F; exact ⟨fun _ _ => rfl, fun j hj => by omega⟩
  | succ n ih =>
    intro hn F
    obtain ⟨i1, i2⟩ := ih (by omega) (mcq s a n F p)
    obtain ⟨f1, f2⟩ := mcq_z (s := s) (a := a) (j := n) (F := F) (by omega) p hp
    rw [mcs]
    refine ⟨fun l hl => by rw [i1 l (by omega), f1 l (by omega)], fun j hj => ?_⟩
    by_cases e : j = n
    · subst e
      rw [nz_c (i1 j (by omega)), f2]
    · rw [i2 j (by omega), nz_c (f1 j e)]
      have : ∀ u, (nz (mcq s a n F p) (clN u j) ↔ nz F (clN u j)) := fun u => nz_c (f1 (clN u j) (by have := clN_le u j; omega))
      constructor
      · rintro (h1 | ⟨u, hu, h1, h2⟩)
        · exact Or.inl h1
        · exact Or.inr ⟨u, hu, h1, (this u).mp h2⟩
      · rintro (h1 | ⟨u, hu, h1, h2⟩)
        · exact Or.inl h1
        · exact Or.inr ⟨u, hu, h1, (this u).mpr h2⟩
theorem mcA_TB (hp : p ≤ 6) : ∀ a j, j < 64 → (nz (mcA s p F0m a) j ↔ TB (eM s p) p a j) := by
  intro a
  induction a with
  | zero =>
    intro j hj
    show nz F0m j ↔ j = 0
    unfold F0m
    by_cases e : j = 0
    · subst e; exact ⟨fun _ => rfl, fun _ => nz_1 rfl⟩
    · refine ⟨fun hx => ?_, fun hx => absurd hx e⟩
      exfalso; apply hx
      show vp_nar .boolean (if j = 0 then (1 : Int32) else 0) = 0
      rw [if_neg e]; rfl
  | succ a ih =>
    intro j hj
    rw [mcA, TB]
    by_cases hw : wM s p a = true
    · rw [if_pos hw]
      obtain ⟨_, f2⟩ := mcs_z (s := s) (a := a) hp 64 (by omega) (mcA s p F0m a)
      rw [f2 j hj, ih j hj]
      have : (∃ u, u < p ∧ mcc s a j u = true ∧ nz (mcA s p F0m a) (clN u j)) ↔ ∃ u, u < p ∧ j.testBit u = true ∧ eM s p a u = true ∧ TB (eM s p) p a (clN u j) := by
        constructor
        · rintro ⟨u, hu, h1, h2⟩
          obtain ⟨a1, b, c⟩ := (mcc_iff hj (by omega)).mp h1
          exact ⟨u, hu, a1, by unfold eM; rw [hw, b, c]; rfl, (ih _ (by have := clN_le u j; omega)).mp h2⟩
        · rintro ⟨u, hu, a1, b, c⟩
          unfold eM at b
          simp only [Bool.and_eq_true, beq_iff_eq] at b
          exact ⟨u, hu, (mcc_iff hj (by omega)).mpr ⟨a1, b.2.2, b.2.1⟩, (ih _ (by have := clN_le u j; omega)).mpr c⟩
      rw [this]
    · rw [if_neg hw, ih j hj]
      refine ⟨fun hx => Or.inl hx, fun hx => hx.resolve_right fun ⟨u, hu, a1, b, c⟩ => hw ?_⟩
      unfold eM at b
      simp only [Bool.and_eq_true] at b
      exact b.1
/-- a set of posts can be filled -/
def MT (e : Nat → Nat → Bool) (n p : Nat) (S : Nat → Bool) : Prop := (∀ t, S t = true → t < p) ∧ ∃ f : Nat → Nat, (∀ t, S t = true → f t < n ∧ e (f t) t = true) ∧ ∀ t u, S t = true → S u = true → f t = f u → t = u
theorem TB_MT {e : Nat → Nat → Bool} (hp : p ≤ 6) : ∀ n j, j < 64 → (TB e p n j ↔ MT e n p j.testBit) := by
  intro n
  induction n with
  | zero =>
    intro j hj
    constructor
    · intro h
      have h0 : j = 0 := h
      subst h0
      refine ⟨fun t ht => ?_, fun _ => 0, fun t ht => ?_, fun t _ ht => ?_⟩
      · rw [Nat.zero_testBit] at ht; cases ht
      · rw [Nat.zero_testBit] at ht; cases ht
      · rw [Nat.zero_testBit] at ht; cases ht
    · rintro ⟨_, f, h1, _⟩
      show j = 0
      apply Nat.eq_of_testBit_eq
      intro t
      rw [Nat.zero_testBit]
      cases e : j.testBit t with
      | false => rfl
      | true => have := (h1 t e).1; omega
  | succ n ih =>
    intro j hj
    rw [TB, ih j hj]
    constructor
    · rintro (⟨h0, f, h1, h2⟩ | ⟨u, hu, a, b, c⟩)
      · exact ⟨h0, f, fun t ht => ⟨by have := (h1 t ht).1; omega, (h1 t ht).2⟩, h2⟩
      · obtain ⟨c0, f, c1, c2⟩ := (ih _ (by have := clN_le u j; omega)).mp c
        have cb : ∀ t, t < 10 → t ≠ u → j.testBit t = true → (clN u j).testBit t = true := fun t ht hne h1 => by
          rw [bt_clb j u t ht, h1, decide_eq_false (fun hx => hne hx.symm)]; rfl
        have t10 : ∀ t, j.testBit t = true → t < 10 := fun t ht => by
          refine Classical.byContradiction fun hn => ?_
          rw [Nat.testBit_lt_two_pow (Nat.lt_of_lt_of_le hj (show 64 ≤ 2 ^ t from Nat.le_trans (by decide) (Nat.pow_le_pow_right (n := 2) (by decide) (show 10 ≤ t by omega))))] at ht
          cases ht
        refine ⟨fun t ht => ?_, fun t => if t = u then n else f t, fun t ht => ?_, fun t t' ht ht' => ?_⟩
        · by_cases e1 : t = u
          · rw [e1]; exact hu
          · exact c0 t (cb t (t10 t ht) e1 ht)
        · by_cases e1 : t = u
          · subst e1; simp only [if_pos]; exact ⟨by omega, b⟩
          · simp only [if_neg e1]
            have := c1 t (cb t (t10 t ht) e1 ht)
            exact ⟨by omega, this.2⟩
        · by_cases e1 : t = u <;> by_cases e2 : t' = u
          · intro _; rw [e1, e2]
          · simp only [if_pos e1, if_neg e2]
            intro hx
            have := (c1 t' (cb t' (t10 t' ht') e2 ht')).1; omega
          · simp only [if_neg e1, if_pos e2]
            intro hx
            have := (c1 t (cb t (t10 t ht) e1 ht)).1; omega
          · simp only [if_neg e1, if_neg e2]
            exact c2 t t' (cb t (t10 t ht) e1 ht) (cb t' (t10 t' ht') e2 ht')
    · rintro ⟨h0, f, h1, h2⟩
      by_cases hex : ∃ u, j.testBit u = true ∧ f u = n
      · obtain ⟨u, hu, hf⟩ := hex
        right
        refine ⟨u, h0 u hu, hu, by have := (h1 u hu).2; rw [hf] at this; exact this, (ih _ (by have := clN_le u j; omega)).mpr ⟨fun t ht => ?_, f, fun t ht => ?_, fun t t' ht ht' => ?_⟩⟩
        all_goals
          have sub : ∀ t, (clN u j).testBit t = true → j.testBit t = true := fun t ht => by
            unfold clN at ht; rw [Nat.testBit_and, Bool.and_eq_true] at ht; exact ht.1
        · exact h0 t (sub t ht)
        · have h3 := h1 t (sub t ht)
          refine ⟨?_, h3.2⟩
          have : f t ≠ n := fun hx => by
            have := h2 t u (sub t ht) hu (by rw [hx, hf])
            subst this
            rw [bt_clb j t t (by have := h0 t hu; omega), hu] at ht
            simp at ht
          omega
        · exact h2 t t' (sub t ht) (sub t' ht')
      · left
        refine ⟨h0, f, fun t ht => ⟨?_, (h1 t ht).2⟩, h2⟩
        have := (h1 t ht).1
        have : f t ≠ n := fun hx => hex ⟨t, ht, hx⟩
        omega
theorem eM_B (h : CP B s k p g) {i u : Nat} (hi : i < k) (hu : u < p) : eM s p (g i) u = eB B k i u := by
  unfold eM eB vcB
  rw [Q_w h hi, Q_ft h hi hu, Q_fl h hu]
theorem MT_iff (h : CP B s k p g) (S : Nat → Bool) : MT (eB B k) k p S ↔ MT (eM s p) 10 p S := by
  constructor
  · rintro ⟨h0, f, h1, h2⟩
    refine ⟨h0, fun t => g (f t), fun t ht => ⟨IJ_lt (CP_g h) (h1 t ht).1, ?_⟩, fun t u ht hu hx => h2 t u ht hu (IJ_in (CP_g h) (h1 t ht).1 (h1 u hu).1 hx)⟩
    rw [eM_B h (h1 t ht).1 (h0 t ht)]; exact (h1 t ht).2
  · rintro ⟨h0, f, h1, h2⟩
    have key : ∀ t, S t = true → ∃ i, fst (fun i => g i == f t) k = some i ∧ i < k ∧ g i = f t := by
      intro t ht
      obtain ⟨a, b⟩ := h1 t ht
      unfold eM at b
      rw [Bool.and_eq_true] at b
      obtain ⟨i, hi, e⟩ := Q_wi h a b.1
      obtain ⟨i', e'⟩ := fst_ex (p := fun i => g i == f t) (n := k) ⟨i, hi, by simp [e]⟩
      have := fst_some e'
      exact ⟨i', e', this.1, by have := this.2.1; simpa using this⟩
    refine ⟨h0, fun t => (fst (fun i => g i == f t) k).getD 0, fun t ht => ?_, fun t u ht hu => ?_⟩
    · obtain ⟨i, e1, e2, e3⟩ := key t ht
      simp only [e1, Option.getD_some]
      refine ⟨e2, ?_⟩
      rw [← eM_B h e2 (h0 t ht), e3]; exact (h1 t ht).2
    · obtain ⟨i, e1, e2, e3⟩ := key t ht
      obtain ⟨j, d1, d2, d3⟩ := key u hu
      simp only [e1, d1, Option.getD_some]
      intro hx
      refine h2 t u ht hu ?_
      rw [← e3, ← d3, hx]
theorem tab_eq (h : CP B s k p g) (X : Bd) {j : Nat} (hj : j < 64) : nz (fsA B p (vac B p k) (F0s X) k) j ↔ nz (mcA s p F0m 10) j := by
  have hp := CP_p h
  rw [fsA_TB h X k (Nat.le_refl k) j hj, mcA_TB hp 10 j hj, TB_MT hp k j hj, TB_MT hp 10 j hj, MT_iff h]
theorem mx_eq {F F' : Nat → Int32} : ∀ n, n ≤ 64 → (∀ j, j < n → (nz F j ↔ nz F' j)) → mxS F n = mxM F' n := by
  intro n
  induction n with
  | zero => intro _ _; rfl
  | succ n ih =>
    intro hn h
    have h1 := h n (by omega)
    rw [mxS, mxM, ih (by omega) (fun j hj => h j (by omega)), bt_bcI n (by omega), bt_btI n (by omega)]
    unfold nz at h1
    by_cases e : vp_nar .boolean (F n) = 0
    · rw [if_pos e, if_pos (Classical.byContradiction fun hx => (h1.mpr hx) e)]
    · rw [if_neg e, if_neg (h1.mp e)]
theorem O_ms (h : CP B s k p g) (X : Bd) : mxS (fsA B p (vac B p k) (F0s X) k) 64 = mxM (mcA s p F0m 10) 64 := mx_eq 64 (Nat.le_refl _) fun _ hj => tab_eq h X hj
/-- the greatest number -/
theorem mx_is {F : Nat → Int32} : ∀ n, n ≤ 64 → ∃ d, d ≤ 10 ∧ (d = 0 ∨ ∃ j, j < n ∧ nz F j ∧ pcn j = d) ∧ mxM F n = nI d ∧ ∀ j, j < n → nz F j → pcn j ≤ d := by
  intro n
  induction n with
  | zero => intro _; exact ⟨0, by omega, Or.inl rfl, rfl, fun j hj => by omega⟩
  | succ n ih =>
    intro hn
    obtain ⟨d, h1, h2, h3, h4⟩ := ih (by omega)
    have pl := pcn_le n
    have h2' : d = 0 ∨ ∃ j, j < n + 1 ∧ nz F j ∧ pcn j = d := h2.imp id fun ⟨j, a, b⟩ => ⟨j, by omega, b⟩
    rw [mxM, h3, bt_btI n (by omega)]
    by_cases e : vp_nar .boolean (F n) = 0
    · rw [if_pos e]
      refine ⟨d, h1, h2', rfl, fun j hj hx => ?_⟩
      by_cases hjn : j = n
      · subst hjn; exact absurd e hx
      · exact h4 j (by omega) hx
    · rw [if_neg e]
      by_cases hl : d < pcn n
      · rw [if_pos (by rw [nI_ltI (by omega) (by omega)]; exact hl)]
        refine ⟨pcn n, pl, Or.inr ⟨n, by omega, e, rfl⟩, rfl, fun j hj hx => ?_⟩
        by_cases hjn : j = n
        · subst hjn; exact Nat.le_refl _
        · have := h4 j (by omega) hx; omega
      · rw [if_neg (by rw [nI_ltI (by omega) (by omega)]; exact hl)]
        refine ⟨d, h1, h2', rfl, fun j hj hx => ?_⟩
        by_cases hjn : j = n
        · subst hjn; omega
        · exact h4 j (by omega) hx
theorem mx_c {F : Nat → Int32} {c j : Nat} (hj : j < 64) (h1 : nz F j) (h2 : pcn j = c) (h3 : ∀ j, j < 64 → nz F j → pcn j ≤ c) : mxM F 64 = nI c := by
  obtain ⟨d, d1, d2, d3, d4⟩ := mx_is (F := F) 64 (Nat.le_refl _)
  have := d4 j hj h1
  have : d = c := by
    rcases d2 with h0 | ⟨l, l1, l2, l3⟩
    · omega
    · have := h3 l l1 l2; omega
  rw [d3, this]
end
