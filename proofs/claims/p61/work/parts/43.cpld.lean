/-! CLASS AND MODEL TOGETHER, part 13: the stable matching of the class. -/
theorem tbv (x : Nat) : (nI x).toBitVec = BitVec.ofNat 32 x := rfl
theorem and_not {V : Nat} (W : Nat) (hV : V < 1024) : nI V &&& (nI W ^^^ (-1)) = nI (V &&& (1023 ^^^ W)) := by
  apply Int32.toBitVec_inj.mp
  rw [Int32.toBitVec_and, Int32.toBitVec_xor, tbv, tbv, tbv, show (-1 : Int32).toBitVec = BitVec.allOnes 32 from by decide]
  apply BitVec.eq_of_getLsbD_eq
  intro i hi
  rw [BitVec.getLsbD_and, BitVec.getLsbD_xor, BitVec.getLsbD_ofNat, BitVec.getLsbD_ofNat, BitVec.getLsbD_ofNat, BitVec.getLsbD_allOnes, Nat.testBit_and, Nat.testBit_xor]
  by_cases h : i < 10
  · rw [bt_1023 i h]
    simp only [hi, decide_true, Bool.true_and]
    cases W.testBit i <;> rfl
  · have : V.testBit i = false := Nat.testBit_lt_two_pow (Nat.lt_of_lt_of_le hV (show 1024 ≤ 2 ^ i from by
      have := Nat.pow_le_pow_right (n := 2) (by decide) (show 10 ≤ i by omega)
      exact this))
    rw [this]; simp
theorem opn_b {V W q : Nat} (hV : V < 1024) (hq : q < 10) : bitq (nI V &&& (nI W ^^^ (-1))) q = (V.testBit q && !(W.testBit q)) := by
  unfold bitq
  rw [and_not W hV, bt_ush _ (Nat.lt_of_le_of_lt Nat.and_le_left hV) q hq, Nat.testBit_and, Nat.testBit_xor, bt_1023 q hq]
  cases W.testBit q <;> simp
theorem smN_le {f : Nat → Nat} {c : Nat} : ∀ {n : Nat}, (∀ i, i < n → f i ≤ c) → smN f n ≤ c * n := by
  intro n
  induction n with
  | zero => intro _; exact Nat.le_refl _
  | succ n ih =>
    intro h
    have h1 := ih (fun i hi => h i (by omega))
    have h2 := h n (by omega)
    rw [smN, Nat.mul_succ]; omega
theorem smN_lt {f : Nat → Nat} {c j : Nat} : ∀ {n : Nat}, j < n → f j < c → (∀ i, i < n → f i ≤ c) → smN f n < c * n := by
  intro n
  induction n with
  | zero => intro h; omega
  | succ n ih =>
    intro hj hf h
    have h2 := h n (by omega)
    rw [smN, Nat.mul_succ]
    by_cases e : j = n
    · subst e
      have h1 := smN_le (n := j) (fun i hi => h i (by omega))
      omega
    · have h1 := ih (by omega) hf (fun i hi => h i (by omega))
      omega
theorem smN_up {f f' : Nat → Nat} {j : Nat} : ∀ {n : Nat}, j < n → f' j = f j + 1 → (∀ i, i < n → i ≠ j → f' i = f i) → smN f' n = smN f n + 1 := by
  intro n
  induction n with
  | zero => intro h; omega
  | succ n ih =>
    intro hj h1 h2
    rw [smN, smN]
    by_cases e : j = n
    · subst e
      rw [smN_cg (f := f') (f' := f) (fun i hi => h2 i (by omega) (by omega)), h1]; omega
    · rw [ih (by omega) h1 (fun i hi => h2 i (by omega)), h2 n (by omega) (fun hx => e hx.symm)]; omega
def PrX (X : Bd) (i q : Nat) : Bool := (nt (X 4 i)).testBit q
def nPr (X : Bd) (k : Nat) : Nat := smN (fun i => cnt (PrX X i) 6) k
def vcB (B : Bd) (k q : Nat) : Bool := (fh B k (nI q)).isNone
/-- the state of the proposals -/
def GI (B X : Bd) (k p : Nat) : Prop := (∀ i, i < k → ∃ W, W < 1024 ∧ X 4 i = nI W) ∧ HV X k ∧ (∀ i q, i < k → q < 10 → PrX X i q = true → q < p ∧ vcB B k q = true ∧ waB B i = true ∧ ftB B i q = true ∧ ∃ j, j < k ∧ X 3 q = nI j ∧ (j = i ∨ orB B j i = true)) ∧ (∀ i q, i < k → q < 6 → X 3 q = nI i → PrX X i q = true) ∧ (∀ i q t, i < k → q < 6 → t < 6 → X 3 q = nI i → X 3 t = nI i → q = t) ∧ ∀ i q t, i < k → q < p → PrX X i q = true → t < p → vcB B k t = true → ftB B i t = true → poB B t q = true → PrX X i t = true
section
variable {B : Bd} {s : Nat → Int32} {k p : Nat} {g : Nat → Nat}
theorem GI_0 (h : CP B s k p g) (X : Bd) : GI B (X0g X) k p := by
  have hk := CP_k h
  have e4 : ∀ i, i < k → X0g X 4 i = nI 0 := by
    intro i hi; unfold X0g; rw [us_eq]; exact if_pos (by omega)
  have e3 : ∀ q, q < 6 → X0g X 3 q = -1 := by
    intro q hq; unfold X0g; rw [us_ne (by omega), us_eq]; exact if_pos hq
  have hp : ∀ i q, i < k → PrX (X0g X) i q = false := by
    intro i q hi; unfold PrX; rw [e4 i hi, nt_nI (by omega), Nat.zero_testBit]
  refine ⟨fun i hi => ⟨0, by omega, e4 i hi⟩, HV_0 X k, fun i q hi _ h1 => ?_, fun i q hi hq h1 => ?_, fun i q t hi hq _ h1 => ?_, fun i q t hi _ h1 => ?_⟩
  · rw [hp i q hi] at h1; cases h1
  · rw [e3 q hq] at h1; exact absurd h1.symm (nI_nm1 (by omega))
  · rw [e3 q hq] at h1; exact absurd h1.symm (nI_nm1 (by omega))
  · rw [hp i q hi] at h1; cases h1
theorem vac_v (h : CP B s k p g) : ∃ V, V < 1024 ∧ vac B p k = nI V ∧ ∀ q, q < p → V.testBit q = vcB B k q := by
  obtain ⟨V, h1, h2, h3⟩ := vac_b h k (Nat.le_refl k)
  have hp := CP_p h
  refine ⟨V, h1, h2, fun q hq => ?_⟩
  rw [h3 q (by omega), decide_eq_true hq, Bool.true_and]; rfl
theorem ch_b (h : CP B s k p g) {X : Bd} (hG : GI B X k p) {i q : Nat} (hi : i < k) (hq : q < p) : bitq (opn X i (vac B p k)) q = (vcB B k q && !(PrX X i q)) := by
  have hp := CP_p h
  obtain ⟨V, h1, h2, h3⟩ := vac_v h
  obtain ⟨W, w1, w2⟩ := hG.1 i hi
  unfold opn PrX
  rw [h2, w2, opn_b h1 (by omega), h3 q hq, nt_nI (by omega)]
theorem isH_f {X : Bd} {i : Nat} (h : isH X i = false) : ∀ q, q < 6 → ¬ X 3 q = nI i := by
  intro q hq hx
  unfold isH at h
  cases e : fst (fun q => X 3 q == nI i) 6 with
  | none => have := fst_none e q hq; rw [hx] at this; simp at this
  | some t => rw [e] at h; cases h
theorem isH_t {X : Bd} {i : Nat} (h : isH X i = true) : ∃ q, q < 6 ∧ X 3 q = nI i := by
  unfold isH at h
  cases e : fst (fun q => X 3 q == nI i) 6 with
  | none => rw [e] at h; cases h
  | some t => have := fst_some e; exact ⟨t, this.1, by have := this.2.1; simpa using this⟩
/-- who proposes, and to which post -/
theorem nx_s (h : CP B s k p g) {X : Bd} (hG : GI B X k p) {i : Nat} (hn : nxB B X k p (vac B p k) = some i) : ∃ q, chB B X p (vac B p k) i = some q ∧ i < k ∧ q < p ∧ waB B i = true ∧ isH X i = false ∧ vcB B k q = true ∧ PrX X i q = false ∧ ftB B i q = true ∧ ∀ t, t < p → vcB B k t = true → PrX X i t = false → ftB B i t = true → t ≠ q → poB B q t = true := by
  have hs := fst_some hn
  have h1 := hs.2.1
  unfold nxP at h1
  simp only [Bool.and_eq_true, Bool.not_eq_true'] at h1
  obtain ⟨hw, hH, hc⟩ := h1
  obtain ⟨q, e⟩ := Option.isSome_iff_exists.mp hc
  have hb := best_is (po_SO h _) q e
  have h2 := hb.2.1
  simp only [Bool.and_eq_true] at h2
  rw [ch_b h hG hs.1 hb.1] at h2
  simp only [Bool.and_eq_true, Bool.not_eq_true'] at h2
  refine ⟨q, e, hs.1, hb.1, hw, hH, h2.1.1, h2.1.2, h2.2, fun t ht v1 v2 v3 hne => hb.2.2 t ht ?_ hne⟩
  simp only [Bool.and_eq_true]
  rw [ch_b h hG hs.1 ht]
  simp only [Bool.and_eq_true, Bool.not_eq_true']
  exact ⟨⟨v1, v2⟩, v3⟩
theorem nx_n (h : CP B s k p g) {X : Bd} (hG : GI B X k p) (hn : nxB B X k p (vac B p k) = none) {i q : Nat} (hi : i < k) (hw : waB B i = true) (hH : isH X i = false) (hq : q < p) (hv : vcB B k q = true) (hf : ftB B i q = true) : PrX X i q = true := by
  have h1 := fst_none hn i hi
  unfold nxP at h1
  rw [hw, hH] at h1
  cases e : chB B X p (vac B p k) i with
  | some t => rw [e] at h1; cases h1
  | none =>
    have h2 := best_none e q hq
    have h3 : (bitq (opn X i (vac B p k)) q && ftB B i q) = false := h2
    rw [ch_b h hG hi hq, hv, hf] at h3
    simpa using h3
theorem pro_3 {X : Bd} {i q t : Nat} : proB B X i q 3 t = if t = q ∧ prq B X i q = true then nI i else X 3 t := by
  unfold proB
  by_cases hc : prq B X i q = true
  · rw [if_pos hc, ud_i]
    by_cases e : t = q
    · rw [if_pos e, if_pos ⟨e, hc⟩]
    · rw [if_neg e, if_neg (fun hx => e hx.1), ud_nc (by omega)]
  · rw [if_neg hc, if_neg (fun hx => hc hx.2), ud_nc (by omega)]
theorem pro_4 {X : Bd} {i q j : Nat} : proB B X i q 4 j = if j = i then X 4 i ||| one q else X 4 j := by
  unfold proB
  by_cases hc : prq B X i q = true
  · rw [if_pos hc, ud_nc (by omega), ud_i]
  · rw [if_neg hc, ud_i]
theorem pro_P {X : Bd} (hG : GI B X k p) {i q : Nat} (hi : i < k) (hq : q < 6) {j t : Nat} (hj : j < k) : PrX (proB B X i q) j t = (PrX X j t || (decide (j = i) && decide (q = t))) := by
  unfold PrX
  rw [pro_4]
  by_cases e : j = i
  · subst e
    obtain ⟨W, w1, w2⟩ := hG.1 j hi
    rw [if_pos rfl, w2, bt_or W w1 q (by omega), nt_nI (by have := bt_orl w1 (show q < 10 by omega); omega), nt_nI (by omega), bt_orb, decide_eq_true rfl, Bool.true_and]
  · rw [if_neg e, decide_eq_false e, Bool.false_and, Bool.or_false]
theorem GI_s (h : CP B s k p g) {X : Bd} (hG : GI B X k p) {i q : Nat} (hn : nxB B X k p (vac B p k) = some i) (hc : chB B X p (vac B p k) i = some q) : GI B (proB B X i q) k p ∧ nPr (proB B X i q) k = nPr X k + 1 := by
  obtain ⟨q', e', hi, hq, hw, hH, hv, hP, hf, hB⟩ := nx_s h hG hn
  rw [hc] at e'; cases e'
  have hp := CP_p h
  have hk := CP_k h
  have hHf := isH_f hH
  have oso := or_SO h (fun _ => true)
  have pso := po_SO h (fun _ => true)
  obtain ⟨g1, g2, g3, g4, g5, g6⟩ := hG
  have hG' : GI B X k p := ⟨g1, g2, g3, g4, g5, g6⟩
  have pq : ∀ j, j < k → X 3 q = nI j → prq B X i q = orB B i j := by
    intro j hj hx
    unfold prq
    rw [hx, nI_clamp (by omega), beq_eq_false_iff_ne.mpr (nI_nm1 (by omega)), Bool.false_or]
  refine ⟨⟨fun j hj => ?_, HV_pro g2 hi, fun j t hj ht hx => ?_, fun j t hj ht hx => ?_, fun j t u hj ht hu h1 h2 => ?_, fun j t u hj ht h1 hu h2 h3 h4 => ?_⟩, ?_⟩
  · rw [pro_4]
    by_cases e : j = i
    · subst e
      obtain ⟨W, w1, w2⟩ := g1 j hi
      rw [if_pos rfl, w2, bt_or W w1 q (by omega)]
      exact ⟨_, bt_orl w1 (by omega), rfl⟩
    · rw [if_neg e]; exact g1 j hj
  · rw [pro_P hG' hi (by omega) hj, Bool.or_eq_true, Bool.and_eq_true, decide_eq_true_eq, decide_eq_true_eq] at hx
    rw [pro_3]
    by_cases e : j = i ∧ q = t
    · obtain ⟨rfl, rfl⟩ := e
      refine ⟨hq, hv, hw, hf, ?_⟩
      by_cases hpr : prq B X j q = true
      · rw [if_pos ⟨rfl, hpr⟩]; exact ⟨j, hi, rfl, Or.inl rfl⟩
      · rw [if_neg (fun hx => hpr hx.2)]
        rcases g2 q (by omega) with h0 | ⟨l, hl, h0⟩
        · exfalso; apply hpr; unfold prq; rw [h0]; rfl
        · refine ⟨l, hl, h0, Or.inr ?_⟩
          rw [pq l hl h0] at hpr
          have hne : j ≠ l := fun hx => hHf q (by omega) (by rw [hx]; exact h0)
          rcases oso.1 j l hi hl rfl rfl hne with h1 | h1
          · exact absurd h1 hpr
          · exact h1
    · have hx' : PrX X j t = true := hx.resolve_right e
      obtain ⟨a1, a2, a3, a4, l, hl, a5, a6⟩ := g3 j t hj ht hx'
      refine ⟨a1, a2, a3, a4, ?_⟩
      by_cases hc2 : t = q ∧ prq B X i q = true
      · rw [if_pos hc2]
        obtain ⟨rfl, hpr⟩ := hc2
        rw [pq l hl a5] at hpr
        refine ⟨i, hi, rfl, Or.inr ?_⟩
        rcases a6 with rfl | a6
        · exact hpr
        · exact oso.2.2 i l j hi hl hj hpr a6
      · rw [if_neg hc2]; exact ⟨l, hl, a5, a6⟩
  · rw [pro_P hG' hi (by omega) hj, Bool.or_eq_true, Bool.and_eq_true, decide_eq_true_eq, decide_eq_true_eq]
    rw [pro_3] at hx
    by_cases hc2 : t = q ∧ prq B X i q = true
    · rw [if_pos hc2] at hx
      right; exact ⟨(nI_inj (by omega) (by omega) hx).symm, hc2.1.symm⟩
    · rw [if_neg hc2] at hx
      left; exact g4 j t hj ht hx
  · rw [pro_3] at h1 h2
    by_cases c1 : t = q ∧ prq B X i q = true <;> by_cases c2 : u = q ∧ prq B X i q = true
    · rw [c1.1, c2.1]
    · rw [if_pos c1] at h1; rw [if_neg c2] at h2
      have := nI_inj (by omega) (by omega) h1; subst this
      exact absurd h2 (hHf u hu)
    · rw [if_neg c1] at h1; rw [if_pos c2] at h2
      have := nI_inj (by omega) (by omega) h2; subst this
      exact absurd h1 (hHf t ht)
    · rw [if_neg c1] at h1; rw [if_neg c2] at h2
      exact g5 j t u hj ht hu h1 h2
  · rw [pro_P hG' hi (by omega) hj, Bool.or_eq_true, Bool.and_eq_true, decide_eq_true_eq, decide_eq_true_eq] at h1 ⊢
    by_cases e : PrX X j t = true
    · left; exact g6 j t u hj ht e hu h2 h3 h4
    · obtain ⟨rfl, rfl⟩ := h1.resolve_left e
      left
      cases e2 : PrX X j u with
      | true => rfl
      | false =>
        have hne : u ≠ q := fun hx => by
          subst hx
          have := pso.2.1 u u hu hu h4; rw [h4] at this; cases this
        have := pso.2.1 u q hu hq h4
        rw [hB u hu h2 e2 h3 hne] at this; cases this
  · unfold nPr
    refine smN_up hi ?_ fun j hj hne => cnt_cg fun t _ => by
      rw [pro_P hG' hi (by omega) hj, decide_eq_false hne, Bool.false_and, Bool.or_false]
    show cnt (PrX (proB B X i q) i) 6 = cnt (PrX X i) 6 + 1
    refine cnt_upd (q := q) (by omega) ?_ hP fun t ht => ?_
    · rw [pro_P hG' hi (by omega) hi]; simp
    · rw [pro_P hG' hi (by omega) hi, decide_eq_false (show ¬ q = t from fun hx => ht hx.symm), Bool.and_false, Bool.or_false]
theorem GI_e (h : CP B s k p g) : ∀ (t : Nat) (X : Bd), GI B X k p → 60 ≤ t + nPr X k → GI B (gsB B k p (vac B p k) t X) k p ∧ nxB B (gsB B k p (vac B p k) t X) k p (vac B p k) = none := by
  have hk := CP_k h
  intro t
  induction t with
  | zero =>
    intro X hG h60
    refine ⟨hG, ?_⟩
    show nxB B X k p (vac B p k) = none
    cases e : nxB B X k p (vac B p k) with
    | none => rfl
    | some i =>
      exfalso
      obtain ⟨q, _, hi, hq, _, _, _, hP, _⟩ := nx_s h hG e
      have hp := CP_p h
      have l : cnt (PrX X i) 6 < 6 := by
        have := cnt_lt_of (P := PrX X i) (P' := fun _ => true) (c := q) (n := 6) (by omega) hP rfl (fun _ _ _ => rfl)
        exact this
      have := smN_lt (f := fun i => cnt (PrX X i) 6) (c := 6) hi l (fun j _ => cnt_le _ 6)
      unfold nPr at h60
      omega
  | succ t ih =>
    intro X hG h60
    rw [gsB]
    cases e : nxB B X k p (vac B p k) with
    | none => exact ⟨hG, e⟩
    | some i =>
      obtain ⟨q, e2, _⟩ := nx_s h hG e
      show GI B (match chB B X p (vac B p k) i with
        | none => X
        | some q => gsB B k p (vac B p k) t (proB B X i q)) k p ∧ nxB B (match chB B X p (vac B p k) i with
        | none => X
        | some q => gsB B k p (vac B p k) t (proB B X i q)) k p (vac B p k) = none
      rw [e2]
      obtain ⟨i1, i2⟩ := GI_s h hG e e2
      exact ih _ i1 (by omega)
/-- a stable matching -/
def ST (B X : Bd) (k p : Nat) : Prop := HV X k ∧ (∀ i q, i < k → q < 6 → X 3 q = nI i → q < p ∧ vcB B k q = true ∧ waB B i = true ∧ ftB B i q = true) ∧ (∀ i q t, i < k → q < 6 → t < 6 → X 3 q = nI i → X 3 t = nI i → q = t) ∧ ∀ i q, i < k → q < p → waB B i = true → vcB B k q = true → ftB B i q = true → (∃ t, t < p ∧ X 3 t = nI i ∧ (t = q ∨ poB B t q = true)) ∨ ∃ j, j < k ∧ X 3 q = nI j ∧ orB B j i = true
theorem ST_gs (h : CP B s k p g) (X : Bd) : ST B (gsB B k p (vac B p k) 60 (X0g X)) k p := by
  obtain ⟨hG, hn⟩ := GI_e h 60 (X0g X) (GI_0 h X) (by omega)
  generalize gsB B k p (vac B p k) 60 (X0g X) = Y at hG hn
  have hp := CP_p h
  have hG' := hG
  obtain ⟨g1, g2, g3, g4, g5, g6⟩ := hG
  have pso := po_SO h (fun _ => true)
  refine ⟨g2, fun i q hi hq hx => ?_, g5, fun i q hi hq hw hv hf => ?_⟩
  · obtain ⟨a1, a2, a3, a4, _⟩ := g3 i q hi (by omega) (g4 i q hi hq hx)
    exact ⟨a1, a2, a3, a4⟩
  · by_cases hP : PrX Y i q = true
    · obtain ⟨_, _, _, _, j, hj, a5, a6⟩ := g3 i q hi (by omega) hP
      rcases a6 with rfl | a6
      · left; exact ⟨q, hq, a5, Or.inl rfl⟩
      · right; exact ⟨j, hj, a5, a6⟩
    · left
      have hH : isH Y i = true := by
        cases e : isH Y i with
        | true => rfl
        | false => exact absurd (nx_n h hG' hn hi hw e hq hv hf) hP
      obtain ⟨t, ht, hx⟩ := isH_t hH
      have hPt := g4 i t hi ht hx
      obtain ⟨b1, b2, b3, b4, _⟩ := g3 i t hi (by omega) hPt
      refine ⟨t, b1, hx, Or.inr ?_⟩
      have hne : t ≠ q := fun e => hP (by rw [← e]; exact hPt)
      rcases pso.1 t q b1 hq rfl rfl hne with h1 | h1
      · exact h1
      · exact absurd (g6 i t q hi b1 hPt hq hv hf h1) hP
end
