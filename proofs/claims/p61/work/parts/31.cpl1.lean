/-! CLASS AND MODEL TOGETHER, part 1: the relation and what the questions ask. -/
def nt (v : Int32) : Nat := v.toNatClampNeg
theorem nt_nI {x : Nat} (h : x < 2 ^ 31) : nt (nI x) = x := nI_clamp h
def isSh (v : Int32) : Prop := v = 99 ∨ v = 115 ∨ v = 110
/-- a board of the class as it may be: applicants -/
def CA (B : Bd) (k : Nat) : Prop := (∃ nid, nid < 2000000000 ∧ B 1 1 = nI nid ∧ ∀ i, i < k → ∃ x, x < nid ∧ B 2 i = nI x) ∧ (∀ i j, i < j → j < k → nt (B 2 i) < nt (B 2 j)) ∧ ∀ i, i < k → isSh (B 3 i) ∧ (∃ w, w ≤ 100 ∧ B 4 i = nI w) ∧ (∃ w, w ≤ 50 ∧ B 5 i = nI w) ∧ ∃ V, V < 1024 ∧ B 8 i = nI V ∧ ∀ j, k ≤ j → V.testBit j = false
/-- posts -/
def CQ (B : Bd) (p : Nat) : Prop := ∀ q, q < p → (B 10 q = 42 ∨ isSh (B 10 q)) ∧ (∃ w, w ≤ 100 ∧ B 11 q = nI w) ∧ (∃ w, w ≤ 50 ∧ B 12 q = nI w) ∧ ∃ w, w ≤ 99 ∧ B 13 q = nI w
/-- who is hired -/
def CH (B : Bd) (k : Nat) : Prop := (∀ i j, i < k → j < k → ¬ B 7 i = -1 → B 7 i = B 7 j → i = j) ∧ ∀ i, i < k → ¬ B 7 i = -1 → ftB B i (nt (B 7 i)) = true
def CW (B : Bd) (k p : Nat) : Prop := WB B k p ∧ CA B k ∧ CQ B p ∧ CH B k
def noS (g : Nat → Nat) (k a : Nat) : Prop := ∀ i, i < k → g i ≠ a
/-- the numbers of a slot -/
def CSl (B : Bd) (s : Nat → Int32) (k : Nat) (g : Nat → Nat) (i : Nat) : Prop := sl s (g i) 0 = B 2 i + 1 ∧ sl s (g i) 1 = B 3 i ∧ sl s (g i) 2 = B 4 i ∧ sl s (g i) 3 = B 5 i ∧ sl s (g i) 4 = B 6 i ∧ ∃ W, W < 1024 ∧ sl s (g i) 5 = nI W ∧ (∀ j, j < k → W.testBit (g j) = (nt (B 8 i)).testBit j) ∧ ∀ a, a < 10 → noS g k a → W.testBit a = false
def flB2 (B : Bd) (k : Nat) (g : Nat → Nat) (q : Nat) : Int32 := match fh B k (nI q) with
  | none => 0
  | some i => nI (g i + 1)
def CPo (B : Bd) (s : Nat → Int32) (k : Nat) (g : Nat → Nat) (q : Nat) : Prop := po s q 0 = B 10 q ∧ po s q 1 = B 11 q ∧ po s q 2 = B 12 q ∧ po s q 3 = B 13 q ∧ po s q 4 = flB2 B k g q
def CP (B : Bd) (s : Nat → Int32) (k p : Nat) (g : Nat → Nat) : Prop := CW B k p ∧ IJ g k 10 ∧ (s 0 = B 1 1 ∧ s 1 = B 0 2 ∧ s 2 = nI p) ∧ (∀ i, i < k → CSl B s k g i) ∧ (∀ a, a < 10 → noS g k a → ∀ w, w < 6 → sl s a w = 0) ∧ ∀ q, q < p → CPo B s k g q
section
variable {B : Bd} {s : Nat → Int32} {k p : Nat} {g : Nat → Nat}
theorem CP_k (h : CP B s k p g) : k ≤ 10 := h.1.1.2.1
theorem CP_p (h : CP B s k p g) : p ≤ 6 := h.1.1.2.2.2.1
theorem CP_g (h : CP B s k p g) : IJ g k 10 := h.2.1
theorem CP_sl (h : CP B s k p g) {i : Nat} (hi : i < k) : CSl B s k g i := h.2.2.2.1 i hi
theorem CP_no (h : CP B s k p g) {a : Nat} (ha : a < 10) (hn : noS g k a) {w : Nat} (hw : w < 6) : sl s a w = 0 := h.2.2.2.2.1 a ha hn w hw
theorem CP_po (h : CP B s k p g) {q : Nat} (hq : q < p) : CPo B s k g q := h.2.2.2.2.2 q hq
theorem CP_id (h : CP B s k p g) {i : Nat} (hi : i < k) : ∃ x, x < 2000000000 ∧ B 2 i = nI x := by
  obtain ⟨nid, h1, _, h3⟩ := h.1.2.1.1
  obtain ⟨x, hx, e⟩ := h3 i hi
  exact ⟨x, by omega, e⟩
theorem CP_as (h : CP B s k p g) {i j : Nat} (hi : i < k) (hj : j < k) : nt (B 2 i) < nt (B 2 j) ↔ i < j := by
  have asc := h.1.2.1.2.1
  refine ⟨fun hh => ?_, fun hh => asc i j hh hj⟩
  refine Classical.byContradiction fun hn => ?_
  by_cases e : i = j
  · subst e; omega
  · have := asc j i (by omega) hi; omega
theorem CP_sh (h : CP B s k p g) {i : Nat} (hi : i < k) : isSh (B 3 i) := (h.1.2.1.2.2 i hi).1
theorem CP_wh (h : CP B s k p g) {i : Nat} (hi : i < k) : ∃ w, w ≤ 100 ∧ B 4 i = nI w := (h.1.2.1.2.2 i hi).2.1
theorem CP_ra (h : CP B s k p g) {i : Nat} (hi : i < k) : ∃ w, w ≤ 50 ∧ B 5 i = nI w := (h.1.2.1.2.2 i hi).2.2.1
theorem CP_gv (h : CP B s k p g) {i : Nat} (hi : i < k) : ∃ V, V < 1024 ∧ B 8 i = nI V ∧ ∀ j, k ≤ j → V.testBit j = false := (h.1.2.1.2.2 i hi).2.2.2
theorem CP_pv (h : CP B s k p g) : PV B k p := h.1.1.2.2.2.2
theorem noS_or (g : Nat → Nat) (k a : Nat) : (∃ i, i < k ∧ g i = a) ∨ noS g k a := by
  by_cases h : ∃ i, i < k ∧ g i = a
  · exact Or.inl h
  · exact Or.inr fun i hi e => h ⟨i, hi, e⟩
theorem nI_inj {x y : Nat} (hx : x < 2 ^ 31) (hy : y < 2 ^ 31) (h : nI x = nI y) : x = y := by
  have := congrArg nt h
  rwa [nt_nI hx, nt_nI hy] at this
theorem nI_s1 (x : Nat) : nI x + 1 = nI (x + 1) := nI_add x 1
/-- used slots -/
theorem Q_u (h : CP B s k p g) {i : Nat} (hi : i < k) : uM s (g i) = true := by
  obtain ⟨x, hx, e⟩ := CP_id h hi
  unfold uM
  rw [(CP_sl h hi).1, e, nI_s1, show (0 : Int32) = nI 0 from rfl, decide_eq_false (by rw [nI_leI (by omega) (by omega)]; omega)]; rfl
theorem Q_un (h : CP B s k p g) {a : Nat} (ha : a < 10) (hn : noS g k a) : uM s a = false := by
  unfold uM
  rw [CP_no h ha hn (by omega : 0 < 6)]; rfl
theorem Q_in (h : CP B s k p g) {a : Nat} (ha : a < 10) (hu : uM s a = true) : ∃ i, i < k ∧ g i = a := by
  rcases noS_or g k a with h1 | h1
  · exact h1
  · rw [Q_un h ha h1] at hu; cases hu
theorem Q_id (h : CP B s k p g) {i : Nat} (hi : i < k) : idM s (g i) = B 2 i := by
  unfold idM
  rw [(CP_sl h hi).1, Int32.add_sub_cancel]
theorem Q_so (h : CP B s k p g) (x : Int32) : soM s x = (fx B k x).map g := by
  unfold soM
  have hz : ∀ a, a < 10 → soP s x a = true → ∃ i, i < k ∧ g i = a ∧ B 2 i = x := by
    intro a ha h1
    unfold soP at h1
    simp only [Bool.and_eq_true, Bool.not_eq_true', decide_eq_false_iff_not, beq_iff_eq] at h1
    rcases noS_or g k a with ⟨i, hi, e⟩ | hn
    · refine ⟨i, hi, e, ?_⟩
      have := h1.2
      rw [← e, (CP_sl h hi).1] at this
      have h2 := congrArg (fun v => v - 1) this
      simp only [Int32.add_sub_cancel] at h2; exact h2
    · have := h1.2
      rw [CP_no h ha hn (by omega : 0 < 6)] at this
      exfalso
      have hx : x = -1 := by
        have h2 : x + 1 - 1 = 0 - 1 := by rw [← this]
        rw [Int32.add_sub_cancel] at h2; exact h2
      exact h1.1 (by rw [hx]; decide)
  have uq : ∀ i j, i < k → j < k → B 2 i = x → B 2 j = x → i = j := by
    intro i j hi hj e1 e2
    refine Classical.byContradiction fun hn => ?_
    by_cases hl : i < j
    · have := (CP_as h hi hj).mpr hl; rw [e1, e2] at this; omega
    · have := (CP_as h hj hi).mpr (by omega); rw [e1, e2] at this; omega
  cases e : fx B k x with
  | none =>
    have hn := fst_none e
    refine las_none fun a ha => ?_
    cases e1 : soP s x a with
    | false => rfl
    | true =>
      obtain ⟨i, hi, _, e3⟩ := hz a ha e1
      have := hn i hi
      rw [e3] at this; simp at this
  | some i =>
    have hi := fst_some e
    have e2 : B 2 i = x := by have := hi.2.1; simpa using this
    obtain ⟨y, hy, e3⟩ := CP_id h hi.1
    refine las_some (IJ_lt (CP_g h) hi.1) ?_ fun a ha h1 => ?_
    · unfold soP
      rw [(CP_sl h hi.1).1, e2, ← e2, e3, decide_eq_false (nI_pos (by omega))]; simp
    · obtain ⟨j, hj, e4, e5⟩ := hz a ha h1
      rw [← e4, uq j i hj hi.1 e5 e2]
theorem fh_some {q i : Nat} (h : CP B s k p g) (hq : q < 6) (hi : i < k) (e : B 7 i = nI q) : fh B k (nI q) = some i := by
  unfold fh
  refine fst_u hi (by simp [e]) fun j hj h1 => ?_
  have e1 : B 7 j = nI q := by simpa using h1
  exact h.1.2.2.2.1 j i hj hi (by rw [e1]; exact nI_nm1 (by omega)) (by rw [e1, e])
theorem Q_fw (h : CP B s k p g) {i : Nat} (hi : i < k) : fwM s p (g i) = if waB B i = true then none else some (nt (B 7 i)) := by
  unfold fwM
  have hp := CP_p h
  have hgi := IJ_lt (CP_g h) hi
  have key : ∀ q, q < p → (po s q 4 == nI (g i + 1)) = true → B 7 i = nI q := by
    intro q hq h1
    have h2 : po s q 4 = nI (g i + 1) := by simpa using h1
    rw [(CP_po h hq).2.2.2.2] at h2
    unfold flB2 at h2
    cases e : fh B k (nI q) with
    | none =>
      rw [e] at h2
      have h3 : nI 0 = nI (g i + 1) := h2
      have := nI_inj (by omega) (by omega) h3; omega
    | some j =>
      rw [e] at h2
      have hj := fst_some e
      have hgj := IJ_lt (CP_g h) hj.1
      have h3 : nI (g j + 1) = nI (g i + 1) := h2
      have := nI_inj (by omega) (by omega) h3
      have := IJ_in (CP_g h) hj.1 hi (by omega)
      subst this
      simpa using hj.2.1
  by_cases hw : waB B i = true
  · rw [if_pos hw]
    have h7 : B 7 i = -1 := by unfold waB at hw; simpa using hw
    refine las_none fun q hq => ?_
    cases e : (po s q 4 == nI (g i + 1)) with
    | false => rfl
    | true =>
      have := key q hq e
      rw [h7] at this; exact absurd this.symm (nI_nm1 (by omega))
  · rw [if_neg hw]
    have h7 : ¬ B 7 i = -1 := by intro e; apply hw; unfold waB; rw [e]; rfl
    rcases CP_pv h i hi with e | ⟨q, hq, e⟩
    · exact absurd e h7
    · rw [e, nt_nI (by omega)]
      refine las_some hq ?_ fun q' hq' h1 => ?_
      · have : po s q 4 = nI (g i + 1) := by
          rw [(CP_po h hq).2.2.2.2]; unfold flB2; rw [fh_some h (by omega) hi e]
        rw [this]; simp
      · have := key q' hq' h1
        rw [e] at this
        exact (nI_inj (by omega) (by omega) this).symm
theorem Q_w (h : CP B s k p g) {i : Nat} (hi : i < k) : wM s p (g i) = waB B i := by
  unfold wM
  rw [Q_u h hi, Q_fw h hi]
  cases e : waB B i <;> rfl
theorem Q_wi (h : CP B s k p g) {a : Nat} (ha : a < 10) (hw : wM s p a = true) : ∃ i, i < k ∧ g i = a := by
  unfold wM at hw
  rw [Bool.and_eq_true] at hw
  exact Q_in h ha hw.1
/-- how many references -/
theorem Q_pc (h : CP B s k p g) {i : Nat} (hi : i < k) {W : Nat} (h1 : ∀ j, j < k → W.testBit (g j) = (nt (B 8 i)).testBit j) (h2 : ∀ a, a < 10 → noS g k a → W.testBit a = false) : pcn W = pcn (nt (B 8 i)) := by
  obtain ⟨V, hV, e, hb⟩ := CP_gv h hi
  have hk := CP_k h
  rw [e, nt_nI (by omega)] at h1 ⊢
  unfold pcn
  rw [cnt_ij (CP_g h) (p := fun a => W.testBit a) (fun a ha ht => by
    rcases noS_or g k a with h3 | h3
    · exact h3
    · have := h2 a ha h3; rw [this] at ht; cases ht)]
  have : IJ (fun j => j) k 10 := ⟨fun i hi => Nat.lt_of_lt_of_le hi hk, fun i j _ _ e => e⟩
  rw [cnt_ij this (p := fun a => V.testBit a) (fun a ha ht => by
    by_cases hak : a < k
    · exact ⟨a, hak, rfl⟩
    · have := hb a (by omega); rw [this] at ht; cases ht)]
  exact cnt_cg h1
theorem Q_bt (h : CP B s k p g) {i : Nat} (hi : i < k) : btI (sl s (g i) 5) = bcI (B 8 i) := by
  obtain ⟨W, hW, e, h1, h2⟩ := (CP_sl h hi).2.2.2.2.2
  obtain ⟨V, hV, eV, _⟩ := CP_gv h hi
  have := Q_pc h hi h1 h2
  rw [e, bt_btI W hW, this, eV, nt_nI (by omega), bt_bcI V hV]
theorem Q_pt (h : CP B s k p g) {i : Nat} (hi : i < k) : ptM s (g i) = ptB B i := by
  unfold ptM ptB
  rw [Q_bt h hi, (CP_sl h hi).2.2.1, (CP_sl h hi).2.2.2.1]
theorem Q_be (h : CP B s k p g) {i j : Nat} (hi : i < k) (hj : j < k) : beM s (g i) (g j) = orB B i j := by
  unfold beM orB
  rw [Q_pt h hi, Q_pt h hj, Q_id h hi, Q_id h hj]
  obtain ⟨x, hx, e1⟩ := CP_id h hi
  obtain ⟨y, hy, e2⟩ := CP_id h hj
  have := CP_as h hi hj
  rw [e1, e2, nt_nI (by omega), nt_nI (by omega)] at this
  have e3 : (!decide (B 2 j ≤ B 2 i)) = decide (i < j) := by
    rw [e1, e2]
    by_cases hl : i < j
    · rw [decide_eq_true hl, decide_eq_false (by rw [nI_leI (by omega) (by omega)]; have := this.mpr hl; omega)]; rfl
    · rw [decide_eq_false hl, decide_eq_true (by rw [nI_leI (by omega) (by omega)]; refine Classical.byContradiction fun hh => hl (this.mp (by omega)))]; rfl
  rw [e3]
theorem chr_sh {v : Int32} (h : v = 42 ∨ isSh v) : chr v = v := by
  rcases h with h | h | h | h <;> subst h <;> decide
theorem Q_ft (h : CP B s k p g) {i q : Nat} (hi : i < k) (hq : q < p) : ftM s (g i) q = ftB B i q := by
  unfold ftM ftB
  have h1 := CP_po h hq
  have h2 := CP_sl h hi
  rw [h1.1, h1.2.1, h1.2.2.1, h2.2.1, h2.2.2.1, h2.2.2.2.1, chr_sh (h.1.2.2.1 q hq).1, chr_sh (Or.inr (CP_sh h hi))]
theorem nI_dpos {x y : Nat} (hx : x < 2 ^ 30) (hy : y < 2 ^ 30) : (0 < nI x - nI y ↔ y < x) ∧ (nI x - nI y = 0 ↔ x = y) := by
  by_cases hle : y ≤ x
  · rw [nI_sub hle]
    constructor
    · rw [show (0 : Int32) = nI 0 from rfl, nI_ltI (by omega) (by omega)]; omega
    · refine ⟨fun h => ?_, fun h => by rw [h]; simp; rfl⟩
      have := nI_inj (x := x - y) (y := 0) (by omega) (by omega) h; omega
  · have e : nI x - nI y = -(nI (y - x)) := by
      rw [← nI_sub (by omega), Int32.neg_sub]
    have hz : ∀ v : Nat, 0 < v → v < 2 ^ 30 → -(nI v) < 0 := by
      intro v h1 h2
      rw [Int32.lt_iff_toInt_lt, Int32.toInt_neg]
      have : (nI v).toInt = v := by
        exact Int32.toInt_ofNat_of_lt (by omega)
      rw [this]
      rw [Int.bmod_eq_of_le (by omega) (by omega), show (0 : Int32).toInt = 0 from rfl]; omega
    have h1 := hz (y - x) (by omega) (by omega)
    rw [e]
    constructor
    · refine ⟨fun h => absurd (Int32.lt_trans h h1) (Int32.lt_irrefl), fun h => by omega⟩
    · refine ⟨fun h => ?_, fun h => by omega⟩
      rw [h] at h1; exact absurd h1 (Int32.lt_irrefl)
theorem Q_pr (h : CP B s k p g) {q t : Nat} (hq : q < p) (ht : t < p) : prM s q t = poB B q t := by
  unfold prM poB
  rw [(CP_po h hq).2.2.2.1, (CP_po h ht).2.2.2.1]
  obtain ⟨x, hx, e1⟩ := (h.1.2.2.1 q hq).2.2.2
  obtain ⟨y, hy, e2⟩ := (h.1.2.2.1 t ht).2.2.2
  rw [e1, e2]
  have := nI_dpos (x := x) (y := y) (by omega) (by omega)
  have l := nI_ltI (a := y) (b := x) (by omega) (by omega)
  by_cases h1 : y < x
  · rw [decide_eq_true (this.1.mpr h1), decide_eq_true (l.mpr h1)]; rfl
  · rw [decide_eq_false (fun hh => h1 (this.1.mp hh)), decide_eq_false (fun hh => h1 (l.mp hh))]
    by_cases h2 : x = y
    · subst h2; rw [decide_eq_true (this.2.mpr rfl)]; simp
    · rw [decide_eq_false (fun hh => h2 (this.2.mp hh))]
      have : (nI x == nI y) = false := by
        rw [beq_eq_false_iff_ne]; exact fun hh => h2 (nI_inj (by omega) (by omega) hh)
      rw [this]
end
