/-! CLASS AND MODEL TOGETHER, part 2: orders, counts, the best. -/
def ptz (w r c : Nat) : Int := (w : Int) - r + 10 * c
theorem nI_ofI (x : Nat) : nI x = Int32.ofInt x := rfl
theorem pt_ofI (w r c : Nat) : nI w - nI r + 10 * nI c = Int32.ofInt (ptz w r c) := by
  unfold ptz
  rw [Int32.ofInt_add, Int32.ofInt_sub, Int32.ofInt_mul, nI_ofI, nI_ofI, nI_ofI]; rfl
theorem ofI_pos {z : Int} (h1 : -(2 ^ 30) ≤ z) (h2 : z < 2 ^ 30) : (0 < Int32.ofInt z ↔ 0 < z) ∧ (Int32.ofInt z = 0 ↔ z = 0) := by
  have e : (Int32.ofInt z).toInt = z := Int32.toInt_ofInt_of_le (by omega) (by omega)
  constructor
  · rw [Int32.lt_iff_toInt_lt, e]; exact Iff.rfl
  · rw [← Int32.toInt_inj, e]; exact Iff.rfl
theorem pcn_le (V : Nat) : pcn V ≤ 10 := cnt_le _ 10
section
variable {B : Bd} {s : Nat → Int32} {k p : Nat} {g : Nat → Nat}
/-- the points as a whole number -/
def pzB (B : Bd) (i : Nat) : Int := ptz (nt (B 4 i)) (nt (B 5 i)) (pcn (nt (B 8 i)))
theorem pz_eq (h : CP B s k p g) {i : Nat} (hi : i < k) : ptB B i = Int32.ofInt (pzB B i) ∧ -50 ≤ pzB B i ∧ pzB B i ≤ 200 := by
  obtain ⟨w, hw, e1⟩ := CP_wh h hi
  obtain ⟨r, hr, e2⟩ := CP_ra h hi
  obtain ⟨V, hV, e3, _⟩ := CP_gv h hi
  unfold ptB pzB
  rw [e1, e2, e3, bt_bcI V hV, nt_nI (by omega), nt_nI (by omega), nt_nI (by omega), pt_ofI]
  have := pcn_le V
  unfold ptz
  exact ⟨rfl, by omega, by omega⟩
theorem or_iff (h : CP B s k p g) {i j : Nat} (hi : i < k) (hj : j < k) : orB B i j = true ↔ pzB B j < pzB B i ∨ (pzB B i = pzB B j ∧ i < j) := by
  obtain ⟨e1, l1, u1⟩ := pz_eq h hi
  obtain ⟨e2, l2, u2⟩ := pz_eq h hj
  unfold orB
  rw [e1, e2, ← Int32.ofInt_sub]
  have := ofI_pos (z := pzB B i - pzB B j) (by omega) (by omega)
  simp only [Bool.or_eq_true, Bool.and_eq_true, decide_eq_true_eq]
  rw [this.1, this.2]
  constructor
  · intro h
    rcases h with h | h
    · left; omega
    · right; exact ⟨by omega, h.2⟩
  · intro h
    rcases h with h | h
    · left; omega
    · right; exact ⟨by omega, h.2⟩
theorem or_SO (h : CP B s k p g) (P : Nat → Bool) : SO P (orB B) k := by
  refine ⟨fun i j hi hj _ _ hne => ?_, fun i j hi hj h1 => ?_, fun i j l hi hj hl h1 h2 => ?_⟩
  · rw [or_iff h hi hj, or_iff h hj hi]; omega
  · rw [or_iff h hi hj] at h1
    rw [← Bool.not_eq_true, or_iff h hj hi]; omega
  · rw [or_iff h hi hj] at h1; rw [or_iff h hj hl] at h2; rw [or_iff h hi hl]; omega
theorem or_irr (h : CP B s k p g) {i : Nat} (hi : i < k) : orB B i i = false := by
  rw [← Bool.not_eq_true, or_iff h hi hi]; omega
theorem po_iff (h : CP B s k p g) {q t : Nat} (hq : q < p) (ht : t < p) : poB B q t = true ↔ nt (B 13 t) < nt (B 13 q) ∨ (nt (B 13 q) = nt (B 13 t) ∧ q < t) := by
  obtain ⟨x, hx, e1⟩ := (h.1.2.2.1 q hq).2.2.2
  obtain ⟨y, hy, e2⟩ := (h.1.2.2.1 t ht).2.2.2
  unfold poB
  rw [e1, e2, nt_nI (by omega), nt_nI (by omega)]
  simp only [Bool.or_eq_true, Bool.and_eq_true, decide_eq_true_eq, beq_iff_eq]
  rw [nI_ltI (by omega) (by omega)]
  constructor
  · intro h
    rcases h with h | h
    · left; exact h
    · right; exact ⟨(nI_inj (by omega) (by omega) h.1.symm).symm ▸ rfl, h.2⟩
  · intro h
    rcases h with h | h
    · left; exact h
    · right; exact ⟨by rw [h.1], h.2⟩
theorem po_SO (h : CP B s k p g) (P : Nat → Bool) : SO P (poB B) p := by
  refine ⟨fun i j hi hj _ _ hne => ?_, fun i j hi hj h1 => ?_, fun i j l hi hj hl h1 h2 => ?_⟩
  · rw [po_iff h hi hj, po_iff h hj hi]; omega
  · rw [po_iff h hi hj] at h1
    rw [← Bool.not_eq_true, po_iff h hj hi]; omega
  · rw [po_iff h hi hj] at h1; rw [po_iff h hj hl] at h2; rw [po_iff h hi hl]; omega
/-- the applicants -/
theorem Q_many (h : CP B s k p g) : cnt (uM s) 10 = k := by
  rw [cnt_ij (CP_g h) (p := uM s) (fun a ha hu => Q_in h ha hu), cnt_cg (p' := fun _ => true) (fun i hi => Q_u h hi)]
  have : ∀ k, cnt (fun _ => true) k = k := by
    intro k
    induction k with
    | zero => rfl
    | succ k ih => rw [cnt, ih]; rfl
  exact this k
theorem Q_wait (h : CP B s k p g) : cnt (wM s p) 10 = cnt (waB B) k := by
  rw [cnt_ij (CP_g h) (p := wM s p) (fun a ha hu => Q_wi h ha hu)]
  exact cnt_cg (fun i hi => Q_w h hi)
theorem Q_ahead (h : CP B s k p g) {i : Nat} (hi : i < k) : ahM s (g i) = i := by
  unfold ahM
  rw [cnt_ij (CP_g h) (p := fun c => uM s c && !(decide (idM s (g i) ≤ idM s c))) (fun a ha hu => Q_in h ha (by simp only [Bool.and_eq_true] at hu; exact hu.1))]
  have e : ∀ j, j < k → (uM s (g j) && !(decide (idM s (g i) ≤ idM s (g j)))) = decide (j < i) := by
    intro j hj
    rw [Q_u h hj, Q_id h hi, Q_id h hj, Bool.true_and]
    obtain ⟨x, hx, e1⟩ := CP_id h hi
    obtain ⟨y, hy, e2⟩ := CP_id h hj
    have := CP_as h hj hi
    rw [e1, e2, nt_nI (by omega), nt_nI (by omega)] at this
    rw [e1, e2]
    by_cases hl : j < i
    · rw [decide_eq_true hl, decide_eq_false (by rw [nI_leI (by omega) (by omega)]; have := this.mpr hl; omega)]; rfl
    · rw [decide_eq_false hl, decide_eq_true (by rw [nI_leI (by omega) (by omega)]; refine Classical.byContradiction fun hh => hl (this.mp (by omega)))]; rfl
  rw [cnt_cg e]
  have : ∀ n, i ≤ n → cnt (fun j => decide (j < i)) n = i := by
    intro n
    induction n with
    | zero => intro h; have : i = 0 := by omega
              subst this; rfl
    | succ n ih =>
      intro hn
      by_cases e : i = n + 1
      · subst e
        have al : ∀ m, m ≤ n + 1 → cnt (fun j => decide (j < n + 1)) m = m := by
          intro m
          induction m with
          | zero => intro _; rfl
          | succ m ih => intro hm; rw [cnt, ih (by omega), if_pos (by simp; omega)]
        exact al _ (Nat.le_refl _)
      · rw [cnt_f (by simp; omega), ih (by omega)]
  exact this k (by omega)
/-- who stands at a place -/
theorem Q_at (h : CP B s k p g) {i : Nat} (hi : i < k) : idO s (las (apP2 s (nI i)) 10) = B 2 i := by
  have hk := CP_k h
  have : las (apP2 s (nI i)) 10 = some (g i) := by
    refine las_some (IJ_lt (CP_g h) hi) ?_ fun a ha h1 => ?_
    · unfold apP2; rw [Q_u h hi, Q_ahead h hi]; simp
    · unfold apP2 at h1
      rw [Bool.and_eq_true] at h1
      obtain ⟨j, hj, e⟩ := Q_in h ha h1.1
      have h2 := h1.2
      rw [← e, Q_ahead h hj, beq_iff_eq] at h2
      rw [← e, nI_inj (by omega) (by omega) h2]
  rw [this]; exact Q_id h hi
theorem Q_rk (h : CP B s k p g) {i : Nat} (hi : i < k) : abM s (g i) = cnt (fun j => orB B j i) k := by
  unfold abM
  rw [cnt_ij (CP_g h) (p := fun c => uM s c && beM s c (g i)) (fun a ha hu => Q_in h ha (by simp only [Bool.and_eq_true] at hu; exact hu.1))]
  exact cnt_cg (fun j hj => by rw [Q_u h hj, Q_be h hj hi, Bool.true_and])
theorem cnt_le_of {P P' : Nat → Bool} : ∀ {n : Nat}, (∀ i, i < n → P i = true → P' i = true) → cnt P n ≤ cnt P' n := by
  intro n
  induction n with
  | zero => intro _; exact Nat.le_refl _
  | succ n ih =>
    intro h
    have := ih (fun i hi => h i (by omega))
    rw [cnt, cnt]
    by_cases e : P n = true
    · rw [if_pos e, if_pos (h n (by omega) e)]; omega
    · rw [if_neg e]; omega
theorem cnt_lt_of {P P' : Nat → Bool} {c : Nat} : ∀ {n : Nat}, c < n → P c = false → P' c = true → (∀ i, i < n → P i = true → P' i = true) → cnt P n < cnt P' n := by
  intro n
  induction n with
  | zero => intro h; omega
  | succ n ih =>
    intro hc h1 h2 h
    rw [cnt, cnt]
    by_cases e : c = n
    · subst e
      have := cnt_le_of (n := c) (fun i hi => h i (by omega))
      rw [h1, h2]; simp; omega
    · have := ih (by omega) h1 h2 (fun i hi => h i (by omega))
      by_cases e : P n = true
      · rw [if_pos e, if_pos (h n (by omega) e)]; omega
      · rw [if_neg e]; omega
/-- ranks tell the applicants apart -/
theorem rk_inj (h : CP B s k p g) {i j : Nat} (hi : i < k) (hj : j < k) (e : cnt (fun l => orB B l i) k = cnt (fun l => orB B l j) k) : i = j := by
  have so := or_SO h (fun _ => true)
  have key : ∀ a c, a < k → c < k → orB B a c = true → cnt (fun l => orB B l a) k < cnt (fun l => orB B l c) k := by
    intro a c ha hc hac
    exact cnt_lt_of ha (or_irr h ha) hac (fun l hl h1 => so.2.2 l a c hl ha hc h1 hac)
  refine Classical.byContradiction fun hne => ?_
  rcases so.1 i j hi hj rfl rfl hne with h1 | h1
  · have := key i j hi hj h1; omega
  · have := key j i hj hi h1; omega
theorem Q_rank (h : CP B s k p g) (x : Int32) : las (apS s x) 10 = (rkB B k x).map g := by
  have hk := CP_k h
  have key : ∀ a, a < 10 → apS s x a = true → ∃ i, i < k ∧ g i = a ∧ nI (cnt (fun j => orB B j i) k) = x := by
    intro a ha h1
    unfold apS at h1
    rw [Bool.and_eq_true] at h1
    obtain ⟨i, hi, e⟩ := Q_in h ha h1.1
    have h2 := h1.2
    rw [← e, Q_rk h hi, beq_iff_eq] at h2
    exact ⟨i, hi, e, h2⟩
  cases e : rkB B k x with
  | none =>
    have hn := fst_none e
    refine las_none fun a ha => ?_
    cases e1 : apS s x a with
    | false => rfl
    | true =>
      obtain ⟨i, hi, _, e3⟩ := key a ha e1
      have := hn i hi
      rw [e3] at this; simp at this
  | some i =>
    have hi := fst_some e
    have e2 : nI (cnt (fun j => orB B j i) k) = x := by have := hi.2.1; simpa using this
    refine las_some (IJ_lt (CP_g h) hi.1) ?_ fun a ha h1 => ?_
    · unfold apS; rw [Q_u h hi.1, Q_rk h hi.1, e2]; simp
    · obtain ⟨j, hj, e4, e5⟩ := key a ha h1
      have c1 := cnt_le (fun l => orB B l j) k
      have c2 := cnt_le (fun l => orB B l i) k
      rw [← e4, rk_inj h hj hi.1 (nI_inj (by omega) (by omega) (e5.trans e2.symm))]
/-- the best candidate -/
theorem Q_cd (h : CP B s k p g) {q : Nat} (hq : q < p) : cdM s p q = (best (fun i => waB B i && ftB B i q) (orB B) k).map g := by
  unfold cdM
  rw [best_ij (CP_g h) (p := fun a => wM s p a && ftM s a q) (lt' := orB B) (fun a ha h1 => Q_wi h ha (by simp only [Bool.and_eq_true] at h1; exact h1.1)) (fun i j hi hj => Q_be h hi hj) (or_SO h _)]
  congr 1
  exact best_cg (fun i hi => by rw [Q_w h hi, Q_ft h hi hq]) (fun _ _ _ _ => rfl)
theorem Q_cc (h : CP B s k p g) {q : Nat} (hq : q < p) : cnt (fun a => wM s p a && ftM s a q) 10 = cnt (fun i => waB B i && ftB B i q) k := by
  rw [cnt_ij (CP_g h) (p := fun a => wM s p a && ftM s a q) (fun a ha h1 => Q_wi h ha (by simp only [Bool.and_eq_true] at h1; exact h1.1))]
  exact cnt_cg (fun i hi => by rw [Q_w h hi, Q_ft h hi hq])
/-- the favourite post -/
theorem Q_fa (h : CP B s k p g) {i : Nat} (hi : i < k) : faM s p (g i) false = best (ftB B i) (poB B) p := by
  unfold faM
  exact best_cg (fun q hq => by rw [Q_ft h hi hq]; simp) (fun q t hq ht => Q_pr h hq ht)
theorem Q_fl (h : CP B s k p g) {q : Nat} (hq : q < p) : (po s q 4 == 0) = (fh B k (nI q)).isNone := by
  rw [(CP_po h hq).2.2.2.2]
  unfold flB2
  cases e : fh B k (nI q) with
  | none => rfl
  | some i =>
    have hi := (fst_some e).1
    have hgi := IJ_lt (CP_g h) hi
    show (nI (g i + 1) == 0) = false
    rw [beq_eq_false_iff_ne]
    intro hh
    have := nI_inj (y := 0) (by omega) (by omega) hh; omega
theorem Q_fv (h : CP B s k p g) {i : Nat} (hi : i < k) : faM s p (g i) true = best (fun q => ftB B i q && (fh B k (nI q)).isNone) (poB B) p := by
  unfold faM
  exact best_cg (fun q hq => by rw [Q_ft h hi hq, Q_fl h hq]; simp) (fun q t hq ht => Q_pr h hq ht)
theorem Q_va (h : CP B s k p g) : vaM s p = cnt (fun q => (fh B k (nI q)).isNone) p := cnt_cg (fun q hq => Q_fl h hq)
theorem Q_FV (h : CP B s k p g) : FV s p := by
  intro q hq
  rw [(CP_po h hq).2.2.2.2]
  unfold flB2
  cases e : fh B k (nI q) with
  | none => exact Or.inl rfl
  | some i => exact Or.inr ⟨g i, IJ_lt (CP_g h) (fst_some e).1, rfl⟩
end
