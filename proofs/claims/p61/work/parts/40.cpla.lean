/-! CLASS AND MODEL TOGETHER, part 10: the rainy ones are rejected. -/
/-- a waiting applicant leaves its slot -/
def zg (s : Nat → Int32) (a : Nat) : Nat → Int32 := zrL (gvL s a 10) a 6
theorem goS_w {s : Nat → Int32} {p a : Nat} (h : fwM s p a = none) : goS s p a = zg s a := by
  unfold goS unS zg; rw [h]
theorem zg_sl {s : Nat → Int32} {a b w : Nat} (hb : b < 10) (hw : w < 6) : sl (zg s a) b w = if b = a then 0 else if w = 5 then sl s b 5 &&& (one a ^^^ (-1)) else sl s b w := by
  unfold zg
  rw [zrL_at hw 6 (by omega), gvL_at hw]
  by_cases h1 : b = a
  · rw [if_pos ⟨h1, hw⟩, if_pos h1]
  · rw [if_neg (fun hx => h1 hx.1), if_neg h1]
    by_cases h5 : w = 5
    · rw [if_pos ⟨h5, hb⟩, if_pos h5]
    · rw [if_neg (fun hx => h5 hx.1), if_neg h5]
theorem zg_o {s : Nat → Int32} {a j : Nat} (ha : a < 10) (hj : j < 3 ∨ 63 ≤ j) : zg s a j = s j := by
  unfold zg
  rw [zrL_o ha hj 6 (by omega), gvL_n hj 10 (by omega)]
theorem cell_of {j : Nat} (h1 : 3 ≤ j) (h2 : j < 63) : ∃ b w, b < 10 ∧ w < 6 ∧ j = 3 + 6 * b + w := ⟨(j - 3) / 6, (j - 3) % 6, by omega, by omega, by omega⟩
theorem zg_comm {s : Nat → Int32} {a b : Nat} (ha : a < 10) (hb : b < 10) : zg (zg s a) b = zg (zg s b) a := by
  funext j
  by_cases hj : j < 3 ∨ 63 ≤ j
  · rw [zg_o hb hj, zg_o ha hj, zg_o ha hj, zg_o hb hj]
  · obtain ⟨c, w, hc, hw, rfl⟩ := cell_of (j := j) (by omega) (by omega)
    show sl (zg (zg s a) b) c w = sl (zg (zg s b) a) c w
    rw [zg_sl hc hw, zg_sl hc hw, zg_sl hc (by omega : 5 < 6), zg_sl hc hw, zg_sl hc (by omega : 5 < 6), zg_sl hc hw]
    by_cases h1 : c = a <;> by_cases h2 : c = b
    · rw [if_pos h2, if_pos h1]
    · rw [if_neg h2, if_pos h1, if_pos h1, if_pos h1]
      by_cases h5 : w = 5
      · rw [if_pos h5]; exact Int32.zero_and
      · rw [if_neg h5]
    · rw [if_pos h2, if_neg h1, if_pos h2, if_pos h2]
      by_cases h5 : w = 5
      · rw [if_pos h5]; exact Int32.zero_and.symm
      · rw [if_neg h5]
    · simp only [if_neg h1, if_neg h2]
      by_cases h5 : w = 5
      · simp only [if_pos h5, ↓reduceIte]
        rw [Int32.and_assoc, Int32.and_assoc, Int32.and_comm (one a ^^^ (-1))]
      · simp only [if_neg h5]
section
variable {B : Bd} {s : Nat → Int32} {k p : Nat} {g : Nat → Nat}
/-- the slots of those that the class rejects, the highest position first -/
def rjB (B : Bd) (g : Nat → Nat) (lim : Int32) : Nat → List Nat
  | 0 => []
  | i + 1 => (if waB B i = true ∧ lim < B 5 i then [g i] else []) ++ rjB B g lim i
/-- the slots that the model rejects -/
def rjS (s : Nat → Int32) (p : Nat) (lim : Int32) : Nat → List Nat
  | 0 => []
  | a + 1 => rjS s p lim a ++ (if wM s p a = true ∧ ¬ sl s a 3 ≤ lim then [a] else [])
theorem rjB_cg {B B' : Bd} {g g' : Nat → Nat} {lim : Int32} : ∀ i, (∀ j, j < i → g j = g' j ∧ B 5 j = B' 5 j ∧ B 7 j = B' 7 j) → rjB B g lim i = rjB B' g' lim i := by
  intro i
  induction i with
  | zero => intro _; rfl
  | succ i ih =>
    intro h
    have hi := h i (by omega)
    have hw : waB B i = waB B' i := by unfold waB; rw [hi.2.2]
    rw [rjB, rjB, ih (fun j hj => h j (by omega)), hi.1, hi.2.1, hw]
theorem mem_rjB {x : Nat} {lim : Int32} : ∀ i, x ∈ rjB B g lim i ↔ ∃ j, j < i ∧ g j = x ∧ waB B j = true ∧ lim < B 5 j := by
  intro i
  induction i with
  | zero => exact ⟨fun h => (by cases h), fun ⟨j, hj, _⟩ => by omega⟩
  | succ i ih =>
    rw [rjB, List.mem_append, ih]
    constructor
    · rintro (h | ⟨j, hj, h⟩)
      · by_cases hc : waB B i = true ∧ lim < B 5 i
        · rw [if_pos hc] at h; exact ⟨i, by omega, (List.mem_singleton.mp h).symm, hc.1, hc.2⟩
        · rw [if_neg hc] at h; cases h
      · exact ⟨j, by omega, h⟩
    · rintro ⟨j, hj, h1, h2, h3⟩
      by_cases hji : j = i
      · subst hji; left; rw [if_pos ⟨h2, h3⟩]; exact List.mem_singleton.mpr h1.symm
      · right; exact ⟨j, by omega, h1, h2, h3⟩
theorem nd_rjB (hg : IJ g k 10) {lim : Int32} : ∀ i, i ≤ k → (rjB B g lim i).Nodup := by
  intro i
  induction i with
  | zero => intro _; exact List.nodup_nil
  | succ i ih =>
    intro hi
    rw [rjB]
    split
    · rw [List.singleton_append, List.nodup_cons]
      refine ⟨fun hm => ?_, ih (by omega)⟩
      obtain ⟨j, hj, h1, _⟩ := (mem_rjB i).mp hm
      have := hg.2 j i (by omega) (by omega) h1; omega
    · exact ih (by omega)
theorem mem_rjS {x : Nat} {lim : Int32} : ∀ a, x ∈ rjS s p lim a ↔ x < a ∧ wM s p x = true ∧ ¬ sl s x 3 ≤ lim := by
  intro a
  induction a with
  | zero => exact ⟨fun h => (by cases h), fun h => by omega⟩
  | succ a ih =>
    rw [rjS, List.mem_append, ih]
    constructor
    · rintro (h | h)
      · exact ⟨by omega, h.2⟩
      · by_cases hc : wM s p a = true ∧ ¬ sl s a 3 ≤ lim
        · rw [if_pos hc] at h
          have := List.mem_singleton.mp h; subst this; exact ⟨by omega, hc⟩
        · rw [if_neg hc] at h; cases h
    · rintro ⟨hx, h⟩
      by_cases hxa : x = a
      · subst hxa; right; rw [if_pos h]; exact List.mem_singleton.mpr rfl
      · left; exact ⟨by omega, h⟩
theorem nd_rjS {lim : Int32} : ∀ a, (rjS s p lim a).Nodup := by
  intro a
  induction a with
  | zero => exact List.nodup_nil
  | succ a ih =>
    rw [rjS]
    split
    · rw [List.nodup_append]
      refine ⟨ih, by simp, fun x hx y hy => ?_⟩
      have h1 := ((mem_rjS a).mp hx).1
      have h2 := List.mem_singleton.mp hy
      omega
    · rw [List.append_nil]; exact ih
theorem fld_sl {b w : Nat} (hb : b < 10) (hw : w < 5) : ∀ (l : List Nat) (s : Nat → Int32), ¬ b ∈ l → sl (l.foldl zg s) b w = sl s b w := by
  intro l
  induction l with
  | nil => intro s _; rfl
  | cons a l ih =>
    intro s h
    rw [List.foldl_cons, ih _ (fun hx => h (List.mem_cons_of_mem _ hx)), zg_sl hb (by omega), if_neg (fun hx => h (by rw [hx]; exact List.mem_cons_self)), if_neg (by omega)]
theorem fld_o {j : Nat} (hj : j < 3 ∨ 63 ≤ j) : ∀ (l : List Nat) (s : Nat → Int32), (∀ a, a ∈ l → a < 10) → l.foldl zg s j = s j := by
  intro l
  induction l with
  | nil => intro s _; rfl
  | cons a l ih =>
    intro s h
    rw [List.foldl_cons, ih _ (fun x hx => h x (List.mem_cons_of_mem _ hx)), zg_o (h a List.mem_cons_self) hj]
theorem fwM_cg {s s' : Nat → Int32} {p a : Nat} (h : ∀ j, 63 ≤ j → s j = s' j) : fwM s p a = fwM s' p a := by
  unfold fwM po
  have : ∀ n, las (fun q => s (63 + 5 * q + 4) == nI (a + 1)) n = las (fun q => s' (63 + 5 * q + 4) == nI (a + 1)) n := by
    intro n
    induction n with
    | zero => rfl
    | succ n ih => rw [las, las, ih, h _ (by omega)]
  exact this p
theorem wM_none {s : Nat → Int32} {p a : Nat} (h : wM s p a = true) : fwM s p a = none := by
  unfold wM at h
  rw [Bool.and_eq_true] at h
  cases e : fwM s p a with
  | none => rfl
  | some q => rw [e] at h; cases h.2
theorem rjL_eq {lim : Int32} : ∀ a, a ≤ 10 → rjL s p lim a = ((rjS s p lim a).foldl zg s, (rjS s p lim a).length) := by
  intro a
  induction a with
  | zero => intro _; rfl
  | succ a ih =>
    intro ha
    have i1 := ih (by omega)
    have hm : ¬ a ∈ rjS s p lim a := fun hx => by have := ((mem_rjS a).mp hx).1; omega
    have hlt : ∀ x, x ∈ rjS s p lim a → x < 10 := fun x hx => by have := ((mem_rjS a).mp hx).1; omega
    have hfw : fwM ((rjS s p lim a).foldl zg s) p a = fwM s p a := fwM_cg fun j hj => fld_o (Or.inr hj) _ _ hlt
    have hw : wM ((rjS s p lim a).foldl zg s) p a = wM s p a := by
      unfold wM uM; rw [hfw, fld_sl (by omega) (by omega) _ _ hm]
    have h3 : sl ((rjS s p lim a).foldl zg s) a 3 = sl s a 3 := fld_sl (by omega) (by omega) _ _ hm
    rw [rjL, i1, rjS]
    show (if wM ((rjS s p lim a).foldl zg s) p a = true ∧ ¬ sl ((rjS s p lim a).foldl zg s) a 3 ≤ lim then (goS ((rjS s p lim a).foldl zg s) p a, (rjS s p lim a).length + 1) else ((rjS s p lim a).foldl zg s, (rjS s p lim a).length)) = _
    rw [hw, h3]
    by_cases hc : wM s p a = true ∧ ¬ sl s a 3 ≤ lim
    · rw [if_pos hc, if_pos hc, goS_w (hfw.trans (wM_none hc.1)), List.foldl_append, List.length_append]; rfl
    · rw [if_neg hc, if_neg hc, List.append_nil]
theorem rm_lo {B : Bd} {k q c j : Nat} (hc : 2 ≤ c) (hc8 : c < 8) (hj : j < q) (hq : q < k) : rmB B k q c j = B c j := by
  have e1 : rmB B k q c = rmA B k q c := by unfold rmB fgB; exact us_ne (by omega)
  have e2 : shf (B c) q k j = B c j := by
    rw [shk_at hq (by omega)]; unfold skp; rw [if_pos hj]
  rw [e1, ← e2]
  unfold rmA
  rw [ud_nc (by omega)]
  have : c = 2 ∨ c = 3 ∨ c = 4 ∨ c = 5 ∨ c = 6 ∨ c = 7 := by omega
  rcases this with h | h | h | h | h | h <;> subst h <;> simp [us]
theorem rwa_CP {lim : Int32} : ∀ (i : Nat) (B : Bd) (s : Nat → Int32) (k : Nat) (g : Nat → Nat), i ≤ k → CP B s k p g → ∃ g', CP (rwa lim i (B, k)).1 ((rjB B g lim i).foldl zg s) (rwa lim i (B, k)).2 p g' ∧ (rwa lim i (B, k)).2 + (rjB B g lim i).length = k := by
  intro i
  induction i with
  | zero => intro B s k g _ h; exact ⟨g, h, rfl⟩
  | succ i ih =>
    intro B s k g hi h
    rw [rwa, rjB]
    show ∃ g', CP (rwa lim i (if waB B i = true ∧ lim < B 5 i then (rmB B k i, k - 1) else (B, k))).1 _ (rwa lim i (if waB B i = true ∧ lim < B 5 i then (rmB B k i, k - 1) else (B, k))).2 p g' ∧ (rwa lim i (if waB B i = true ∧ lim < B 5 i then (rmB B k i, k - 1) else (B, k))).2 + _ = k
    by_cases hc : waB B i = true ∧ lim < B 5 i
    · rw [if_pos hc, if_pos hc, List.singleton_append, List.foldl_cons, List.length_cons]
      have h1 := CP_rm h (t := i) (by omega)
      rw [goS_w (by rw [Q_fw h (by omega), if_pos hc.1])] at h1
      obtain ⟨g', c1, c2⟩ := ih _ _ _ _ (by omega : i ≤ k - 1) h1
      have e : rjB (rmB B k i) (fun j => g (skp i j)) lim i = rjB B g lim i := rjB_cg i fun j hj => by
        refine ⟨?_, rm_lo (by omega) (by omega) hj (by omega), rm_lo (by omega) (by omega) hj (by omega)⟩
        show g (skp i j) = g j
        unfold skp; rw [if_pos hj]
      rw [e] at c1 c2
      exact ⟨g', c1, by omega⟩
    · rw [if_neg hc, if_neg hc, List.nil_append]
      exact ih B s k g (by omega) h
theorem O_rj (h : CP B s k p g) (lim : Int32) : (∃ g', CP (rwa lim k (B, k)).1 (rjL s p lim 10).1 (rwa lim k (B, k)).2 p g') ∧ k - (rwa lim k (B, k)).2 = (rjL s p lim 10).2 := by
  obtain ⟨g', c1, c2⟩ := rwa_CP (lim := lim) k B s k g (Nat.le_refl k) h
  have hp : (rjB B g lim k).Perm (rjS s p lim 10) := by
    rw [List.perm_ext_iff_of_nodup (nd_rjB (CP_g h) k (Nat.le_refl k)) (nd_rjS 10)]
    intro x
    rw [mem_rjB, mem_rjS]
    constructor
    · rintro ⟨j, hj, rfl, h1, h2⟩
      refine ⟨IJ_lt (CP_g h) hj, by rw [Q_w h hj]; exact h1, ?_⟩
      rw [(CP_sl h hj).2.2.2.1, Int32.not_le]; exact h2
    · rintro ⟨hx, h1, h2⟩
      obtain ⟨j, hj, rfl⟩ := Q_wi h hx h1
      rw [Q_w h hj] at h1
      rw [(CP_sl h hj).2.2.2.1, Int32.not_le] at h2
      exact ⟨j, hj, rfl, h1, h2⟩
  have e : (rjB B g lim k).foldl zg s = (rjS s p lim 10).foldl zg s := hp.foldl_eq' (fun x hx y hy z => by
    have hx' := ((mem_rjB k).mp hx)
    have hy' := ((mem_rjB k).mp hy)
    obtain ⟨i, hi, rfl, _⟩ := hx'
    obtain ⟨j, hj, rfl, _⟩ := hy'
    exact zg_comm (IJ_lt (CP_g h) hi) (IJ_lt (CP_g h) hj)) s
  rw [rjL_eq 10 (Nat.le_refl _)]
  rw [e] at c1
  refine ⟨⟨g', c1⟩, ?_⟩
  have := hp.length_eq
  show k - (rwa lim k (B, k)).2 = (rjS s p lim 10).length
  omega
end
