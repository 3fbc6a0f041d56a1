/-! CLASS AND MODEL TOGETHER, part 12: what the relation looks at; the best candidate is hired. -/
theorem fst_cg {P P' : Nat → Bool} {n : Nat} (hc : ∀ i, i < n → P i = P' i) : fst P n = fst P' n := by
  cases e1 : fst P' n with
  | none => exact fst_of0 fun j hj => by rw [hc j hj]; exact fst_none e1 j hj
  | some i => have := fst_some e1; exact fst_of this.1 (by rw [hc i this.1]; exact this.2.1) fun j hj => by rw [hc j (by omega)]; exact this.2.2 j hj
/-- the same board, as far as it is looked at -/
def EB (B B' : Bd) : Prop := (B 0 2 = B' 0 2 ∧ B 1 0 = B' 1 0 ∧ B 1 1 = B' 1 1 ∧ B 9 0 = B' 9 0) ∧ (∀ c i, 2 ≤ c → c < 9 → i < 10 → B c i = B' c i) ∧ ∀ c i, 10 ≤ c → c < 14 → i < 6 → B c i = B' c i
theorem CP_ext {B B' : Bd} {s s' : Nat → Int32} {k p : Nat} {g : Nat → Nat} (h : CP B s k p g) (hB : EB B B') (hs : ∀ j, j < 93 → s j = s' j) : CP B' s' k p g := by
  have hk := CP_k h
  have hp := CP_p h
  obtain ⟨⟨b02, b10, b11, b90⟩, bA, bP⟩ := hB
  have e : ∀ c i, 2 ≤ c → c < 9 → i < k → B' c i = B c i := fun c i h0 h1 h2 => (bA c i h0 h1 (by omega)).symm
  have eq : ∀ c q, 10 ≤ c → c < 14 → q < p → B' c q = B c q := fun c i h0 h1 h2 => (bP c i h0 h1 (by omega)).symm
  have slE : ∀ a w, a < 10 → w < 6 → sl s' a w = sl s a w := fun a w h1 h2 => (hs _ (by omega)).symm
  have poE : ∀ q w, q < p → w < 5 → po s' q w = po s q w := fun q w h1 h2 => (hs _ (by omega)).symm
  have hft : ∀ i q, i < k → q < p → ftB B' i q = ftB B i q := by
    intro i q hi hq
    unfold ftB
    rw [eq 10 q (by omega) (by omega) hq, eq 11 q (by omega) (by omega) hq, eq 12 q (by omega) (by omega) hq, e 3 i (by omega) (by omega) hi, e 4 i (by omega) (by omega) hi, e 5 i (by omega) (by omega) hi]
  have hfh : ∀ x, fh B' k x = fh B k x := fun x => fst_cg fun i hi => by rw [e 7 i (by omega) (by omega) hi]
  obtain ⟨⟨w1, w2, w3, w4, w5⟩, ha, hq, hh⟩ := h.1
  refine ⟨⟨⟨?_, w2, ?_, w4, fun i hi => ?_⟩, ⟨?_, fun i j hij hj => ?_, fun j hj => ?_⟩, fun q hqp => ?_, ⟨fun i j hi hj => ?_, fun j hj => ?_⟩⟩, CP_g h, ⟨?_, ?_, ?_⟩, fun j hj => ?_, fun a ha2 hna w hw2 => ?_, fun u hu => ?_⟩
  · rw [← b10]; exact w1
  · rw [← b90]; exact w3
  · rw [e 7 i (by omega) (by omega) hi]; exact w5 i hi
  · obtain ⟨nid, b1, b2, b3⟩ := ha.1
    refine ⟨nid, b1, by rw [← b11]; exact b2, fun i hi => by rw [e 2 i (by omega) (by omega) hi]; exact b3 i hi⟩
  · rw [e 2 i (by omega) (by omega) (by omega), e 2 j (by omega) (by omega) hj]; exact ha.2.1 i j hij hj
  · rw [e 3 j (by omega) (by omega) hj, e 4 j (by omega) (by omega) hj, e 5 j (by omega) (by omega) hj, e 8 j (by omega) (by omega) hj]; exact ha.2.2 j hj
  · rw [eq 10 q (by omega) (by omega) hqp, eq 11 q (by omega) (by omega) hqp, eq 12 q (by omega) (by omega) hqp, eq 13 q (by omega) (by omega) hqp]; exact hq q hqp
  · rw [e 7 i (by omega) (by omega) hi, e 7 j (by omega) (by omega) hj]; exact hh.1 i j hi hj
  · rw [e 7 j (by omega) (by omega) hj]
    intro h7
    rcases w5 j hj with hx | ⟨t, ht, hx⟩
    · exact absurd hx h7
    · have := hh.2 j hj h7
      rw [hx, nt_nI (by omega)] at this ⊢
      rw [hft j t hj ht]; exact this
  · rw [← hs 0 (by omega), ← b11]; exact h.2.2.1.1
  · rw [← hs 1 (by omega), ← b02]; exact h.2.2.1.2.1
  · rw [← hs 2 (by omega)]; exact h.2.2.1.2.2
  · have hgj := IJ_lt (CP_g h) hj
    unfold CSl
    rw [slE _ 0 hgj (by omega), slE _ 1 hgj (by omega), slE _ 2 hgj (by omega), slE _ 3 hgj (by omega), slE _ 4 hgj (by omega), slE _ 5 hgj (by omega), e 2 j (by omega) (by omega) hj, e 3 j (by omega) (by omega) hj, e 4 j (by omega) (by omega) hj, e 5 j (by omega) (by omega) hj, e 6 j (by omega) (by omega) hj, e 8 j (by omega) (by omega) hj]
    exact CP_sl h hj
  · rw [slE a w ha2 hw2]; exact CP_no h ha2 hna hw2
  · unfold CPo flB2
    rw [poE u 0 hu (by omega), poE u 1 hu (by omega), poE u 2 hu (by omega), poE u 3 hu (by omega), poE u 4 hu (by omega), eq 10 u (by omega) (by omega) hu, eq 11 u (by omega) (by omega) hu, eq 12 u (by omega) (by omega) hu, eq 13 u (by omega) (by omega) hu, hfh]
    exact CP_po h hu
section
variable {B : Bd} {s : Nat → Int32} {k p : Nat} {g : Nat → Nat}
theorem fx_i (h : CP B s k p g) {i : Nat} (hi : i < k) : fx B k (B 2 i) = some i := by
  unfold fx
  refine fst_u hi (by simp) fun j hj h1 => ?_
  have e : B 2 j = B 2 i := by simpa using h1
  refine Classical.byContradiction fun hn => ?_
  by_cases hl : i < j
  · have := (CP_as h hi hj).mpr hl; rw [e] at this; omega
  · have := (CP_as h hj hi).mpr (by omega); rw [e] at this; omega
theorem O_hb (h : CP B s k p g) (x : Int32) : (inR x 0 (nI p - 1) = false ∧ (mHb s p x).1 = 1) ∨ ∃ q, q < p ∧ x = nI q ∧ ((∃ f, fh B k (nI q) = some f ∧ (mHb s p x).1 = 2) ∨ (fh B k (nI q) = none ∧ ((best (fun i => waB B i && ftB B i q) (orB B) k = none ∧ (mHb s p x).1 = 3) ∨ ∃ i, best (fun i => waB B i && ftB B i q) (orB B) k = some i ∧ (tHi B k p (nI q) (B 2 i)).1 = 0 ∧ (mHb s p x).1 = 0 ∧ (mHb s p x).2.1 = B 2 i ∧ (tHi B k p (nI q) (B 2 i)).2 = ud B 7 i (nI q) ∧ CP (tHi B k p (nI q) (B 2 i)).2 (mHb s p x).2.2 k p g))) := by
  have hp := CP_p h
  unfold mHb
  by_cases hx : inR x 0 (nI p - 1) = true
  · obtain ⟨q, hq, rfl⟩ := inR_p h hx
    right
    refine ⟨q, hq, rfl, ?_⟩
    rw [if_pos hx, nI_clamp (by omega)]
    cases e2 : fh B k (nI q) with
    | some f =>
      left
      have hgf := IJ_lt (CP_g h) (fst_some e2).1
      refine ⟨f, rfl, ?_⟩
      rw [poq_s h hq e2, if_neg (by rw [show (0 : Int32) = nI 0 from rfl, nI_leI (by omega) (by omega)]; omega)]
    | none =>
      right
      refine ⟨rfl, ?_⟩
      rw [poq_n h hq e2, if_pos (show (0 : Int32) ≤ 0 by decide), Q_cd h hq]
      cases e3 : best (fun i => waB B i && ftB B i q) (orB B) k with
      | none => left; exact ⟨rfl, rfl⟩
      | some i =>
        right
        have hi := best_lt e3
        have hc : waB B i = true ∧ ftB B i q = true := by
          have := hi.2
          simpa using this
        have et : tHi B k p (nI q) (B 2 i) = (0, ud B 7 i (nI q)) := by
          unfold tHi
          rw [if_pos hx, fx_i h hi.1]
          show (match fh B k (nI q) with
            | some _ => ((2, B) : Nat × Bd)
            | none => if waB B i = true then (if ftB B i (nI q).toNatClampNeg = true then (0, ud B 7 i (nI q)) else (5, B)) else (2, B)) = _
          rw [e2]
          show (if waB B i = true then (if ftB B i (nI q).toNatClampNeg = true then ((0, ud B 7 i (nI q)) : Nat × Bd) else (5, B)) else (2, B)) = _
          rw [if_pos hc.1, nI_clamp (by omega), if_pos hc.2]
        have cp := CP_hi h hi.1 hq hc.1 e2 hc.2
        refine ⟨i, rfl, by rw [et], rfl, ?_, by rw [et], ?_⟩
        · have := Q_id cp hi.1
          rw [ud_nc (by omega)] at this
          exact this
        · rw [et]; exact cp
  · left
    rw [if_neg hx]
    exact ⟨by simpa using hx, rfl⟩
end
