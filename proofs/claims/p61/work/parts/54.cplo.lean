/-! CLASS AND MODEL TOGETHER, part 21: the output. -/
def ASC (l : List Int32) : Prop := ∀ i, i < l.length → ∃ c, c < 128 ∧ l.getD i 0 = nI c
theorem ASC_app {l l' : List Int32} (h : ASC l) (h' : ASC l') : ASC (l ++ l') := by
  intro i hi
  rw [List.length_append] at hi
  by_cases hl : i < l.length
  · obtain ⟨c, h1, h2⟩ := h i hl
    exact ⟨c, h1, by rw [List.getD_eq_getElem?_getD, List.getElem?_append_left hl, ← List.getD_eq_getElem?_getD]; exact h2⟩
  · obtain ⟨c, h1, h2⟩ := h' (i - l.length) (by omega)
    exact ⟨c, h1, by rw [List.getD_eq_getElem?_getD, List.getElem?_append_right (by omega), ← List.getD_eq_getElem?_getD]; exact h2⟩
theorem ASC_one {c : Nat} (h : c < 128) : ASC [nI c] := by
  intro i hi
  have : i = 0 := by simp at hi; omega
  subst this; exact ⟨c, h, rfl⟩
theorem ASC_nil : ASC [] := fun i hi => absurd hi (Nat.not_lt_zero i)
theorem ASC_dg {v : Nat} (h : v < 2 ^ 31) : ASC (dg v) := fun i hi => dg_asc h hi
theorem ASC_opt {g x : Nat} (h : g < 2 ^ 31) (hx : x < 128) : ASC (opt g (nI x)) := by
  unfold opt
  split
  · exact ASC_app (ASC_one hx) (ASC_dg h)
  · exact ASC_nil
theorem ASC_optO {o : Option Nat} {x : Nat} (h : ∀ q, o = some q → q < 2 ^ 31) (hx : x < 128) : ASC (optO o (nI x)) := by
  unfold optO
  cases o with
  | none => exact ASC_nil
  | some q => exact ASC_app (ASC_one hx) (ASC_dg (h q rfl))
theorem dg_lenj {v j : Nat} (h : v < 10 ^ j) (hj : 1 ≤ j) : (dg v).length ≤ j := dgF_len 9 v j h hj
theorem ASC_wa {sh w rr g c : Nat} {o : Option Nat} (h1 : sh < 128) (h2 : w < 2 ^ 31) (h3 : rr < 2 ^ 31) (h4 : g < 2 ^ 31) (h5 : c < 2 ^ 31) (h6 : ∀ q, o = some q → q < 2 ^ 31) : ASC (waT (nI sh) w rr g c o) := by
  unfold waT
  exact ASC_app (ASC_one h1) (ASC_app (ASC_dg h2) (ASC_app (ASC_one (c := 47) (by omega)) (ASC_app (ASC_dg h3) (ASC_app (ASC_opt (x := 43) h4 (by omega)) (ASC_app (ASC_opt (x := 36) h5 (by omega)) (ASC_optO (x := 64) h6 (by omega)))))))
theorem opt_len {g j : Nat} {x : Int32} (h : g < 10 ^ j) (hj : 1 ≤ j) : (opt g x).length ≤ j + 1 := by
  unfold opt
  split
  · rw [List.length_cons]; have := dg_lenj h hj; omega
  · simp
theorem wa_len {sh : Int32} {w rr g c : Nat} {o : Option Nat} (h2 : w ≤ 100) (h3 : rr ≤ 50) (h4 : g ≤ 10) (h5 : c < 10 ^ 7) (h6 : ∀ q, o = some q → q < 10) : (waT sh w rr g c o).length ≤ 30 := by
  unfold waT
  simp only [List.length_append, List.length_cons, List.length_nil]
  have a := dg_lenj (v := w) (j := 3) (by omega) (by omega)
  have b := dg_lenj (v := rr) (j := 2) (by omega) (by omega)
  have d := opt_len (g := g) (j := 2) (x := 43) (by omega) (by omega)
  have e := opt_len (g := c) (j := 7) (x := 36) h5 (by omega)
  have f : (optO o 64).length ≤ 2 := by
    unfold optO
    cases o with
    | none => simp
    | some q =>
      rw [List.length_cons]
      have := dg_lenj (v := q) (j := 1) (by have := h6 q rfl; omega) (by omega)
      omega
  omega
section
variable {B : Bd} {s : Nat → Int32} {k p : Nat} {g : Nat → Nat}
theorem wa_eq (h : CP B s k p g) {i : Nat} (hi : i < k) (w rr gg c : Nat) : waT (sl s (g i) 1) w rr gg c (fwM s p (g i)) = waT (B 3 i) w rr gg c (if waB B i = true then none else some (qB B i)) := by
  rw [(CP_sl h hi).2.1, Q_fw h hi]; rfl
theorem wpo_eq (h : CP B s k p g) {q : Nat} (hq : q < p) : wpo s q = cpo B k q := by
  unfold wpo cpo
  congr 1
  cases e : fh B k (nI q) with
  | none => rw [poq_n h hq e]; rfl
  | some i =>
    have hi := (fst_some e).1
    have hgi := IJ_lt (CP_g h) hi
    have h0 : ¬ nI (g i + 1) = 0 := fun hh => by have := nI_inj (y := 0) (by omega) (by omega) hh; omega
    rw [poq_s h hq e, if_neg h0, nI_pred, nI_clamp (by omega), Q_id h hi]
theorem wp_eq (h : CP B s k p g) : ∀ q, q ≤ p → wpT s q = cpT B k q := by
  intro q
  induction q with
  | zero => intro _; rfl
  | succ q ih => intro hq; rw [wpT, cpT, ih (by omega), wpo_eq h (by omega)]
theorem id_C (h : CP B s k p g) {C : Nat} (hC : CB B k C) (hl : C < 1000000000) {i : Nat} (hi : i < k) : ∃ x, x < C ∧ B 2 i = nI x := by
  obtain ⟨nid, b1, b2, b3⟩ := h.1.2.1.1
  obtain ⟨⟨nid', c1, c2⟩, _⟩ := hC
  rw [b2] at c2
  have := nI_inj (by omega) (by omega) c2
  obtain ⟨x, hx, e⟩ := b3 i hi
  exact ⟨x, by omega, e⟩
theorem cp_asc (h : CP B s k p g) {C : Nat} (hC : CB B k C) (hl : C < 10 ^ 7) : ∀ q, q ≤ p → ASC (cpT B k q) ∧ (cpT B k q).length ≤ 8 * q := by
  intro q
  induction q with
  | zero => intro _; exact ⟨ASC_nil, by simp [cpT]⟩
  | succ q ih =>
    intro hq
    obtain ⟨i1, i2⟩ := ih (by omega)
    have h1 : ASC (if q = 0 then [] else [32]) ∧ (if q = 0 then [] else [(32 : Int32)]).length ≤ 1 := by
      split
      · exact ⟨ASC_nil, by simp⟩
      · exact ⟨ASC_one (c := 32) (by omega), by simp⟩
    have h3 : ASC (cpo B k q) ∧ (cpo B k q).length ≤ 8 := by
      unfold cpo
      have a := h1.2
      cases e : fh B k (nI q) with
      | none =>
        refine ⟨ASC_app h1.1 (ASC_one (c := 45) (by omega)), ?_⟩
        rw [List.length_append]
        show _ + 1 ≤ 8
        omega
      | some i =>
        obtain ⟨x, hx, ex⟩ := id_C h hC (by omega) (fst_some e).1
        show ASC ((if q = 0 then [] else [32]) ++ dg (B 2 i).toNatClampNeg) ∧ ((if q = 0 then [] else [32]) ++ dg (B 2 i).toNatClampNeg).length ≤ 8
        rw [ex, nI_clamp (by omega)]
        refine ⟨ASC_app h1.1 (ASC_dg (by omega)), ?_⟩
        rw [List.length_append]
        have := dg_lenj (v := x) (j := 7) (by omega) (by omega)
        omega
    rw [cpT]
    refine ⟨ASC_app i1 h3.1, ?_⟩
    rw [List.length_append]
    have b := h3.2
    omega
end
theorem c16_asc : ∀ c, c < 128 → c16 (nI c) = nI c := by decide +kernel
theorem out_wr {D : Bd} {l : List Int32} (h : ASC l) : wrL (ud (ud D 0 6 0) 0 8 0) 0 l 0 8 = nI l.length ∧ (∀ i, i < l.length → ∃ c, c < 128 ∧ l.getD i 0 = nI c ∧ wrL (ud (ud D 0 6 0) 0 8 0) 0 l 5 i = nI c) ∧ (∀ i, i ≠ 6 → i ≠ 8 → wrL (ud (ud D 0 6 0) 0 8 0) 0 l 0 i = D 0 i) ∧ (∀ c, c ≠ 0 → c ≠ 5 → wrL (ud (ud D 0 6 0) 0 8 0) 0 l c = D c) ∧ wrL (ud (ud D 0 6 0) 0 8 0) 0 l 0 6 = 0 := by
  refine ⟨?_, fun i hi => ?_, fun i h6 h8 => ?_, fun c h0 h5 => ?_, ?_⟩
  · have := wrL_08 l (ud (ud D 0 6 0) 0 8 0) 0 (by rw [ud_eq]; rfl)
    rw [Nat.zero_add] at this; exact this
  · obtain ⟨c, h1, h2⟩ := h i hi
    have := wrL_at l (ud (ud D 0 6 0) 0 8 0) 0 i hi
    rw [Nat.zero_add, h2, c16_asc c h1] at this
    exact ⟨c, h1, h2, this⟩
  · rw [wrL_0 l h8, ud_ni h8, ud_ni h6]
  · rw [wrL_c l h0 h5, ud_nc h0, ud_nc h0]
  · rw [wrL_0 l (by omega), ud_ni (by omega), ud_eq]
