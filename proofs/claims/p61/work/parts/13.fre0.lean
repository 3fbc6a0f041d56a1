/-! CELLS OUTSIDE THE PICTURE. -/
def FR (A q : Nat) : Prop := A + 169 ≤ q ∨ q = ad A 11 9 ∨ q = ad A 11 10
theorem FR_0 {A q : Nat} (h : FR A q) (hr : A ≤ q ∧ q < A + 169) : ∀ (m : Mm), cel A (lob (q - A)) (loc (q - A)) (m (lob (q - A)) (loc (q - A))) = none := by
  intro m
  rcases h with h | h | h
  · omega
  · subst h
    have e : ad A 11 9 - A = pos 11 9 := by unfold ad; omega
    rw [e, lob_pos (Or.inr (Or.inl ⟨rfl, by omega⟩)), loc_pos (Or.inr (Or.inl ⟨rfl, by omega⟩))]; rfl
  · subst h
    have e : ad A 11 10 - A = pos 11 10 := by unfold ad; omega
    rw [e, lob_pos (Or.inr (Or.inl ⟨rfl, by omega⟩)), loc_pos (Or.inr (Or.inl ⟨rfl, by omega⟩))]; rfl
theorem S_fr {A q : Nat} (h : FR A q) (H : Hp) (m : Mm) (n r : Nat) : (S A H m n r).1 q = H q := by
  show (if A ≤ q ∧ q < A + 169 then _ else _) = _
  by_cases hr : A ≤ q ∧ q < A + 169
  · rw [if_pos hr, FR_0 h hr]
  · rw [if_neg hr]
theorem S_frw {A q : Nat} (h : FR A q) (H : Hp) (m : Mm) (n r : Nat) (c : Cel) : wset (S A H m n r) q c = S A (hset H q c) m n r := by
  refine Prod.ext ?_ rfl
  funext x
  show (if x = q then some c else (S A H m n r).1 x) = (if A ≤ x ∧ x < A + 169 then _ else _)
  by_cases hx : x = q
  · subst hx
    rw [if_pos rfl]
    by_cases hr : A ≤ x ∧ x < A + 169
    · rw [if_pos hr, FR_0 h hr]; simp [hset]
    · rw [if_neg hr]; simp [hset]
  · rw [if_neg hx]
    show (if A ≤ x ∧ x < A + 169 then _ else _) = _
    have e : hset H q c x = H x := if_neg hx
    rw [e]
theorem wall_S {A n : Nat} (h : A + 169 ≤ n) (H : Hp) (m : Mm) (r k : Nat) (c : Cel) : wall (S A H m n r) c k = S A (hset H n c) m (n + 1) (r + k) := by
  have := congrArg Prod.fst (S_frw (A := A) (q := n) (Or.inl h) H m n r c)
  exact Prod.ext this rfl
theorem hset_hset (H : Hp) (q : Nat) (c c' : Cel) : hset (hset H q c) q c' = hset H q c' := by
  funext x; unfold hset; by_cases h : x = q <;> simp [h]
theorem hset_at (H : Hp) (q : Nat) (c : Cel) : hset H q c q = some c := if_pos rfl
theorem hset_ne {H : Hp} {q x : Nat} {c : Cel} (h : x ≠ q) : hset H q c x = H x := if_neg h
section
variable {A n r q : Nat} {H : Hp} {m : Mm}
theorem xaI (h : FR A q) {t : FieldType} {l : Nat} {F : Nat → Int32} (hc : H q = some (ar t l F)) {ok : FieldType → Bool} (ho : ok t = true) {i : Nat} (hi : i < l) (hl : l < 2 ^ 31) : aI (S A H m n r) ok q (nI i) = some (vp_nar t (F i)) := by
  unfold aI aV aL; rw [S_fr h, hc]
  simp only [ar, ho, if_true, Option.bind_some]
  rw [if_neg (nI_pos (by omega)), nI_clamp (by omega)]
  simp [hi]
theorem xaW (h : FR A q) {t : FieldType} {l : Nat} {F : Nat → Int32} (hc : H q = some (ar t l F)) {ok : FieldType → Bool} (ho : ok t = true) {i : Nat} {v : Int32} (hi : i < l) (hl : l < 2 ^ 31) (hv : narrow t (.int v) = .int (vp_nar t v)) : aW (S A H m n r) ok q (nI i) (.int v) = some (S A (hset H q (ar t l (fun j => if j = i then v else F j))) m n r) := by
  unfold aW; rw [S_fr h, hc]
  simp only [ar]
  rw [if_pos ⟨ho, nI_pos (by omega), by simp only [List.length_map, List.length_range]; rw [nI_clamp (by omega)]; exact hi⟩, nI_clamp (by omega), ar_set t l i _ v hv]
  exact congrArg some (S_frw h ..)
theorem xaN (h : FR A q) {t : FieldType} {l : Nat} {F : Nat → Int32} (hc : H q = some (ar t l F)) : aN (S A H m n r) q = some (nI l) := by
  unfold aN; rw [S_fr h, hc]
  simp only [ar, List.length_map, List.length_range]; rfl
end
