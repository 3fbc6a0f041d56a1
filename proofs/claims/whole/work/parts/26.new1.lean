/-! THE FIRST STATE of the law. -/
def H1 (A : Nat) (H0 : Hp) : Hp := HL A H0 (fullC A ++ [.inl (.long, true, List.replicate 1 (.long 0)), .inl (.double, true, List.replicate 1 (.double 0))])
section
variable {G : Glb} {A r : Nat} {H0 : Hp}
theorem new0 (d a0 : Nat) (hk : G 8 18 = some (.int 1)) : call G (d + 3) 0 [.ref a0] (H0, A, r) = run G (d + 3) 0 28 [some (.ref a0), some (.ref A), some (.ref (ad A 12 0)), some (.ref (A + 177)), some (.ref (A + 178)), some (.int 0), none, none, none] [] (S A (H1 A H0) m0 (A + 179) (r + 2995)) := by
  rw [b0_e, ← LSt_nil A H0 r, LSt_wall]
  have hx : A = A + (([] : List Cel).length + 0) := rfl
  show (cV (call G (d + 2) 44 [.ref A] (LSt A H0 [.inr (5, [.null, .null, .null, .null, .int 0, .int 0, .null, .null, .null, .int 0, .int 0])] (r + 11))) _) = _
  rw [s44 d hk]
  have t1 : (LSt A H0 (allC A 8) (r + 11 + 1492)).2.1 = A + 169 := by rw [LSt_top, allC_len]
  show (cV (call G (d + 2) 188 [.ref (LSt A H0 (allC A 8) (r + 11 + 1492)).2.1] (wall (LSt A H0 (allC A 8) (r + 11 + 1492)) _ _)) _) = _
  rw [t1, LSt_wall, s188 (d + 2) (a := A + 169) (by rw [allC_len])]
  have hf : allC A 8 ++ moC (A + 169) (.inr (6, [.ref (A + 169 + 1), .ref (A + 169 + 2), .ref (A + 169 + 3), .int 0, .ref (A + 169 + 4), .int 0, .int 0, .ref (A + 169 + 5), .int 0, .ref (A + 169 + 6), .int 0, .int 0, .int 0, .int (-1), .int (-1), .ref (A + 169 + 7), .int 0])) = fullC A := rfl
  rw [hf]
  have t2 : ∀ r, (LSt A H0 (fullC A) r).2.1 = A + 177 := fun r => by rw [LSt_top, fullC_len]
  show (run G (d + 3) 0 28 [some (.ref a0), some (.ref A), some (.ref (A + 169)), some (.ref (LSt A H0 (fullC A) _).2.1), some (.ref (wall (LSt A H0 (fullC A) _) _ _).2.1), some (.int 0), none, none, none] [] (wall (wall (LSt A H0 (fullC A) _) _ _) _ _)) = _
  rw [t2, LSt_wall, LSt_wall, LSt_top, List.length_append, fullC_len]
  have ix2 : ∀ {l t : List Cel} {j : Nat}, j < l.length → (l ++ t)[j]? = l[j]? := fun h => List.getElem?_append_left h
  rw [List.append_assoc, LSt_S (m := m0) (by rw [List.length_append, fullC_len]; omega) (fun k hk2 c hc => by rw [ix2 (by rw [fullC_len]; exact hk2)]; exact pic0 A k hk2 c hc), List.length_append, fullC_len]
  rfl
end
