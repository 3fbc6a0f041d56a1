/-! NEW OBJECTS: the cells as the constructors lay them. -/
def HL (A : Nat) (H0 : Hp) (l : List Cel) : Hp := fun q => if A ≤ q ∧ q < A + l.length then l[q - A]? else H0 q
def LS (A : Nat) (H0 : Hp) (l : List Cel) (r : Nat) : St := (HL A H0 l, A + l.length, r)
theorem LS_nil (A : Nat) (H0 : Hp) (r : Nat) : LS A H0 [] r = (H0, A, r) := by
  refine Prod.ext ?_ rfl
  funext q
  show (if A ≤ q ∧ q < A + 0 then _ else H0 q) = H0 q
  rw [if_neg (by omega)]
theorem LS_wall (A : Nat) (H0 : Hp) (l : List Cel) (r : Nat) (c : Cel) (k : Nat) : wall (LS A H0 l r) c k = LS A H0 (l ++ [c]) (r + k) := by
  refine Prod.ext ?_ (Prod.ext ?_ rfl)
  · funext q
    show (if q = A + l.length then some c else HL A H0 l q) = HL A H0 (l ++ [c]) q
    unfold HL
    rw [List.length_append, List.length_singleton]
    by_cases h : q = A + l.length
    · rw [if_pos h, if_pos (by omega), List.getElem?_append_right (by omega), show q - A - l.length = 0 by omega]; rfl
    · rw [if_neg h]
      by_cases h2 : A ≤ q ∧ q < A + l.length
      · rw [if_pos h2, if_pos (by omega), List.getElem?_append_left (by omega)]
      · rw [if_neg h2, if_neg (by omega)]
  · show A + l.length + 1 = A + (l ++ [c]).length
    rw [List.length_append, List.length_singleton]; omega
theorem LS_at {A : Nat} {H0 : Hp} {l : List Cel} {r k : Nat} {c : Cel} (h : l[k]? = some c) : (LS A H0 l r).1 (A + k) = some c := by
  have hk : k < l.length := by
    refine Classical.byContradiction fun hh => ?_
    rw [List.getElem?_eq_none (by omega)] at h; cases h
  show (if A ≤ A + k ∧ A + k < A + l.length then l[A + k - A]? else _) = _
  rw [if_pos (by omega), show A + k - A = k by omega]; exact h
theorem LS_wset {A : Nat} {H0 : Hp} {l : List Cel} {r k : Nat} (hk : k < l.length) (c : Cel) : wset (LS A H0 l r) (A + k) c = LS A H0 (l.set k c) r := by
  refine Prod.ext ?_ (Prod.ext ?_ rfl)
  · funext q
    show (if q = A + k then some c else HL A H0 l q) = HL A H0 (l.set k c) q
    unfold HL
    rw [List.length_set]
    by_cases h : q = A + k
    · rw [if_pos h, if_pos (by omega), show q - A = k by omega, List.getElem?_set_self hk]
    · rw [if_neg h]
      by_cases h2 : A ≤ q ∧ q < A + l.length
      · rw [if_pos h2, if_pos h2, List.getElem?_set_ne (by omega)]
      · rw [if_neg h2, if_neg h2]
  · show A + l.length = A + (l.set k c).length
    rw [List.length_set]
theorem LS_fW {A : Nat} {H0 : Hp} {l : List Cel} {r k ci i : Nat} {fs : List Value} (h : l[k]? = some (.inr (ci, fs))) (hi : i < fs.length) (v : Value) {β : Type} (K : St → Option β) : (fW (LS A H0 l r) (A + k) ci i v).bind K = K (LS A H0 (l.set k (.inr (ci, fs.set i v))) r) := by
  have hk : k < l.length := by
    refine Classical.byContradiction fun hh => ?_
    rw [List.getElem?_eq_none (by omega)] at h; cases h
  unfold fW; rw [LS_at h]
  simp only [true_and, if_pos hi]
  rw [LS_wset hk]; rfl
theorem LS_rcv {A : Nat} {H0 : Hp} {l : List Cel} {r k ci : Nat} {fs : List Value} (h : l[k]? = some (.inr (ci, fs))) : rcv (LS A H0 l r) (A + k) ci = true := by
  unfold rcv; rw [LS_at h]; simp
theorem LS_top (A : Nat) (H0 : Hp) (l : List Cel) (r : Nat) : (LS A H0 l r).2.1 = A + l.length := rfl
theorem app_at {l : List Cel} {t : List Cel} (j : Nat) : (l ++ t)[l.length + j]? = t[j]? := by
  rw [List.getElem?_append_right (by omega), show l.length + j - l.length = j by omega]
theorem app_set {l : List Cel} {t : List Cel} (j : Nat) (c : Cel) : (l ++ t).set (l.length + j) c = l ++ t.set j c := by
  rw [List.set_append_right _ _ (by omega), show l.length + j - l.length = j by omega]
/-- a field of an object of the last cells -/
theorem LA_fW {A : Nat} {H0 : Hp} {l t : List Cel} {r j ci i : Nat} {fs : List Value} (h : t[j]? = some (.inr (ci, fs))) (hi : i < fs.length) (v : Value) {β : Type} (K : St → Option β) : (fW (LS A H0 (l ++ t) r) (A + (l.length + j)) ci i v).bind K = K (LS A H0 (l ++ t.set j (.inr (ci, fs.set i v))) r) := by
  rw [LS_fW (l := l ++ t) (k := l.length + j) (by rw [app_at]; exact h) hi, app_set]
def iz (k : Nat) : Cel := .inl (.int, true, List.replicate k (.int 0))
def cz (k : Nat) : Cel := .inl (.char, true, List.replicate k (.int 0))
def bz (k : Nat) : Cel := .inl (.boolean, true, List.replicate k (.int 0))
def apC (a : Nat) : List Cel := [.inr (0, [.int 0, .int 0, .ref (a + 1), .ref (a + 2), .ref (a + 3), .ref (a + 4), .ref (a + 5), .ref (a + 6), .ref (a + 7)]), iz 10, cz 10, iz 10, iz 10, iz 10, iz 10, iz 10]
def poC (a : Nat) : List Cel := [.inr (4, [.int 0, .ref (a + 1), .ref (a + 2), .ref (a + 3), .ref (a + 4)]), cz 6, iz 6, iz 6, iz 6]
def bdC (a : Nat) : List Cel := [.inr (1, [.ref (a + 1), .ref (a + 9), .int 0])] ++ (apC (a + 1) ++ poC (a + 9))
theorem LS_tp (A : Nat) (H0 : Hp) (l t : List Cel) (r k : Nat) (h : t.length = k) : (LS A H0 (l ++ t) r).2.1 = A + (l.length + k) := by
  show A + (l ++ t).length = _
  rw [List.length_append, h]
section
variable {G : Glb} {A r : Nat} {H0 : Hp} {l : List Cel}
theorem s117 (d : Nat) : call G d 117 [.ref (A + (l.length + 0))] (LS A H0 (l ++ [.inr (0, [.int 0, .int 0, .null, .null, .null, .null, .null, .null, .null])]) r) = vV (LS A H0 (l ++ apC (A + (l.length + 0))) (r + 70)) := by
  have ap : ∀ (t : List Cel) (c : Cel), l ++ t ++ [c] = l ++ (t ++ [c]) := fun t c => List.append_assoc ..
  rw [b117_e]
  rw [LA_fW (j := 0) rfl (by decide), LA_fW (j := 0) rfl (by decide)]
  rw [LS_wall, ap, LS_tp _ _ _ _ _ 1 rfl, LA_fW (j := 0) rfl (by decide)]
  rw [LS_wall, ap, LS_tp _ _ _ _ _ 2 rfl, LA_fW (j := 0) rfl (by decide)]
  rw [LS_wall, ap, LS_tp _ _ _ _ _ 3 rfl, LA_fW (j := 0) rfl (by decide)]
  rw [LS_wall, ap, LS_tp _ _ _ _ _ 4 rfl, LA_fW (j := 0) rfl (by decide)]
  rw [LS_wall, ap, LS_tp _ _ _ _ _ 5 rfl, LA_fW (j := 0) rfl (by decide)]
  rw [LS_wall, ap, LS_tp _ _ _ _ _ 6 rfl, LA_fW (j := 0) rfl (by decide)]
  rw [LS_wall, ap, LS_tp _ _ _ _ _ 7 rfl, LA_fW (j := 0) rfl (by decide)]
  rfl
theorem s117c (d : Nat) (K : St → Res) : cV (call G d 117 [.ref (A + (l.length + 0))] (LS A H0 (l ++ [.inr (0, [.int 0, .int 0, .null, .null, .null, .null, .null, .null, .null])]) r)) K = K (LS A H0 (l ++ apC (A + (l.length + 0))) (r + 70)) := congrArg (fun z => cV z K) (show call G d 117 [.ref (A + (l.length + 0))] (LS A H0 (l ++ [.inr (0, [.int 0, .int 0, .null, .null, .null, .null, .null, .null, .null])]) r) = vV (LS A H0 (l ++ apC (A + (l.length + 0))) (r + 70)) from by apply s117 <;> assumption)
theorem s182 (d : Nat) : call G d 182 [.ref (A + (l.length + 0))] (LS A H0 (l ++ [.inr (4, [.int 0, .null, .null, .null, .null])]) r) = vV (LS A H0 (l ++ poC (A + (l.length + 0))) (r + 24)) := by
  have ap : ∀ (t : List Cel) (c : Cel), l ++ t ++ [c] = l ++ (t ++ [c]) := fun t c => List.append_assoc ..
  rw [b182_e]
  rw [LA_fW (j := 0) rfl (by decide)]
  rw [LS_wall, ap, LS_tp _ _ _ _ _ 1 rfl, LA_fW (j := 0) rfl (by decide)]
  rw [LS_wall, ap, LS_tp _ _ _ _ _ 2 rfl, LA_fW (j := 0) rfl (by decide)]
  rw [LS_wall, ap, LS_tp _ _ _ _ _ 3 rfl, LA_fW (j := 0) rfl (by decide)]
  rw [LS_wall, ap, LS_tp _ _ _ _ _ 4 rfl, LA_fW (j := 0) rfl (by decide)]
  rfl
theorem s182c (d : Nat) (K : St → Res) : cV (call G d 182 [.ref (A + (l.length + 0))] (LS A H0 (l ++ [.inr (4, [.int 0, .null, .null, .null, .null])]) r)) K = K (LS A H0 (l ++ poC (A + (l.length + 0))) (r + 24)) := congrArg (fun z => cV z K) (show call G d 182 [.ref (A + (l.length + 0))] (LS A H0 (l ++ [.inr (4, [.int 0, .null, .null, .null, .null])]) r) = vV (LS A H0 (l ++ poC (A + (l.length + 0))) (r + 24)) from by apply s182 <;> assumption)
end
