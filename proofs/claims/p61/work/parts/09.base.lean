/-! THE PICTURE: the cells of the class and of the model over numbers (printed by wip/whole/gen_base.py) -/
abbrev Bd : Type := Nat → Nat → Int32
abbrev Mm : Type := Nat → Bd
def pos (b c : Nat) : Nat := if b < 3 then 1 + 14 * b + c else if b < 11 then 57 + 14 * (b - 3) + c else if b = 11 then (if c = 0 then 0 else 42 + c) else 169 + c
def lob (k : Nat) : Nat := if k = 0 then 11 else if k < 43 then (k - 1) / 14 else if k < 57 then 11 else if k < 169 then 3 + (k - 57) / 14 else 12
def loc (k : Nat) : Nat := if k = 0 then 0 else if k < 43 then (k - 1) % 14 else if k < 57 then k - 42 else if k < 169 then (k - 57) % 14 else k - 169
def VC (b c : Nat) : Prop := (b < 11 ∧ c < 14) ∨ (b = 11 ∧ c < 15) ∨ (b = 12 ∧ c < 0)
theorem pos_lt {b c : Nat} (h : VC b c) : pos b c < 169 := by
  unfold VC at h; unfold pos; repeat' split
  all_goals omega
theorem lob_pos {b c : Nat} (h : VC b c) : lob (pos b c) = b := by
  unfold VC at h; unfold pos lob; repeat' split
  all_goals omega
theorem loc_pos {b c : Nat} (h : VC b c) : loc (pos b c) = c := by
  unfold VC at h; unfold pos loc; repeat' split
  all_goals omega
theorem pos_loc {k : Nat} (h : k < 169) : pos (lob k) (loc k) = k := by
  unfold lob loc; repeat' split
  all_goals (unfold pos; repeat' split)
  all_goals omega
def ad (A b c : Nat) : Nat := A + pos b c
def ar (t : FieldType) (n : Nat) (f : Nat → Int32) : Cel := .inl (t, true, (List.range n).map fun i => .int (vp_nar t (f i)))
def bcl (A b : Nat) (f : Nat → Int32) : Nat → Option Cel
  | 0 => some (.inr (1, [.ref (ad A b 1), .ref (ad A b 9), .int (f 2)]))
  | 1 => some (.inr (0, [.int (f 0), .int (f 1), .ref (ad A b 2), .ref (ad A b 3), .ref (ad A b 4), .ref (ad A b 5), .ref (ad A b 6), .ref (ad A b 7), .ref (ad A b 8)]))
  | 2 => some (ar .int 10 f)
  | 3 => some (ar .char 10 f)
  | 4 => some (ar .int 10 f)
  | 5 => some (ar .int 10 f)
  | 6 => some (ar .int 10 f)
  | 7 => some (ar .int 10 f)
  | 8 => some (ar .int 10 f)
  | 9 => some (.inr (4, [.int (f 0), .ref (ad A b 10), .ref (ad A b 11), .ref (ad A b 12), .ref (ad A b 13)]))
  | 10 => some (ar .char 6 f)
  | 11 => some (ar .int 6 f)
  | 12 => some (ar .int 6 f)
  | 13 => some (ar .int 6 f)
  | _ => none
def xcl (A : Nat) (f : Nat → Int32) : Nat → Option Cel
  | 0 => some (.inr (5, [.ref (ad A 0 0), .ref (ad A 1 0), .ref (ad A 2 0), .ref (ad A 11 1), .int (f 4), .int (f 5), .ref (ad A 11 2), .ref (ad A 11 9), .ref (ad A 11 11), .int (f 9), .int (f 10)]))
  | 2 => some (.inr (3, [.ref (ad A 11 3), .ref (ad A 11 4), .ref (ad A 11 5), .ref (ad A 11 6), .ref (ad A 11 7), .ref (ad A 11 8)]))
  | 3 => some (ar .int 6 f)
  | 4 => some (ar .int 10 f)
  | 5 => some (ar .int 10 f)
  | 6 => some (ar .boolean 10 f)
  | 7 => some (ar .boolean 64 f)
  | 8 => some (ar .int 6 f)
  | 11 => some (.inr (2, [.ref (ad A 11 12), .int (f 1), .ref (ad A 11 13), .int (f 3), .int (f 4), .int (f 5), .ref (ad A 11 14), .int (f 7)]))
  | 12 => some (ar .char 60 f)
  | 13 => some (ar .int 60 f)
  | 14 => some (ar .int 3 f)
  | 1 => some (.inl (.object "CloudInterviews$Board", true, (List.range 8).map fun i => .ref (ad A (f i).toNatClampNeg 0)))
  | _ => none
def mcl (A : Nat) (f : Nat → Int32) : Nat → Option Cel
  | _ => none
def cel (A b c : Nat) (f : Nat → Int32) : Option Cel := if b < 11 then bcl A b f c else if b = 11 then xcl A f c else mcl A f c
def S (A : Nat) (H : Hp) (m : Mm) (n r : Nat) : St := (fun q => if A ≤ q ∧ q < A + 169 then (match cel A (lob (q - A)) (loc (q - A)) (m (lob (q - A)) (loc (q - A))) with
  | some c => some c
  | none => H q) else H q, n, r)
theorem S_at {A : Nat} {H : Hp} {m : Mm} {n r b c : Nat} {x : Cel} (h : VC b c) (hc : cel A b c (m b c) = some x) : (S A H m n r).1 (ad A b c) = some x := by
  have hp := pos_lt h
  show (if A ≤ ad A b c ∧ ad A b c < A + 169 then _ else _) = _
  have e : ad A b c - A = pos b c := by unfold ad; omega
  rw [if_pos (by unfold ad; omega), e, lob_pos h, loc_pos h, hc]
def us (B : Bd) (c : Nat) (f : Nat → Int32) : Bd := fun c' => if c' = c then f else B c'
def ud (B : Bd) (c i : Nat) (v : Int32) : Bd := us B c (fun j => if j = i then v else B c j)
def sb (m : Mm) (b : Nat) (B : Bd) : Mm := fun b' => if b' = b then B else m b'
theorem sb_eq (m : Mm) (b : Nat) (B : Bd) : sb m b B b = B := if_pos rfl
theorem sb_ne {m : Mm} {b b' : Nat} {B : Bd} (h : b' ≠ b) : sb m b B b' = m b' := if_neg h
theorem sb_sb (m : Mm) (b : Nat) (B B' : Bd) : sb (sb m b B) b B' = sb m b B' := by
  funext x; unfold sb; by_cases h : x = b <;> simp [h]
theorem sb_self (m : Mm) (b : Nat) : sb m b (m b) = m := by
  funext x; unfold sb; by_cases h : x = b <;> simp [h]
theorem us_eq (B : Bd) (c : Nat) (f : Nat → Int32) : us B c f c = f := if_pos rfl
theorem us_ne {B : Bd} {c c' : Nat} {f : Nat → Int32} (h : c' ≠ c) : us B c f c' = B c' := if_neg h
theorem us_us (B : Bd) (c : Nat) (f g : Nat → Int32) : us (us B c f) c g = us B c g := by
  funext x; unfold us; by_cases h : x = c <;> simp [h]
theorem us_self (B : Bd) (c : Nat) : us B c (B c) = B := by
  funext x; unfold us; by_cases h : x = c <;> simp [h]
theorem ud_eq (B : Bd) (c i : Nat) (v : Int32) : ud B c i v c i = v := by unfold ud; rw [us_eq]; exact if_pos rfl
theorem ud_ni {B : Bd} {c i j : Nat} {v : Int32} (h : j ≠ i) : ud B c i v c j = B c j := by unfold ud; rw [us_eq]; exact if_neg h
theorem ud_nc {B : Bd} {c c' i : Nat} {v : Int32} (h : c' ≠ c) : ud B c i v c' = B c' := us_ne h
theorem sb_comm {m : Mm} {b b' : Nat} {B B' : Bd} (h : b ≠ b') : sb (sb m b B) b' B' = sb (sb m b' B') b B := by
  funext x; unfold sb; by_cases h1 : x = b <;> by_cases h2 : x = b' <;> simp [h1, h2] <;> omega
theorem S_wr {A : Nat} {H : Hp} {m : Mm} {n r b c : Nat} {x : Cel} {f : Nat → Int32} (h : VC b c) (hc : cel A b c f = some x) : wset (S A H m n r) (ad A b c) x = S A H (sb m b (us (m b) c f)) n r := by
  have hp := pos_lt h
  refine Prod.ext ?_ rfl
  funext q
  show (if q = ad A b c then some x else (S A H m n r).1 q) = (S A H (sb m b (us (m b) c f)) n r).1 q
  by_cases hq : q = ad A b c
  · rw [if_pos hq, hq, S_at h (by rw [sb_eq, us_eq]; exact hc)]
  · rw [if_neg hq]
    show (if A ≤ q ∧ q < A + 169 then _ else _) = (if A ≤ q ∧ q < A + 169 then _ else _)
    by_cases hr : A ≤ q ∧ q < A + 169
    · rw [if_pos hr, if_pos hr]
      have hk : q - A < 169 := by omega
      have e := pos_loc hk
      have hne : ¬ (lob (q - A) = b ∧ loc (q - A) = c) := by
        rintro ⟨h1, h2⟩
        rw [h1, h2] at e
        exact hq (by unfold ad; omega)
      have : sb m b (us (m b) c f) (lob (q - A)) (loc (q - A)) = m (lob (q - A)) (loc (q - A)) := by
        by_cases h1 : lob (q - A) = b
        · rw [h1, sb_eq, us_ne (fun h2 => hne ⟨h1, h2⟩)]
        · rw [sb_ne h1]
      rw [this]
    · rw [if_neg hr, if_neg hr]
theorem wexc_S (A : Nat) (H : Hp) (m : Mm) (n r : Nat) : wexc (S A H m n r) = S A H m (n + 1) (r + 6) := rfl
theorem cel_b {A b : Nat} (h : b < 11) (c : Nat) (f : Nat → Int32) : cel A b c f = bcl A b f c := if_pos h
theorem cel_x (A c : Nat) (f : Nat → Int32) : cel A 11 c f = xcl A f c := rfl
theorem cel_m (A c : Nat) (f : Nat → Int32) : cel A 12 c f = mcl A f c := rfl
-- fields
section
variable {A b c n r ci k : Nat} {H : Hp} {m : Mm} {fs : List Value}
theorem gfI (h : VC b c) (hc : cel A b c (m b c) = some (.inr (ci, fs))) {x : Int32} (hk : fs[k]? = some (.int x)) : fI (S A H m n r) (ad A b c) ci k = some x := by
  unfold fI fV; rw [S_at h hc]; simp only [if_true, hk]
theorem gfR (h : VC b c) (hc : cel A b c (m b c) = some (.inr (ci, fs))) {x : Nat} (hk : fs[k]? = some (.ref x)) : fR (S A H m n r) (ad A b c) ci k = some x := by
  unfold fR fV; rw [S_at h hc]; simp only [if_true, hk]
theorem gfW (h : VC b c) (hc : cel A b c (m b c) = some (.inr (ci, fs))) {v : Value} (hk : k < fs.length) {f : Nat → Int32} (h2 : cel A b c f = some (.inr (ci, fs.set k v))) : fW (S A H m n r) (ad A b c) ci k v = some (S A H (sb m b (us (m b) c f)) n r) := by
  unfold fW; rw [S_at h hc]; simp only [true_and, if_pos hk]; rw [S_wr h h2]
theorem grc (h : VC b c) (hc : cel A b c (m b c) = some (.inr (ci, fs))) : rcv (S A H m n r) (ad A b c) ci = true := by
  unfold rcv; rw [S_at h hc]; simp
theorem ar_set (t : FieldType) (n i : Nat) (f : Nat → Int32) (v : Int32) (hv : narrow t (.int v) = .int (vp_nar t v)) : ((List.range n).map fun i => Value.int (vp_nar t (f i))).set i (narrow t (.int v)) = (List.range n).map fun j => Value.int (vp_nar t (if j = i then v else f j)) := by
  rw [hv]
  apply List.ext_getElem?
  intro j
  rw [List.getElem?_set]
  by_cases e : i = j
  · subst e
    by_cases hj : i < n <;> simp [hj]
  · rw [if_neg e]
    by_cases hj : j < n
    · simp [hj, Ne.symm e]
    · simp [hj]
theorem gaI (h : VC b c) {t : FieldType} {l : Nat} (hc : cel A b c (m b c) = some (ar t l (m b c))) {ok : FieldType → Bool} (ho : ok t = true) {x : Int32} {i : Nat} (hx : x = nI i) (hi : i < l) (hl : l < 2 ^ 31) : aI (S A H m n r) ok (ad A b c) x = some (vp_nar t (m b c i)) := by
  subst hx
  unfold aI aV aL; rw [S_at h hc]
  simp only [ar, ho, if_true, Option.bind_some]
  rw [if_neg (nI_pos (by omega)), nI_clamp (by omega)]
  simp [hi]
theorem gaW (h : VC b c) {t : FieldType} {l : Nat} (hc : ∀ f, cel A b c f = some (ar t l f)) {ok : FieldType → Bool} (ho : ok t = true) {x v : Int32} {i : Nat} (hx : x = nI i) (hi : i < l) (hl : l < 2 ^ 31) (hv : narrow t (.int v) = .int (vp_nar t v)) : aW (S A H m n r) ok (ad A b c) x (.int v) = some (S A H (sb m b (ud (m b) c i v)) n r) := by
  subst hx
  unfold aW; rw [S_at h (hc _)]
  simp only [ar]
  rw [if_pos ⟨ho, nI_pos (by omega), by simp only [List.length_map, List.length_range]; rw [nI_clamp (by omega)]; exact hi⟩, nI_clamp (by omega), ar_set t l i _ v hv]
  exact congrArg some (S_wr h (hc _))
theorem gaN (h : VC b c) {t : FieldType} {l : Nat} (hc : cel A b c (m b c) = some (ar t l (m b c))) : aN (S A H m n r) (ad A b c) = some (nI l) := by
  unfold aN; rw [S_at h hc]
  simp only [ar, List.length_map, List.length_range]; rfl
def cpf (f g : Nat → Int32) (sp dp k : Nat) : Nat → Int32 := fun i => if dp ≤ i ∧ i < dp + k then f (i - dp + sp) else g i
theorem cpy_ar (t : FieldType) (la lb sp dp k : Nat) (f g : Nat → Int32) (h1 : sp + k ≤ la) (h2 : dp + k ≤ lb) : cpy ((List.range la).map fun i => Value.int (vp_nar t (f i))) ((List.range lb).map fun i => Value.int (vp_nar t (g i))) sp dp k = (List.range lb).map fun i => Value.int (vp_nar t (cpf f g sp dp k i)) := by
  apply List.ext_getElem?
  intro j
  unfold cpy cpf
  rw [List.getElem?_append, List.getElem?_append]
  simp only [List.length_take, List.length_map, List.length_range, List.length_drop, Nat.min_eq_left (by omega : dp ≤ lb), Nat.min_eq_left (by omega : k ≤ la - sp), List.getElem?_take, List.getElem?_drop, List.getElem?_map]
  by_cases a : j < dp
  · have hj : j < lb := by omega
    have e2 : ¬ (dp ≤ j ∧ j < dp + k) := by omega
    simp [a, hj, e2]
  · by_cases e : j < dp + k
    · have hj : j < lb := by omega
      have h3 : j - dp < k := by omega
      have e2 : dp ≤ j ∧ j < dp + k := by omega
      have h5 : sp + (j - dp) < la := by omega
      have h6 : j - dp + sp < la := by omega
      simp [a, hj, e2, h3, Nat.add_comm sp, h6]
    · have h3 : ¬ j - dp < k := by omega
      have e2 : ¬ (dp ≤ j ∧ j < dp + k) := by omega
      have e3 : dp + k + (j - dp - k) = j := by omega
      simp only [a, h3, e3, e2, if_false]
      by_cases hj : j < lb <;> simp [hj, e2]
theorem gaC {b' c' : Nat} (h : VC b c) (h' : VC b' c') {t : FieldType} {la lb : Nat} (hc : cel A b c (m b c) = some (ar t la (m b c))) (hc' : ∀ f, cel A b' c' f = some (ar t lb f)) (ht : t.isReference = false) {x y z : Int32} {sp dp k : Nat} (hx : x = nI sp) (hy : y = nI dp) (hz : z = nI k) (h1 : sp + k ≤ la) (h2 : dp + k ≤ lb) (hl : la < 2 ^ 31) (hl2 : lb < 2 ^ 31) : aC (S A H m n r) (ad A b c) x (ad A b' c') y z = some (S A H (sb m b' (us (m b') c' (cpf (m b c) (m b' c') sp dp k))) n r) := by
  subst hx hy hz
  unfold aC; rw [S_at h hc, S_at h' (hc' _)]
  simp only [ar]
  rw [nI_clamp (by omega), nI_clamp (by omega), nI_clamp (by omega)]
  rw [if_pos ⟨trivial, ht, nI_pos (by omega), nI_pos (by omega), nI_pos (by omega), by simpa using h1, by simpa using h2⟩, cpy_ar t la lb sp dp k _ _ h1 h2]
  exact congrArg some (S_wr h' (hc' _))
end
theorem vnI (x : Int32) : vp_nar .int x = x := rfl
theorem rcB0 {A b n r : Nat} {H : Hp} {m : Mm} (hb : b < 11) : rcv (S A H m n r) (ad A b 0) 1 = true := grc (Or.inl ⟨hb, by omega⟩) ((cel_b hb 0 _).trans rfl)
theorem rfB0_0 {A b n r : Nat} {H : Hp} {m : Mm} (hb : b < 11) : fR (S A H m n r) (ad A b 0) 1 0 = some (ad A b 1) := gfR (Or.inl ⟨hb, by omega⟩) ((cel_b hb 0 _).trans rfl) rfl
theorem rfB0_0b {A b n r : Nat} {H : Hp} {m : Mm} (hb : b < 11) {β : Type} (K : _ → Option β) : (fR (S A H m n r) (ad A b 0) 1 0).bind K = K (ad A b 1) := by rw [rfB0_0 hb]; rfl
theorem rfB0_1 {A b n r : Nat} {H : Hp} {m : Mm} (hb : b < 11) : fR (S A H m n r) (ad A b 0) 1 1 = some (ad A b 9) := gfR (Or.inl ⟨hb, by omega⟩) ((cel_b hb 0 _).trans rfl) rfl
theorem rfB0_1b {A b n r : Nat} {H : Hp} {m : Mm} (hb : b < 11) {β : Type} (K : _ → Option β) : (fR (S A H m n r) (ad A b 0) 1 1).bind K = K (ad A b 9) := by rw [rfB0_1 hb]; rfl
theorem rfB0_2 {A b n r : Nat} {H : Hp} {m : Mm} (hb : b < 11) : fI (S A H m n r) (ad A b 0) 1 2 = some (m b 0 2) := gfI (Or.inl ⟨hb, by omega⟩) ((cel_b hb 0 _).trans rfl) rfl
theorem rfB0_2b {A b n r : Nat} {H : Hp} {m : Mm} (hb : b < 11) {β : Type} (K : _ → Option β) : (fI (S A H m n r) (ad A b 0) 1 2).bind K = K (m b 0 2) := by rw [rfB0_2 hb]; rfl
theorem wfB0_2 {A b n r : Nat} {H : Hp} {m : Mm} (hb : b < 11) {v : Int32} : fW (S A H m n r) (ad A b 0) 1 2 (.int v) = some (S A H (sb m b (ud (m b) 0 2 v)) n r) := gfW (Or.inl ⟨hb, by omega⟩) ((cel_b hb 0 _).trans rfl) (by show 2 < 3; omega) ((cel_b hb 0 _).trans rfl)
theorem wfB0_2b {A b n r : Nat} {H : Hp} {m : Mm} (hb : b < 11) {v : Int32} {β : Type} (K : _ → Option β) : (fW (S A H m n r) (ad A b 0) 1 2 (.int v)).bind K = K (S A H (sb m b (ud (m b) 0 2 v)) n r) := by rw [wfB0_2 hb]; rfl
theorem rcB1 {A b n r : Nat} {H : Hp} {m : Mm} (hb : b < 11) : rcv (S A H m n r) (ad A b 1) 0 = true := grc (Or.inl ⟨hb, by omega⟩) ((cel_b hb 1 _).trans rfl)
theorem rfB1_0 {A b n r : Nat} {H : Hp} {m : Mm} (hb : b < 11) : fI (S A H m n r) (ad A b 1) 0 0 = some (m b 1 0) := gfI (Or.inl ⟨hb, by omega⟩) ((cel_b hb 1 _).trans rfl) rfl
theorem rfB1_0b {A b n r : Nat} {H : Hp} {m : Mm} (hb : b < 11) {β : Type} (K : _ → Option β) : (fI (S A H m n r) (ad A b 1) 0 0).bind K = K (m b 1 0) := by rw [rfB1_0 hb]; rfl
theorem wfB1_0 {A b n r : Nat} {H : Hp} {m : Mm} (hb : b < 11) {v : Int32} : fW (S A H m n r) (ad A b 1) 0 0 (.int v) = some (S A H (sb m b (ud (m b) 1 0 v)) n r) := gfW (Or.inl ⟨hb, by omega⟩) ((cel_b hb 1 _).trans rfl) (by show 0 < 9; omega) ((cel_b hb 1 _).trans rfl)
theorem wfB1_0b {A b n r : Nat} {H : Hp} {m : Mm} (hb : b < 11) {v : Int32} {β : Type} (K : _ → Option β) : (fW (S A H m n r) (ad A b 1) 0 0 (.int v)).bind K = K (S A H (sb m b (ud (m b) 1 0 v)) n r) := by rw [wfB1_0 hb]; rfl
theorem rfB1_1 {A b n r : Nat} {H : Hp} {m : Mm} (hb : b < 11) : fI (S A H m n r) (ad A b 1) 0 1 = some (m b 1 1) := gfI (Or.inl ⟨hb, by omega⟩) ((cel_b hb 1 _).trans rfl) rfl
theorem rfB1_1b {A b n r : Nat} {H : Hp} {m : Mm} (hb : b < 11) {β : Type} (K : _ → Option β) : (fI (S A H m n r) (ad A b 1) 0 1).bind K = K (m b 1 1) := by rw [rfB1_1 hb]; rfl
theorem wfB1_1 {A b n r : Nat} {H : Hp} {m : Mm} (hb : b < 11) {v : Int32} : fW (S A H m n r) (ad A b 1) 0 1 (.int v) = some (S A H (sb m b (ud (m b) 1 1 v)) n r) := gfW (Or.inl ⟨hb, by omega⟩) ((cel_b hb 1 _).trans rfl) (by show 1 < 9; omega) ((cel_b hb 1 _).trans rfl)
theorem wfB1_1b {A b n r : Nat} {H : Hp} {m : Mm} (hb : b < 11) {v : Int32} {β : Type} (K : _ → Option β) : (fW (S A H m n r) (ad A b 1) 0 1 (.int v)).bind K = K (S A H (sb m b (ud (m b) 1 1 v)) n r) := by rw [wfB1_1 hb]; rfl
theorem rfB1_2 {A b n r : Nat} {H : Hp} {m : Mm} (hb : b < 11) : fR (S A H m n r) (ad A b 1) 0 2 = some (ad A b 2) := gfR (Or.inl ⟨hb, by omega⟩) ((cel_b hb 1 _).trans rfl) rfl
theorem rfB1_2b {A b n r : Nat} {H : Hp} {m : Mm} (hb : b < 11) {β : Type} (K : _ → Option β) : (fR (S A H m n r) (ad A b 1) 0 2).bind K = K (ad A b 2) := by rw [rfB1_2 hb]; rfl
theorem rfB1_3 {A b n r : Nat} {H : Hp} {m : Mm} (hb : b < 11) : fR (S A H m n r) (ad A b 1) 0 3 = some (ad A b 3) := gfR (Or.inl ⟨hb, by omega⟩) ((cel_b hb 1 _).trans rfl) rfl
theorem rfB1_3b {A b n r : Nat} {H : Hp} {m : Mm} (hb : b < 11) {β : Type} (K : _ → Option β) : (fR (S A H m n r) (ad A b 1) 0 3).bind K = K (ad A b 3) := by rw [rfB1_3 hb]; rfl
theorem rfB1_4 {A b n r : Nat} {H : Hp} {m : Mm} (hb : b < 11) : fR (S A H m n r) (ad A b 1) 0 4 = some (ad A b 4) := gfR (Or.inl ⟨hb, by omega⟩) ((cel_b hb 1 _).trans rfl) rfl
theorem rfB1_4b {A b n r : Nat} {H : Hp} {m : Mm} (hb : b < 11) {β : Type} (K : _ → Option β) : (fR (S A H m n r) (ad A b 1) 0 4).bind K = K (ad A b 4) := by rw [rfB1_4 hb]; rfl
theorem rfB1_5 {A b n r : Nat} {H : Hp} {m : Mm} (hb : b < 11) : fR (S A H m n r) (ad A b 1) 0 5 = some (ad A b 5) := gfR (Or.inl ⟨hb, by omega⟩) ((cel_b hb 1 _).trans rfl) rfl
theorem rfB1_5b {A b n r : Nat} {H : Hp} {m : Mm} (hb : b < 11) {β : Type} (K : _ → Option β) : (fR (S A H m n r) (ad A b 1) 0 5).bind K = K (ad A b 5) := by rw [rfB1_5 hb]; rfl
theorem rfB1_6 {A b n r : Nat} {H : Hp} {m : Mm} (hb : b < 11) : fR (S A H m n r) (ad A b 1) 0 6 = some (ad A b 6) := gfR (Or.inl ⟨hb, by omega⟩) ((cel_b hb 1 _).trans rfl) rfl
theorem rfB1_6b {A b n r : Nat} {H : Hp} {m : Mm} (hb : b < 11) {β : Type} (K : _ → Option β) : (fR (S A H m n r) (ad A b 1) 0 6).bind K = K (ad A b 6) := by rw [rfB1_6 hb]; rfl
theorem rfB1_7 {A b n r : Nat} {H : Hp} {m : Mm} (hb : b < 11) : fR (S A H m n r) (ad A b 1) 0 7 = some (ad A b 7) := gfR (Or.inl ⟨hb, by omega⟩) ((cel_b hb 1 _).trans rfl) rfl
theorem rfB1_7b {A b n r : Nat} {H : Hp} {m : Mm} (hb : b < 11) {β : Type} (K : _ → Option β) : (fR (S A H m n r) (ad A b 1) 0 7).bind K = K (ad A b 7) := by rw [rfB1_7 hb]; rfl
theorem rfB1_8 {A b n r : Nat} {H : Hp} {m : Mm} (hb : b < 11) : fR (S A H m n r) (ad A b 1) 0 8 = some (ad A b 8) := gfR (Or.inl ⟨hb, by omega⟩) ((cel_b hb 1 _).trans rfl) rfl
theorem rfB1_8b {A b n r : Nat} {H : Hp} {m : Mm} (hb : b < 11) {β : Type} (K : _ → Option β) : (fR (S A H m n r) (ad A b 1) 0 8).bind K = K (ad A b 8) := by rw [rfB1_8 hb]; rfl
theorem raB2 {A b n r : Nat} {H : Hp} {m : Mm} (hb : b < 11) {i : Nat} (hi : i < 10) : aI (S A H m n r) okI (ad A b 2) (nI i) = some (m b 2 i) := gaI (b := b) (c := 2) (t := .int) (l := 10) (Or.inl ⟨hb, by omega⟩) ((cel_b hb 2 _).trans rfl) rfl rfl hi (by omega)
theorem raB2b {A b n r : Nat} {H : Hp} {m : Mm} (hb : b < 11) {i : Nat} (hi : i < 10) {β : Type} (K : _ → Option β) : (aI (S A H m n r) okI (ad A b 2) (nI i)).bind K = K (m b 2 i) := by rw [raB2 hb hi]; rfl
theorem waB2 {A b n r : Nat} {H : Hp} {m : Mm} (hb : b < 11) {i : Nat} {v : Int32} (hi : i < 10) : aW (S A H m n r) okI (ad A b 2) (nI i) (.int v) = some (S A H (sb m b (ud (m b) 2 i v)) n r) := gaW (b := b) (c := 2) (t := .int) (l := 10) (Or.inl ⟨hb, by omega⟩) (fun f => (cel_b hb 2 f).trans rfl) rfl rfl hi (by omega) rfl
theorem waB2b {A b n r : Nat} {H : Hp} {m : Mm} (hb : b < 11) {i : Nat} {v : Int32} (hi : i < 10) {β : Type} (K : _ → Option β) : (aW (S A H m n r) okI (ad A b 2) (nI i) (.int v)).bind K = K (S A H (sb m b (ud (m b) 2 i v)) n r) := by rw [waB2 hb hi]; rfl
theorem naB2 {A b n r : Nat} {H : Hp} {m : Mm} (hb : b < 11) : aN (S A H m n r) (ad A b 2) = some (10) := gaN (b := b) (c := 2) (t := .int) (l := 10) (Or.inl ⟨hb, by omega⟩) ((cel_b hb 2 _).trans rfl)
theorem naB2b {A b n r : Nat} {H : Hp} {m : Mm} (hb : b < 11) {β : Type} (K : _ → Option β) : (aN (S A H m n r) (ad A b 2)).bind K = K (10) := by rw [naB2 hb]; rfl
theorem raB3 {A b n r : Nat} {H : Hp} {m : Mm} (hb : b < 11) {i : Nat} (hi : i < 10) : aI (S A H m n r) okC (ad A b 3) (nI i) = some (vp_nar .char (m b 3 i)) := gaI (b := b) (c := 3) (t := .char) (l := 10) (Or.inl ⟨hb, by omega⟩) ((cel_b hb 3 _).trans rfl) rfl rfl hi (by omega)
theorem raB3b {A b n r : Nat} {H : Hp} {m : Mm} (hb : b < 11) {i : Nat} (hi : i < 10) {β : Type} (K : _ → Option β) : (aI (S A H m n r) okC (ad A b 3) (nI i)).bind K = K (vp_nar .char (m b 3 i)) := by rw [raB3 hb hi]; rfl
theorem waB3 {A b n r : Nat} {H : Hp} {m : Mm} (hb : b < 11) {i : Nat} {v : Int32} (hi : i < 10) : aW (S A H m n r) okC (ad A b 3) (nI i) (.int v) = some (S A H (sb m b (ud (m b) 3 i v)) n r) := gaW (b := b) (c := 3) (t := .char) (l := 10) (Or.inl ⟨hb, by omega⟩) (fun f => (cel_b hb 3 f).trans rfl) rfl rfl hi (by omega) rfl
theorem waB3b {A b n r : Nat} {H : Hp} {m : Mm} (hb : b < 11) {i : Nat} {v : Int32} (hi : i < 10) {β : Type} (K : _ → Option β) : (aW (S A H m n r) okC (ad A b 3) (nI i) (.int v)).bind K = K (S A H (sb m b (ud (m b) 3 i v)) n r) := by rw [waB3 hb hi]; rfl
theorem naB3 {A b n r : Nat} {H : Hp} {m : Mm} (hb : b < 11) : aN (S A H m n r) (ad A b 3) = some (10) := gaN (b := b) (c := 3) (t := .char) (l := 10) (Or.inl ⟨hb, by omega⟩) ((cel_b hb 3 _).trans rfl)
theorem naB3b {A b n r : Nat} {H : Hp} {m : Mm} (hb : b < 11) {β : Type} (K : _ → Option β) : (aN (S A H m n r) (ad A b 3)).bind K = K (10) := by rw [naB3 hb]; rfl
theorem raB4 {A b n r : Nat} {H : Hp} {m : Mm} (hb : b < 11) {i : Nat} (hi : i < 10) : aI (S A H m n r) okI (ad A b 4) (nI i) = some (m b 4 i) := gaI (b := b) (c := 4) (t := .int) (l := 10) (Or.inl ⟨hb, by omega⟩) ((cel_b hb 4 _).trans rfl) rfl rfl hi (by omega)
theorem raB4b {A b n r : Nat} {H : Hp} {m : Mm} (hb : b < 11) {i : Nat} (hi : i < 10) {β : Type} (K : _ → Option β) : (aI (S A H m n r) okI (ad A b 4) (nI i)).bind K = K (m b 4 i) := by rw [raB4 hb hi]; rfl
theorem waB4 {A b n r : Nat} {H : Hp} {m : Mm} (hb : b < 11) {i : Nat} {v : Int32} (hi : i < 10) : aW (S A H m n r) okI (ad A b 4) (nI i) (.int v) = some (S A H (sb m b (ud (m b) 4 i v)) n r) := gaW (b := b) (c := 4) (t := .int) (l := 10) (Or.inl ⟨hb, by omega⟩) (fun f => (cel_b hb 4 f).trans rfl) rfl rfl hi (by omega) rfl
theorem waB4b {A b n r : Nat} {H : Hp} {m : Mm} (hb : b < 11) {i : Nat} {v : Int32} (hi : i < 10) {β : Type} (K : _ → Option β) : (aW (S A H m n r) okI (ad A b 4) (nI i) (.int v)).bind K = K (S A H (sb m b (ud (m b) 4 i v)) n r) := by rw [waB4 hb hi]; rfl
theorem naB4 {A b n r : Nat} {H : Hp} {m : Mm} (hb : b < 11) : aN (S A H m n r) (ad A b 4) = some (10) := gaN (b := b) (c := 4) (t := .int) (l := 10) (Or.inl ⟨hb, by omega⟩) ((cel_b hb 4 _).trans rfl)
theorem naB4b {A b n r : Nat} {H : Hp} {m : Mm} (hb : b < 11) {β : Type} (K : _ → Option β) : (aN (S A H m n r) (ad A b 4)).bind K = K (10) := by rw [naB4 hb]; rfl
theorem raB5 {A b n r : Nat} {H : Hp} {m : Mm} (hb : b < 11) {i : Nat} (hi : i < 10) : aI (S A H m n r) okI (ad A b 5) (nI i) = some (m b 5 i) := gaI (b := b) (c := 5) (t := .int) (l := 10) (Or.inl ⟨hb, by omega⟩) ((cel_b hb 5 _).trans rfl) rfl rfl hi (by omega)
theorem raB5b {A b n r : Nat} {H : Hp} {m : Mm} (hb : b < 11) {i : Nat} (hi : i < 10) {β : Type} (K : _ → Option β) : (aI (S A H m n r) okI (ad A b 5) (nI i)).bind K = K (m b 5 i) := by rw [raB5 hb hi]; rfl
theorem waB5 {A b n r : Nat} {H : Hp} {m : Mm} (hb : b < 11) {i : Nat} {v : Int32} (hi : i < 10) : aW (S A H m n r) okI (ad A b 5) (nI i) (.int v) = some (S A H (sb m b (ud (m b) 5 i v)) n r) := gaW (b := b) (c := 5) (t := .int) (l := 10) (Or.inl ⟨hb, by omega⟩) (fun f => (cel_b hb 5 f).trans rfl) rfl rfl hi (by omega) rfl
theorem waB5b {A b n r : Nat} {H : Hp} {m : Mm} (hb : b < 11) {i : Nat} {v : Int32} (hi : i < 10) {β : Type} (K : _ → Option β) : (aW (S A H m n r) okI (ad A b 5) (nI i) (.int v)).bind K = K (S A H (sb m b (ud (m b) 5 i v)) n r) := by rw [waB5 hb hi]; rfl
theorem naB5 {A b n r : Nat} {H : Hp} {m : Mm} (hb : b < 11) : aN (S A H m n r) (ad A b 5) = some (10) := gaN (b := b) (c := 5) (t := .int) (l := 10) (Or.inl ⟨hb, by omega⟩) ((cel_b hb 5 _).trans rfl)
theorem naB5b {A b n r : Nat} {H : Hp} {m : Mm} (hb : b < 11) {β : Type} (K : _ → Option β) : (aN (S A H m n r) (ad A b 5)).bind K = K (10) := by rw [naB5 hb]; rfl
theorem raB6 {A b n r : Nat} {H : Hp} {m : Mm} (hb : b < 11) {i : Nat} (hi : i < 10) : aI (S A H m n r) okI (ad A b 6) (nI i) = some (m b 6 i) := gaI (b := b) (c := 6) (t := .int) (l := 10) (Or.inl ⟨hb, by omega⟩) ((cel_b hb 6 _).trans rfl) rfl rfl hi (by omega)
theorem raB6b {A b n r : Nat} {H : Hp} {m : Mm} (hb : b < 11) {i : Nat} (hi : i < 10) {β : Type} (K : _ → Option β) : (aI (S A H m n r) okI (ad A b 6) (nI i)).bind K = K (m b 6 i) := by rw [raB6 hb hi]; rfl
theorem waB6 {A b n r : Nat} {H : Hp} {m : Mm} (hb : b < 11) {i : Nat} {v : Int32} (hi : i < 10) : aW (S A H m n r) okI (ad A b 6) (nI i) (.int v) = some (S A H (sb m b (ud (m b) 6 i v)) n r) := gaW (b := b) (c := 6) (t := .int) (l := 10) (Or.inl ⟨hb, by omega⟩) (fun f => (cel_b hb 6 f).trans rfl) rfl rfl hi (by omega) rfl
theorem waB6b {A b n r : Nat} {H : Hp} {m : Mm} (hb : b < 11) {i : Nat} {v : Int32} (hi : i < 10) {β : Type} (K : _ → Option β) : (aW (S A H m n r) okI (ad A b 6) (nI i) (.int v)).bind K = K (S A H (sb m b (ud (m b) 6 i v)) n r) := by rw [waB6 hb hi]; rfl
theorem naB6 {A b n r : Nat} {H : Hp} {m : Mm} (hb : b < 11) : aN (S A H m n r) (ad A b 6) = some (10) := gaN (b := b) (c := 6) (t := .int) (l := 10) (Or.inl ⟨hb, by omega⟩) ((cel_b hb 6 _).trans rfl)
theorem naB6b {A b n r : Nat} {H : Hp} {m : Mm} (hb : b < 11) {β : Type} (K : _ → Option β) : (aN (S A H m n r) (ad A b 6)).bind K = K (10) := by rw [naB6 hb]; rfl
theorem raB7 {A b n r : Nat} {H : Hp} {m : Mm} (hb : b < 11) {i : Nat} (hi : i < 10) : aI (S A H m n r) okI (ad A b 7) (nI i) = some (m b 7 i) := gaI (b := b) (c := 7) (t := .int) (l := 10) (Or.inl ⟨hb, by omega⟩) ((cel_b hb 7 _).trans rfl) rfl rfl hi (by omega)
theorem raB7b {A b n r : Nat} {H : Hp} {m : Mm} (hb : b < 11) {i : Nat} (hi : i < 10) {β : Type} (K : _ → Option β) : (aI (S A H m n r) okI (ad A b 7) (nI i)).bind K = K (m b 7 i) := by rw [raB7 hb hi]; rfl
theorem waB7 {A b n r : Nat} {H : Hp} {m : Mm} (hb : b < 11) {i : Nat} {v : Int32} (hi : i < 10) : aW (S A H m n r) okI (ad A b 7) (nI i) (.int v) = some (S A H (sb m b (ud (m b) 7 i v)) n r) := gaW (b := b) (c := 7) (t := .int) (l := 10) (Or.inl ⟨hb, by omega⟩) (fun f => (cel_b hb 7 f).trans rfl) rfl rfl hi (by omega) rfl
theorem waB7b {A b n r : Nat} {H : Hp} {m : Mm} (hb : b < 11) {i : Nat} {v : Int32} (hi : i < 10) {β : Type} (K : _ → Option β) : (aW (S A H m n r) okI (ad A b 7) (nI i) (.int v)).bind K = K (S A H (sb m b (ud (m b) 7 i v)) n r) := by rw [waB7 hb hi]; rfl
theorem naB7 {A b n r : Nat} {H : Hp} {m : Mm} (hb : b < 11) : aN (S A H m n r) (ad A b 7) = some (10) := gaN (b := b) (c := 7) (t := .int) (l := 10) (Or.inl ⟨hb, by omega⟩) ((cel_b hb 7 _).trans rfl)
theorem naB7b {A b n r : Nat} {H : Hp} {m : Mm} (hb : b < 11) {β : Type} (K : _ → Option β) : (aN (S A H m n r) (ad A b 7)).bind K = K (10) := by rw [naB7 hb]; rfl
theorem raB8 {A b n r : Nat} {H : Hp} {m : Mm} (hb : b < 11) {i : Nat} (hi : i < 10) : aI (S A H m n r) okI (ad A b 8) (nI i) = some (m b 8 i) := gaI (b := b) (c := 8) (t := .int) (l := 10) (Or.inl ⟨hb, by omega⟩) ((cel_b hb 8 _).trans rfl) rfl rfl hi (by omega)
theorem raB8b {A b n r : Nat} {H : Hp} {m : Mm} (hb : b < 11) {i : Nat} (hi : i < 10) {β : Type} (K : _ → Option β) : (aI (S A H m n r) okI (ad A b 8) (nI i)).bind K = K (m b 8 i) := by rw [raB8 hb hi]; rfl
theorem waB8 {A b n r : Nat} {H : Hp} {m : Mm} (hb : b < 11) {i : Nat} {v : Int32} (hi : i < 10) : aW (S A H m n r) okI (ad A b 8) (nI i) (.int v) = some (S A H (sb m b (ud (m b) 8 i v)) n r) := gaW (b := b) (c := 8) (t := .int) (l := 10) (Or.inl ⟨hb, by omega⟩) (fun f => (cel_b hb 8 f).trans rfl) rfl rfl hi (by omega) rfl
theorem waB8b {A b n r : Nat} {H : Hp} {m : Mm} (hb : b < 11) {i : Nat} {v : Int32} (hi : i < 10) {β : Type} (K : _ → Option β) : (aW (S A H m n r) okI (ad A b 8) (nI i) (.int v)).bind K = K (S A H (sb m b (ud (m b) 8 i v)) n r) := by rw [waB8 hb hi]; rfl
theorem naB8 {A b n r : Nat} {H : Hp} {m : Mm} (hb : b < 11) : aN (S A H m n r) (ad A b 8) = some (10) := gaN (b := b) (c := 8) (t := .int) (l := 10) (Or.inl ⟨hb, by omega⟩) ((cel_b hb 8 _).trans rfl)
theorem naB8b {A b n r : Nat} {H : Hp} {m : Mm} (hb : b < 11) {β : Type} (K : _ → Option β) : (aN (S A H m n r) (ad A b 8)).bind K = K (10) := by rw [naB8 hb]; rfl
theorem rcB9 {A b n r : Nat} {H : Hp} {m : Mm} (hb : b < 11) : rcv (S A H m n r) (ad A b 9) 4 = true := grc (Or.inl ⟨hb, by omega⟩) ((cel_b hb 9 _).trans rfl)
theorem rfB9_0 {A b n r : Nat} {H : Hp} {m : Mm} (hb : b < 11) : fI (S A H m n r) (ad A b 9) 4 0 = some (m b 9 0) := gfI (Or.inl ⟨hb, by omega⟩) ((cel_b hb 9 _).trans rfl) rfl
theorem rfB9_0b {A b n r : Nat} {H : Hp} {m : Mm} (hb : b < 11) {β : Type} (K : _ → Option β) : (fI (S A H m n r) (ad A b 9) 4 0).bind K = K (m b 9 0) := by rw [rfB9_0 hb]; rfl
theorem wfB9_0 {A b n r : Nat} {H : Hp} {m : Mm} (hb : b < 11) {v : Int32} : fW (S A H m n r) (ad A b 9) 4 0 (.int v) = some (S A H (sb m b (ud (m b) 9 0 v)) n r) := gfW (Or.inl ⟨hb, by omega⟩) ((cel_b hb 9 _).trans rfl) (by show 0 < 5; omega) ((cel_b hb 9 _).trans rfl)
theorem wfB9_0b {A b n r : Nat} {H : Hp} {m : Mm} (hb : b < 11) {v : Int32} {β : Type} (K : _ → Option β) : (fW (S A H m n r) (ad A b 9) 4 0 (.int v)).bind K = K (S A H (sb m b (ud (m b) 9 0 v)) n r) := by rw [wfB9_0 hb]; rfl
theorem rfB9_1 {A b n r : Nat} {H : Hp} {m : Mm} (hb : b < 11) : fR (S A H m n r) (ad A b 9) 4 1 = some (ad A b 10) := gfR (Or.inl ⟨hb, by omega⟩) ((cel_b hb 9 _).trans rfl) rfl
theorem rfB9_1b {A b n r : Nat} {H : Hp} {m : Mm} (hb : b < 11) {β : Type} (K : _ → Option β) : (fR (S A H m n r) (ad A b 9) 4 1).bind K = K (ad A b 10) := by rw [rfB9_1 hb]; rfl
theorem rfB9_2 {A b n r : Nat} {H : Hp} {m : Mm} (hb : b < 11) : fR (S A H m n r) (ad A b 9) 4 2 = some (ad A b 11) := gfR (Or.inl ⟨hb, by omega⟩) ((cel_b hb 9 _).trans rfl) rfl
theorem rfB9_2b {A b n r : Nat} {H : Hp} {m : Mm} (hb : b < 11) {β : Type} (K : _ → Option β) : (fR (S A H m n r) (ad A b 9) 4 2).bind K = K (ad A b 11) := by rw [rfB9_2 hb]; rfl
theorem rfB9_3 {A b n r : Nat} {H : Hp} {m : Mm} (hb : b < 11) : fR (S A H m n r) (ad A b 9) 4 3 = some (ad A b 12) := gfR (Or.inl ⟨hb, by omega⟩) ((cel_b hb 9 _).trans rfl) rfl
theorem rfB9_3b {A b n r : Nat} {H : Hp} {m : Mm} (hb : b < 11) {β : Type} (K : _ → Option β) : (fR (S A H m n r) (ad A b 9) 4 3).bind K = K (ad A b 12) := by rw [rfB9_3 hb]; rfl
theorem rfB9_4 {A b n r : Nat} {H : Hp} {m : Mm} (hb : b < 11) : fR (S A H m n r) (ad A b 9) 4 4 = some (ad A b 13) := gfR (Or.inl ⟨hb, by omega⟩) ((cel_b hb 9 _).trans rfl) rfl
theorem rfB9_4b {A b n r : Nat} {H : Hp} {m : Mm} (hb : b < 11) {β : Type} (K : _ → Option β) : (fR (S A H m n r) (ad A b 9) 4 4).bind K = K (ad A b 13) := by rw [rfB9_4 hb]; rfl
theorem raB10 {A b n r : Nat} {H : Hp} {m : Mm} (hb : b < 11) {i : Nat} (hi : i < 6) : aI (S A H m n r) okC (ad A b 10) (nI i) = some (vp_nar .char (m b 10 i)) := gaI (b := b) (c := 10) (t := .char) (l := 6) (Or.inl ⟨hb, by omega⟩) ((cel_b hb 10 _).trans rfl) rfl rfl hi (by omega)
theorem raB10b {A b n r : Nat} {H : Hp} {m : Mm} (hb : b < 11) {i : Nat} (hi : i < 6) {β : Type} (K : _ → Option β) : (aI (S A H m n r) okC (ad A b 10) (nI i)).bind K = K (vp_nar .char (m b 10 i)) := by rw [raB10 hb hi]; rfl
theorem waB10 {A b n r : Nat} {H : Hp} {m : Mm} (hb : b < 11) {i : Nat} {v : Int32} (hi : i < 6) : aW (S A H m n r) okC (ad A b 10) (nI i) (.int v) = some (S A H (sb m b (ud (m b) 10 i v)) n r) := gaW (b := b) (c := 10) (t := .char) (l := 6) (Or.inl ⟨hb, by omega⟩) (fun f => (cel_b hb 10 f).trans rfl) rfl rfl hi (by omega) rfl
theorem waB10b {A b n r : Nat} {H : Hp} {m : Mm} (hb : b < 11) {i : Nat} {v : Int32} (hi : i < 6) {β : Type} (K : _ → Option β) : (aW (S A H m n r) okC (ad A b 10) (nI i) (.int v)).bind K = K (S A H (sb m b (ud (m b) 10 i v)) n r) := by rw [waB10 hb hi]; rfl
theorem naB10 {A b n r : Nat} {H : Hp} {m : Mm} (hb : b < 11) : aN (S A H m n r) (ad A b 10) = some (6) := gaN (b := b) (c := 10) (t := .char) (l := 6) (Or.inl ⟨hb, by omega⟩) ((cel_b hb 10 _).trans rfl)
theorem naB10b {A b n r : Nat} {H : Hp} {m : Mm} (hb : b < 11) {β : Type} (K : _ → Option β) : (aN (S A H m n r) (ad A b 10)).bind K = K (6) := by rw [naB10 hb]; rfl
theorem raB11 {A b n r : Nat} {H : Hp} {m : Mm} (hb : b < 11) {i : Nat} (hi : i < 6) : aI (S A H m n r) okI (ad A b 11) (nI i) = some (m b 11 i) := gaI (b := b) (c := 11) (t := .int) (l := 6) (Or.inl ⟨hb, by omega⟩) ((cel_b hb 11 _).trans rfl) rfl rfl hi (by omega)
theorem raB11b {A b n r : Nat} {H : Hp} {m : Mm} (hb : b < 11) {i : Nat} (hi : i < 6) {β : Type} (K : _ → Option β) : (aI (S A H m n r) okI (ad A b 11) (nI i)).bind K = K (m b 11 i) := by rw [raB11 hb hi]; rfl
theorem waB11 {A b n r : Nat} {H : Hp} {m : Mm} (hb : b < 11) {i : Nat} {v : Int32} (hi : i < 6) : aW (S A H m n r) okI (ad A b 11) (nI i) (.int v) = some (S A H (sb m b (ud (m b) 11 i v)) n r) := gaW (b := b) (c := 11) (t := .int) (l := 6) (Or.inl ⟨hb, by omega⟩) (fun f => (cel_b hb 11 f).trans rfl) rfl rfl hi (by omega) rfl
theorem waB11b {A b n r : Nat} {H : Hp} {m : Mm} (hb : b < 11) {i : Nat} {v : Int32} (hi : i < 6) {β : Type} (K : _ → Option β) : (aW (S A H m n r) okI (ad A b 11) (nI i) (.int v)).bind K = K (S A H (sb m b (ud (m b) 11 i v)) n r) := by rw [waB11 hb hi]; rfl
theorem naB11 {A b n r : Nat} {H : Hp} {m : Mm} (hb : b < 11) : aN (S A H m n r) (ad A b 11) = some (6) := gaN (b := b) (c := 11) (t := .int) (l := 6) (Or.inl ⟨hb, by omega⟩) ((cel_b hb 11 _).trans rfl)
theorem naB11b {A b n r : Nat} {H : Hp} {m : Mm} (hb : b < 11) {β : Type} (K : _ → Option β) : (aN (S A H m n r) (ad A b 11)).bind K = K (6) := by rw [naB11 hb]; rfl
theorem raB12 {A b n r : Nat} {H : Hp} {m : Mm} (hb : b < 11) {i : Nat} (hi : i < 6) : aI (S A H m n r) okI (ad A b 12) (nI i) = some (m b 12 i) := gaI (b := b) (c := 12) (t := .int) (l := 6) (Or.inl ⟨hb, by omega⟩) ((cel_b hb 12 _).trans rfl) rfl rfl hi (by omega)
theorem raB12b {A b n r : Nat} {H : Hp} {m : Mm} (hb : b < 11) {i : Nat} (hi : i < 6) {β : Type} (K : _ → Option β) : (aI (S A H m n r) okI (ad A b 12) (nI i)).bind K = K (m b 12 i) := by rw [raB12 hb hi]; rfl
theorem waB12 {A b n r : Nat} {H : Hp} {m : Mm} (hb : b < 11) {i : Nat} {v : Int32} (hi : i < 6) : aW (S A H m n r) okI (ad A b 12) (nI i) (.int v) = some (S A H (sb m b (ud (m b) 12 i v)) n r) := gaW (b := b) (c := 12) (t := .int) (l := 6) (Or.inl ⟨hb, by omega⟩) (fun f => (cel_b hb 12 f).trans rfl) rfl rfl hi (by omega) rfl
theorem waB12b {A b n r : Nat} {H : Hp} {m : Mm} (hb : b < 11) {i : Nat} {v : Int32} (hi : i < 6) {β : Type} (K : _ → Option β) : (aW (S A H m n r) okI (ad A b 12) (nI i) (.int v)).bind K = K (S A H (sb m b (ud (m b) 12 i v)) n r) := by rw [waB12 hb hi]; rfl
theorem naB12 {A b n r : Nat} {H : Hp} {m : Mm} (hb : b < 11) : aN (S A H m n r) (ad A b 12) = some (6) := gaN (b := b) (c := 12) (t := .int) (l := 6) (Or.inl ⟨hb, by omega⟩) ((cel_b hb 12 _).trans rfl)
theorem naB12b {A b n r : Nat} {H : Hp} {m : Mm} (hb : b < 11) {β : Type} (K : _ → Option β) : (aN (S A H m n r) (ad A b 12)).bind K = K (6) := by rw [naB12 hb]; rfl
theorem raB13 {A b n r : Nat} {H : Hp} {m : Mm} (hb : b < 11) {i : Nat} (hi : i < 6) : aI (S A H m n r) okI (ad A b 13) (nI i) = some (m b 13 i) := gaI (b := b) (c := 13) (t := .int) (l := 6) (Or.inl ⟨hb, by omega⟩) ((cel_b hb 13 _).trans rfl) rfl rfl hi (by omega)
theorem raB13b {A b n r : Nat} {H : Hp} {m : Mm} (hb : b < 11) {i : Nat} (hi : i < 6) {β : Type} (K : _ → Option β) : (aI (S A H m n r) okI (ad A b 13) (nI i)).bind K = K (m b 13 i) := by rw [raB13 hb hi]; rfl
theorem waB13 {A b n r : Nat} {H : Hp} {m : Mm} (hb : b < 11) {i : Nat} {v : Int32} (hi : i < 6) : aW (S A H m n r) okI (ad A b 13) (nI i) (.int v) = some (S A H (sb m b (ud (m b) 13 i v)) n r) := gaW (b := b) (c := 13) (t := .int) (l := 6) (Or.inl ⟨hb, by omega⟩) (fun f => (cel_b hb 13 f).trans rfl) rfl rfl hi (by omega) rfl
theorem waB13b {A b n r : Nat} {H : Hp} {m : Mm} (hb : b < 11) {i : Nat} {v : Int32} (hi : i < 6) {β : Type} (K : _ → Option β) : (aW (S A H m n r) okI (ad A b 13) (nI i) (.int v)).bind K = K (S A H (sb m b (ud (m b) 13 i v)) n r) := by rw [waB13 hb hi]; rfl
theorem naB13 {A b n r : Nat} {H : Hp} {m : Mm} (hb : b < 11) : aN (S A H m n r) (ad A b 13) = some (6) := gaN (b := b) (c := 13) (t := .int) (l := 6) (Or.inl ⟨hb, by omega⟩) ((cel_b hb 13 _).trans rfl)
theorem naB13b {A b n r : Nat} {H : Hp} {m : Mm} (hb : b < 11) {β : Type} (K : _ → Option β) : (aN (S A H m n r) (ad A b 13)).bind K = K (6) := by rw [naB13 hb]; rfl
theorem rcX0 {A n r : Nat} {H : Hp} {m : Mm} : rcv (S A H m n r) (ad A 11 0) 5 = true := grc (Or.inr (Or.inl ⟨rfl, by omega⟩)) rfl
theorem rfX0_0 {A n r : Nat} {H : Hp} {m : Mm} : fR (S A H m n r) (ad A 11 0) 5 0 = some (ad A 0 0) := gfR (Or.inr (Or.inl ⟨rfl, by omega⟩)) rfl rfl
theorem rfX0_0b {A n r : Nat} {H : Hp} {m : Mm} {β : Type} (K : _ → Option β) : (fR (S A H m n r) (ad A 11 0) 5 0).bind K = K (ad A 0 0) := by rw [rfX0_0]; rfl
theorem rfX0_1 {A n r : Nat} {H : Hp} {m : Mm} : fR (S A H m n r) (ad A 11 0) 5 1 = some (ad A 1 0) := gfR (Or.inr (Or.inl ⟨rfl, by omega⟩)) rfl rfl
theorem rfX0_1b {A n r : Nat} {H : Hp} {m : Mm} {β : Type} (K : _ → Option β) : (fR (S A H m n r) (ad A 11 0) 5 1).bind K = K (ad A 1 0) := by rw [rfX0_1]; rfl
theorem rfX0_2 {A n r : Nat} {H : Hp} {m : Mm} : fR (S A H m n r) (ad A 11 0) 5 2 = some (ad A 2 0) := gfR (Or.inr (Or.inl ⟨rfl, by omega⟩)) rfl rfl
theorem rfX0_2b {A n r : Nat} {H : Hp} {m : Mm} {β : Type} (K : _ → Option β) : (fR (S A H m n r) (ad A 11 0) 5 2).bind K = K (ad A 2 0) := by rw [rfX0_2]; rfl
theorem rfX0_3 {A n r : Nat} {H : Hp} {m : Mm} : fR (S A H m n r) (ad A 11 0) 5 3 = some (ad A 11 1) := gfR (Or.inr (Or.inl ⟨rfl, by omega⟩)) rfl rfl
theorem rfX0_3b {A n r : Nat} {H : Hp} {m : Mm} {β : Type} (K : _ → Option β) : (fR (S A H m n r) (ad A 11 0) 5 3).bind K = K (ad A 11 1) := by rw [rfX0_3]; rfl
theorem rfX0_4 {A n r : Nat} {H : Hp} {m : Mm} : fI (S A H m n r) (ad A 11 0) 5 4 = some (m 11 0 4) := gfI (Or.inr (Or.inl ⟨rfl, by omega⟩)) rfl rfl
theorem rfX0_4b {A n r : Nat} {H : Hp} {m : Mm} {β : Type} (K : _ → Option β) : (fI (S A H m n r) (ad A 11 0) 5 4).bind K = K (m 11 0 4) := by rw [rfX0_4]; rfl
theorem wfX0_4 {A n r : Nat} {H : Hp} {m : Mm} {v : Int32} : fW (S A H m n r) (ad A 11 0) 5 4 (.int v) = some (S A H (sb m 11 (ud (m 11) 0 4 v)) n r) := gfW (Or.inr (Or.inl ⟨rfl, by omega⟩)) rfl (by show 4 < 11; omega) rfl
theorem wfX0_4b {A n r : Nat} {H : Hp} {m : Mm} {v : Int32} {β : Type} (K : _ → Option β) : (fW (S A H m n r) (ad A 11 0) 5 4 (.int v)).bind K = K (S A H (sb m 11 (ud (m 11) 0 4 v)) n r) := by rw [wfX0_4]; rfl
theorem rfX0_5 {A n r : Nat} {H : Hp} {m : Mm} : fI (S A H m n r) (ad A 11 0) 5 5 = some (m 11 0 5) := gfI (Or.inr (Or.inl ⟨rfl, by omega⟩)) rfl rfl
theorem rfX0_5b {A n r : Nat} {H : Hp} {m : Mm} {β : Type} (K : _ → Option β) : (fI (S A H m n r) (ad A 11 0) 5 5).bind K = K (m 11 0 5) := by rw [rfX0_5]; rfl
theorem wfX0_5 {A n r : Nat} {H : Hp} {m : Mm} {v : Int32} : fW (S A H m n r) (ad A 11 0) 5 5 (.int v) = some (S A H (sb m 11 (ud (m 11) 0 5 v)) n r) := gfW (Or.inr (Or.inl ⟨rfl, by omega⟩)) rfl (by show 5 < 11; omega) rfl
theorem wfX0_5b {A n r : Nat} {H : Hp} {m : Mm} {v : Int32} {β : Type} (K : _ → Option β) : (fW (S A H m n r) (ad A 11 0) 5 5 (.int v)).bind K = K (S A H (sb m 11 (ud (m 11) 0 5 v)) n r) := by rw [wfX0_5]; rfl
theorem rfX0_6 {A n r : Nat} {H : Hp} {m : Mm} : fR (S A H m n r) (ad A 11 0) 5 6 = some (ad A 11 2) := gfR (Or.inr (Or.inl ⟨rfl, by omega⟩)) rfl rfl
theorem rfX0_6b {A n r : Nat} {H : Hp} {m : Mm} {β : Type} (K : _ → Option β) : (fR (S A H m n r) (ad A 11 0) 5 6).bind K = K (ad A 11 2) := by rw [rfX0_6]; rfl
theorem rfX0_7 {A n r : Nat} {H : Hp} {m : Mm} : fR (S A H m n r) (ad A 11 0) 5 7 = some (ad A 11 9) := gfR (Or.inr (Or.inl ⟨rfl, by omega⟩)) rfl rfl
theorem rfX0_7b {A n r : Nat} {H : Hp} {m : Mm} {β : Type} (K : _ → Option β) : (fR (S A H m n r) (ad A 11 0) 5 7).bind K = K (ad A 11 9) := by rw [rfX0_7]; rfl
theorem rfX0_8 {A n r : Nat} {H : Hp} {m : Mm} : fR (S A H m n r) (ad A 11 0) 5 8 = some (ad A 11 11) := gfR (Or.inr (Or.inl ⟨rfl, by omega⟩)) rfl rfl
theorem rfX0_8b {A n r : Nat} {H : Hp} {m : Mm} {β : Type} (K : _ → Option β) : (fR (S A H m n r) (ad A 11 0) 5 8).bind K = K (ad A 11 11) := by rw [rfX0_8]; rfl
theorem rfX0_9 {A n r : Nat} {H : Hp} {m : Mm} : fI (S A H m n r) (ad A 11 0) 5 9 = some (m 11 0 9) := gfI (Or.inr (Or.inl ⟨rfl, by omega⟩)) rfl rfl
theorem rfX0_9b {A n r : Nat} {H : Hp} {m : Mm} {β : Type} (K : _ → Option β) : (fI (S A H m n r) (ad A 11 0) 5 9).bind K = K (m 11 0 9) := by rw [rfX0_9]; rfl
theorem wfX0_9 {A n r : Nat} {H : Hp} {m : Mm} {v : Int32} : fW (S A H m n r) (ad A 11 0) 5 9 (.int v) = some (S A H (sb m 11 (ud (m 11) 0 9 v)) n r) := gfW (Or.inr (Or.inl ⟨rfl, by omega⟩)) rfl (by show 9 < 11; omega) rfl
theorem wfX0_9b {A n r : Nat} {H : Hp} {m : Mm} {v : Int32} {β : Type} (K : _ → Option β) : (fW (S A H m n r) (ad A 11 0) 5 9 (.int v)).bind K = K (S A H (sb m 11 (ud (m 11) 0 9 v)) n r) := by rw [wfX0_9]; rfl
theorem rfX0_10 {A n r : Nat} {H : Hp} {m : Mm} : fI (S A H m n r) (ad A 11 0) 5 10 = some (m 11 0 10) := gfI (Or.inr (Or.inl ⟨rfl, by omega⟩)) rfl rfl
theorem rfX0_10b {A n r : Nat} {H : Hp} {m : Mm} {β : Type} (K : _ → Option β) : (fI (S A H m n r) (ad A 11 0) 5 10).bind K = K (m 11 0 10) := by rw [rfX0_10]; rfl
theorem wfX0_10 {A n r : Nat} {H : Hp} {m : Mm} {v : Int32} : fW (S A H m n r) (ad A 11 0) 5 10 (.int v) = some (S A H (sb m 11 (ud (m 11) 0 10 v)) n r) := gfW (Or.inr (Or.inl ⟨rfl, by omega⟩)) rfl (by show 10 < 11; omega) rfl
theorem wfX0_10b {A n r : Nat} {H : Hp} {m : Mm} {v : Int32} {β : Type} (K : _ → Option β) : (fW (S A H m n r) (ad A 11 0) 5 10 (.int v)).bind K = K (S A H (sb m 11 (ud (m 11) 0 10 v)) n r) := by rw [wfX0_10]; rfl
theorem rcX2 {A n r : Nat} {H : Hp} {m : Mm} : rcv (S A H m n r) (ad A 11 2) 3 = true := grc (Or.inr (Or.inl ⟨rfl, by omega⟩)) rfl
theorem rfX2_0 {A n r : Nat} {H : Hp} {m : Mm} : fR (S A H m n r) (ad A 11 2) 3 0 = some (ad A 11 3) := gfR (Or.inr (Or.inl ⟨rfl, by omega⟩)) rfl rfl
theorem rfX2_0b {A n r : Nat} {H : Hp} {m : Mm} {β : Type} (K : _ → Option β) : (fR (S A H m n r) (ad A 11 2) 3 0).bind K = K (ad A 11 3) := by rw [rfX2_0]; rfl
theorem rfX2_1 {A n r : Nat} {H : Hp} {m : Mm} : fR (S A H m n r) (ad A 11 2) 3 1 = some (ad A 11 4) := gfR (Or.inr (Or.inl ⟨rfl, by omega⟩)) rfl rfl
theorem rfX2_1b {A n r : Nat} {H : Hp} {m : Mm} {β : Type} (K : _ → Option β) : (fR (S A H m n r) (ad A 11 2) 3 1).bind K = K (ad A 11 4) := by rw [rfX2_1]; rfl
theorem rfX2_2 {A n r : Nat} {H : Hp} {m : Mm} : fR (S A H m n r) (ad A 11 2) 3 2 = some (ad A 11 5) := gfR (Or.inr (Or.inl ⟨rfl, by omega⟩)) rfl rfl
theorem rfX2_2b {A n r : Nat} {H : Hp} {m : Mm} {β : Type} (K : _ → Option β) : (fR (S A H m n r) (ad A 11 2) 3 2).bind K = K (ad A 11 5) := by rw [rfX2_2]; rfl
theorem rfX2_3 {A n r : Nat} {H : Hp} {m : Mm} : fR (S A H m n r) (ad A 11 2) 3 3 = some (ad A 11 6) := gfR (Or.inr (Or.inl ⟨rfl, by omega⟩)) rfl rfl
theorem rfX2_3b {A n r : Nat} {H : Hp} {m : Mm} {β : Type} (K : _ → Option β) : (fR (S A H m n r) (ad A 11 2) 3 3).bind K = K (ad A 11 6) := by rw [rfX2_3]; rfl
theorem rfX2_4 {A n r : Nat} {H : Hp} {m : Mm} : fR (S A H m n r) (ad A 11 2) 3 4 = some (ad A 11 7) := gfR (Or.inr (Or.inl ⟨rfl, by omega⟩)) rfl rfl
theorem rfX2_4b {A n r : Nat} {H : Hp} {m : Mm} {β : Type} (K : _ → Option β) : (fR (S A H m n r) (ad A 11 2) 3 4).bind K = K (ad A 11 7) := by rw [rfX2_4]; rfl
theorem rfX2_5 {A n r : Nat} {H : Hp} {m : Mm} : fR (S A H m n r) (ad A 11 2) 3 5 = some (ad A 11 8) := gfR (Or.inr (Or.inl ⟨rfl, by omega⟩)) rfl rfl
theorem rfX2_5b {A n r : Nat} {H : Hp} {m : Mm} {β : Type} (K : _ → Option β) : (fR (S A H m n r) (ad A 11 2) 3 5).bind K = K (ad A 11 8) := by rw [rfX2_5]; rfl
theorem raX3 {A n r : Nat} {H : Hp} {m : Mm} {i : Nat} (hi : i < 6) : aI (S A H m n r) okI (ad A 11 3) (nI i) = some (m 11 3 i) := gaI (b := 11) (c := 3) (t := .int) (l := 6) (Or.inr (Or.inl ⟨rfl, by omega⟩)) rfl rfl rfl hi (by omega)
theorem raX3b {A n r : Nat} {H : Hp} {m : Mm} {i : Nat} (hi : i < 6) {β : Type} (K : _ → Option β) : (aI (S A H m n r) okI (ad A 11 3) (nI i)).bind K = K (m 11 3 i) := by rw [raX3 hi]; rfl
theorem waX3 {A n r : Nat} {H : Hp} {m : Mm} {i : Nat} {v : Int32} (hi : i < 6) : aW (S A H m n r) okI (ad A 11 3) (nI i) (.int v) = some (S A H (sb m 11 (ud (m 11) 3 i v)) n r) := gaW (b := 11) (c := 3) (t := .int) (l := 6) (Or.inr (Or.inl ⟨rfl, by omega⟩)) (fun f => rfl) rfl rfl hi (by omega) rfl
theorem waX3b {A n r : Nat} {H : Hp} {m : Mm} {i : Nat} {v : Int32} (hi : i < 6) {β : Type} (K : _ → Option β) : (aW (S A H m n r) okI (ad A 11 3) (nI i) (.int v)).bind K = K (S A H (sb m 11 (ud (m 11) 3 i v)) n r) := by rw [waX3 hi]; rfl
theorem naX3 {A n r : Nat} {H : Hp} {m : Mm} : aN (S A H m n r) (ad A 11 3) = some (6) := gaN (b := 11) (c := 3) (t := .int) (l := 6) (Or.inr (Or.inl ⟨rfl, by omega⟩)) rfl
theorem naX3b {A n r : Nat} {H : Hp} {m : Mm} {β : Type} (K : _ → Option β) : (aN (S A H m n r) (ad A 11 3)).bind K = K (6) := by rw [naX3]; rfl
theorem raX4 {A n r : Nat} {H : Hp} {m : Mm} {i : Nat} (hi : i < 10) : aI (S A H m n r) okI (ad A 11 4) (nI i) = some (m 11 4 i) := gaI (b := 11) (c := 4) (t := .int) (l := 10) (Or.inr (Or.inl ⟨rfl, by omega⟩)) rfl rfl rfl hi (by omega)
theorem raX4b {A n r : Nat} {H : Hp} {m : Mm} {i : Nat} (hi : i < 10) {β : Type} (K : _ → Option β) : (aI (S A H m n r) okI (ad A 11 4) (nI i)).bind K = K (m 11 4 i) := by rw [raX4 hi]; rfl
theorem waX4 {A n r : Nat} {H : Hp} {m : Mm} {i : Nat} {v : Int32} (hi : i < 10) : aW (S A H m n r) okI (ad A 11 4) (nI i) (.int v) = some (S A H (sb m 11 (ud (m 11) 4 i v)) n r) := gaW (b := 11) (c := 4) (t := .int) (l := 10) (Or.inr (Or.inl ⟨rfl, by omega⟩)) (fun f => rfl) rfl rfl hi (by omega) rfl
theorem waX4b {A n r : Nat} {H : Hp} {m : Mm} {i : Nat} {v : Int32} (hi : i < 10) {β : Type} (K : _ → Option β) : (aW (S A H m n r) okI (ad A 11 4) (nI i) (.int v)).bind K = K (S A H (sb m 11 (ud (m 11) 4 i v)) n r) := by rw [waX4 hi]; rfl
theorem naX4 {A n r : Nat} {H : Hp} {m : Mm} : aN (S A H m n r) (ad A 11 4) = some (10) := gaN (b := 11) (c := 4) (t := .int) (l := 10) (Or.inr (Or.inl ⟨rfl, by omega⟩)) rfl
theorem naX4b {A n r : Nat} {H : Hp} {m : Mm} {β : Type} (K : _ → Option β) : (aN (S A H m n r) (ad A 11 4)).bind K = K (10) := by rw [naX4]; rfl
theorem raX5 {A n r : Nat} {H : Hp} {m : Mm} {i : Nat} (hi : i < 10) : aI (S A H m n r) okI (ad A 11 5) (nI i) = some (m 11 5 i) := gaI (b := 11) (c := 5) (t := .int) (l := 10) (Or.inr (Or.inl ⟨rfl, by omega⟩)) rfl rfl rfl hi (by omega)
theorem raX5b {A n r : Nat} {H : Hp} {m : Mm} {i : Nat} (hi : i < 10) {β : Type} (K : _ → Option β) : (aI (S A H m n r) okI (ad A 11 5) (nI i)).bind K = K (m 11 5 i) := by rw [raX5 hi]; rfl
theorem waX5 {A n r : Nat} {H : Hp} {m : Mm} {i : Nat} {v : Int32} (hi : i < 10) : aW (S A H m n r) okI (ad A 11 5) (nI i) (.int v) = some (S A H (sb m 11 (ud (m 11) 5 i v)) n r) := gaW (b := 11) (c := 5) (t := .int) (l := 10) (Or.inr (Or.inl ⟨rfl, by omega⟩)) (fun f => rfl) rfl rfl hi (by omega) rfl
theorem waX5b {A n r : Nat} {H : Hp} {m : Mm} {i : Nat} {v : Int32} (hi : i < 10) {β : Type} (K : _ → Option β) : (aW (S A H m n r) okI (ad A 11 5) (nI i) (.int v)).bind K = K (S A H (sb m 11 (ud (m 11) 5 i v)) n r) := by rw [waX5 hi]; rfl
theorem naX5 {A n r : Nat} {H : Hp} {m : Mm} : aN (S A H m n r) (ad A 11 5) = some (10) := gaN (b := 11) (c := 5) (t := .int) (l := 10) (Or.inr (Or.inl ⟨rfl, by omega⟩)) rfl
theorem naX5b {A n r : Nat} {H : Hp} {m : Mm} {β : Type} (K : _ → Option β) : (aN (S A H m n r) (ad A 11 5)).bind K = K (10) := by rw [naX5]; rfl
theorem raX6 {A n r : Nat} {H : Hp} {m : Mm} {i : Nat} (hi : i < 10) : aI (S A H m n r) okB (ad A 11 6) (nI i) = some (vp_nar .boolean (m 11 6 i)) := gaI (b := 11) (c := 6) (t := .boolean) (l := 10) (Or.inr (Or.inl ⟨rfl, by omega⟩)) rfl rfl rfl hi (by omega)
theorem raX6b {A n r : Nat} {H : Hp} {m : Mm} {i : Nat} (hi : i < 10) {β : Type} (K : _ → Option β) : (aI (S A H m n r) okB (ad A 11 6) (nI i)).bind K = K (vp_nar .boolean (m 11 6 i)) := by rw [raX6 hi]; rfl
theorem waX6 {A n r : Nat} {H : Hp} {m : Mm} {i : Nat} {v : Int32} (hi : i < 10) : aW (S A H m n r) okB (ad A 11 6) (nI i) (.int v) = some (S A H (sb m 11 (ud (m 11) 6 i v)) n r) := gaW (b := 11) (c := 6) (t := .boolean) (l := 10) (Or.inr (Or.inl ⟨rfl, by omega⟩)) (fun f => rfl) rfl rfl hi (by omega) rfl
theorem waX6b {A n r : Nat} {H : Hp} {m : Mm} {i : Nat} {v : Int32} (hi : i < 10) {β : Type} (K : _ → Option β) : (aW (S A H m n r) okB (ad A 11 6) (nI i) (.int v)).bind K = K (S A H (sb m 11 (ud (m 11) 6 i v)) n r) := by rw [waX6 hi]; rfl
theorem naX6 {A n r : Nat} {H : Hp} {m : Mm} : aN (S A H m n r) (ad A 11 6) = some (10) := gaN (b := 11) (c := 6) (t := .boolean) (l := 10) (Or.inr (Or.inl ⟨rfl, by omega⟩)) rfl
theorem naX6b {A n r : Nat} {H : Hp} {m : Mm} {β : Type} (K : _ → Option β) : (aN (S A H m n r) (ad A 11 6)).bind K = K (10) := by rw [naX6]; rfl
theorem raX7 {A n r : Nat} {H : Hp} {m : Mm} {i : Nat} (hi : i < 64) : aI (S A H m n r) okB (ad A 11 7) (nI i) = some (vp_nar .boolean (m 11 7 i)) := gaI (b := 11) (c := 7) (t := .boolean) (l := 64) (Or.inr (Or.inl ⟨rfl, by omega⟩)) rfl rfl rfl hi (by omega)
theorem raX7b {A n r : Nat} {H : Hp} {m : Mm} {i : Nat} (hi : i < 64) {β : Type} (K : _ → Option β) : (aI (S A H m n r) okB (ad A 11 7) (nI i)).bind K = K (vp_nar .boolean (m 11 7 i)) := by rw [raX7 hi]; rfl
theorem waX7 {A n r : Nat} {H : Hp} {m : Mm} {i : Nat} {v : Int32} (hi : i < 64) : aW (S A H m n r) okB (ad A 11 7) (nI i) (.int v) = some (S A H (sb m 11 (ud (m 11) 7 i v)) n r) := gaW (b := 11) (c := 7) (t := .boolean) (l := 64) (Or.inr (Or.inl ⟨rfl, by omega⟩)) (fun f => rfl) rfl rfl hi (by omega) rfl
theorem waX7b {A n r : Nat} {H : Hp} {m : Mm} {i : Nat} {v : Int32} (hi : i < 64) {β : Type} (K : _ → Option β) : (aW (S A H m n r) okB (ad A 11 7) (nI i) (.int v)).bind K = K (S A H (sb m 11 (ud (m 11) 7 i v)) n r) := by rw [waX7 hi]; rfl
theorem raX7L0 {A n r : Nat} {H : Hp} {m : Mm} : aI (S A H m n r) okB (ad A 11 7) 0 = some (vp_nar .boolean (m 11 7 0)) := gaI (b := 11) (c := 7) (t := .boolean) (l := 64) (Or.inr (Or.inl ⟨rfl, by omega⟩)) rfl rfl (i := 0) rfl (by omega) (by omega)
theorem raX7L0b {A n r : Nat} {H : Hp} {m : Mm} {β : Type} (K : _ → Option β) : (aI (S A H m n r) okB (ad A 11 7) 0).bind K = K (vp_nar .boolean (m 11 7 0)) := by rw [raX7L0]; rfl
theorem waX7L0 {A n r : Nat} {H : Hp} {m : Mm} {v : Int32} : aW (S A H m n r) okB (ad A 11 7) 0 (.int v) = some (S A H (sb m 11 (ud (m 11) 7 0 v)) n r) := gaW (b := 11) (c := 7) (t := .boolean) (l := 64) (Or.inr (Or.inl ⟨rfl, by omega⟩)) (fun f => rfl) rfl (i := 0) rfl (by omega) (by omega) rfl
theorem waX7L0b {A n r : Nat} {H : Hp} {m : Mm} {v : Int32} {β : Type} (K : _ → Option β) : (aW (S A H m n r) okB (ad A 11 7) 0 (.int v)).bind K = K (S A H (sb m 11 (ud (m 11) 7 0 v)) n r) := by rw [waX7L0]; rfl
theorem naX7 {A n r : Nat} {H : Hp} {m : Mm} : aN (S A H m n r) (ad A 11 7) = some (64) := gaN (b := 11) (c := 7) (t := .boolean) (l := 64) (Or.inr (Or.inl ⟨rfl, by omega⟩)) rfl
theorem naX7b {A n r : Nat} {H : Hp} {m : Mm} {β : Type} (K : _ → Option β) : (aN (S A H m n r) (ad A 11 7)).bind K = K (64) := by rw [naX7]; rfl
theorem raX8 {A n r : Nat} {H : Hp} {m : Mm} {i : Nat} (hi : i < 6) : aI (S A H m n r) okI (ad A 11 8) (nI i) = some (m 11 8 i) := gaI (b := 11) (c := 8) (t := .int) (l := 6) (Or.inr (Or.inl ⟨rfl, by omega⟩)) rfl rfl rfl hi (by omega)
theorem raX8b {A n r : Nat} {H : Hp} {m : Mm} {i : Nat} (hi : i < 6) {β : Type} (K : _ → Option β) : (aI (S A H m n r) okI (ad A 11 8) (nI i)).bind K = K (m 11 8 i) := by rw [raX8 hi]; rfl
theorem waX8 {A n r : Nat} {H : Hp} {m : Mm} {i : Nat} {v : Int32} (hi : i < 6) : aW (S A H m n r) okI (ad A 11 8) (nI i) (.int v) = some (S A H (sb m 11 (ud (m 11) 8 i v)) n r) := gaW (b := 11) (c := 8) (t := .int) (l := 6) (Or.inr (Or.inl ⟨rfl, by omega⟩)) (fun f => rfl) rfl rfl hi (by omega) rfl
theorem waX8b {A n r : Nat} {H : Hp} {m : Mm} {i : Nat} {v : Int32} (hi : i < 6) {β : Type} (K : _ → Option β) : (aW (S A H m n r) okI (ad A 11 8) (nI i) (.int v)).bind K = K (S A H (sb m 11 (ud (m 11) 8 i v)) n r) := by rw [waX8 hi]; rfl
theorem naX8 {A n r : Nat} {H : Hp} {m : Mm} : aN (S A H m n r) (ad A 11 8) = some (6) := gaN (b := 11) (c := 8) (t := .int) (l := 6) (Or.inr (Or.inl ⟨rfl, by omega⟩)) rfl
theorem naX8b {A n r : Nat} {H : Hp} {m : Mm} {β : Type} (K : _ → Option β) : (aN (S A H m n r) (ad A 11 8)).bind K = K (6) := by rw [naX8]; rfl
theorem rcX11 {A n r : Nat} {H : Hp} {m : Mm} : rcv (S A H m n r) (ad A 11 11) 2 = true := grc (Or.inr (Or.inl ⟨rfl, by omega⟩)) rfl
theorem rfX11_0 {A n r : Nat} {H : Hp} {m : Mm} : fR (S A H m n r) (ad A 11 11) 2 0 = some (ad A 11 12) := gfR (Or.inr (Or.inl ⟨rfl, by omega⟩)) rfl rfl
theorem rfX11_0b {A n r : Nat} {H : Hp} {m : Mm} {β : Type} (K : _ → Option β) : (fR (S A H m n r) (ad A 11 11) 2 0).bind K = K (ad A 11 12) := by rw [rfX11_0]; rfl
theorem rfX11_1 {A n r : Nat} {H : Hp} {m : Mm} : fI (S A H m n r) (ad A 11 11) 2 1 = some (m 11 11 1) := gfI (Or.inr (Or.inl ⟨rfl, by omega⟩)) rfl rfl
theorem rfX11_1b {A n r : Nat} {H : Hp} {m : Mm} {β : Type} (K : _ → Option β) : (fI (S A H m n r) (ad A 11 11) 2 1).bind K = K (m 11 11 1) := by rw [rfX11_1]; rfl
theorem wfX11_1 {A n r : Nat} {H : Hp} {m : Mm} {v : Int32} : fW (S A H m n r) (ad A 11 11) 2 1 (.int v) = some (S A H (sb m 11 (ud (m 11) 11 1 v)) n r) := gfW (Or.inr (Or.inl ⟨rfl, by omega⟩)) rfl (by show 1 < 8; omega) rfl
theorem wfX11_1b {A n r : Nat} {H : Hp} {m : Mm} {v : Int32} {β : Type} (K : _ → Option β) : (fW (S A H m n r) (ad A 11 11) 2 1 (.int v)).bind K = K (S A H (sb m 11 (ud (m 11) 11 1 v)) n r) := by rw [wfX11_1]; rfl
theorem rfX11_2 {A n r : Nat} {H : Hp} {m : Mm} : fR (S A H m n r) (ad A 11 11) 2 2 = some (ad A 11 13) := gfR (Or.inr (Or.inl ⟨rfl, by omega⟩)) rfl rfl
theorem rfX11_2b {A n r : Nat} {H : Hp} {m : Mm} {β : Type} (K : _ → Option β) : (fR (S A H m n r) (ad A 11 11) 2 2).bind K = K (ad A 11 13) := by rw [rfX11_2]; rfl
theorem rfX11_3 {A n r : Nat} {H : Hp} {m : Mm} : fI (S A H m n r) (ad A 11 11) 2 3 = some (m 11 11 3) := gfI (Or.inr (Or.inl ⟨rfl, by omega⟩)) rfl rfl
theorem rfX11_3b {A n r : Nat} {H : Hp} {m : Mm} {β : Type} (K : _ → Option β) : (fI (S A H m n r) (ad A 11 11) 2 3).bind K = K (m 11 11 3) := by rw [rfX11_3]; rfl
theorem wfX11_3 {A n r : Nat} {H : Hp} {m : Mm} {v : Int32} : fW (S A H m n r) (ad A 11 11) 2 3 (.int v) = some (S A H (sb m 11 (ud (m 11) 11 3 v)) n r) := gfW (Or.inr (Or.inl ⟨rfl, by omega⟩)) rfl (by show 3 < 8; omega) rfl
theorem wfX11_3b {A n r : Nat} {H : Hp} {m : Mm} {v : Int32} {β : Type} (K : _ → Option β) : (fW (S A H m n r) (ad A 11 11) 2 3 (.int v)).bind K = K (S A H (sb m 11 (ud (m 11) 11 3 v)) n r) := by rw [wfX11_3]; rfl
theorem rfX11_4 {A n r : Nat} {H : Hp} {m : Mm} : fI (S A H m n r) (ad A 11 11) 2 4 = some (m 11 11 4) := gfI (Or.inr (Or.inl ⟨rfl, by omega⟩)) rfl rfl
theorem rfX11_4b {A n r : Nat} {H : Hp} {m : Mm} {β : Type} (K : _ → Option β) : (fI (S A H m n r) (ad A 11 11) 2 4).bind K = K (m 11 11 4) := by rw [rfX11_4]; rfl
theorem wfX11_4 {A n r : Nat} {H : Hp} {m : Mm} {v : Int32} : fW (S A H m n r) (ad A 11 11) 2 4 (.int v) = some (S A H (sb m 11 (ud (m 11) 11 4 v)) n r) := gfW (Or.inr (Or.inl ⟨rfl, by omega⟩)) rfl (by show 4 < 8; omega) rfl
theorem wfX11_4b {A n r : Nat} {H : Hp} {m : Mm} {v : Int32} {β : Type} (K : _ → Option β) : (fW (S A H m n r) (ad A 11 11) 2 4 (.int v)).bind K = K (S A H (sb m 11 (ud (m 11) 11 4 v)) n r) := by rw [wfX11_4]; rfl
theorem rfX11_5 {A n r : Nat} {H : Hp} {m : Mm} : fI (S A H m n r) (ad A 11 11) 2 5 = some (m 11 11 5) := gfI (Or.inr (Or.inl ⟨rfl, by omega⟩)) rfl rfl
theorem rfX11_5b {A n r : Nat} {H : Hp} {m : Mm} {β : Type} (K : _ → Option β) : (fI (S A H m n r) (ad A 11 11) 2 5).bind K = K (m 11 11 5) := by rw [rfX11_5]; rfl
theorem wfX11_5 {A n r : Nat} {H : Hp} {m : Mm} {v : Int32} : fW (S A H m n r) (ad A 11 11) 2 5 (.int v) = some (S A H (sb m 11 (ud (m 11) 11 5 v)) n r) := gfW (Or.inr (Or.inl ⟨rfl, by omega⟩)) rfl (by show 5 < 8; omega) rfl
theorem wfX11_5b {A n r : Nat} {H : Hp} {m : Mm} {v : Int32} {β : Type} (K : _ → Option β) : (fW (S A H m n r) (ad A 11 11) 2 5 (.int v)).bind K = K (S A H (sb m 11 (ud (m 11) 11 5 v)) n r) := by rw [wfX11_5]; rfl
theorem rfX11_6 {A n r : Nat} {H : Hp} {m : Mm} : fR (S A H m n r) (ad A 11 11) 2 6 = some (ad A 11 14) := gfR (Or.inr (Or.inl ⟨rfl, by omega⟩)) rfl rfl
theorem rfX11_6b {A n r : Nat} {H : Hp} {m : Mm} {β : Type} (K : _ → Option β) : (fR (S A H m n r) (ad A 11 11) 2 6).bind K = K (ad A 11 14) := by rw [rfX11_6]; rfl
theorem rfX11_7 {A n r : Nat} {H : Hp} {m : Mm} : fI (S A H m n r) (ad A 11 11) 2 7 = some (m 11 11 7) := gfI (Or.inr (Or.inl ⟨rfl, by omega⟩)) rfl rfl
theorem rfX11_7b {A n r : Nat} {H : Hp} {m : Mm} {β : Type} (K : _ → Option β) : (fI (S A H m n r) (ad A 11 11) 2 7).bind K = K (m 11 11 7) := by rw [rfX11_7]; rfl
theorem wfX11_7 {A n r : Nat} {H : Hp} {m : Mm} {v : Int32} : fW (S A H m n r) (ad A 11 11) 2 7 (.int v) = some (S A H (sb m 11 (ud (m 11) 11 7 v)) n r) := gfW (Or.inr (Or.inl ⟨rfl, by omega⟩)) rfl (by show 7 < 8; omega) rfl
theorem wfX11_7b {A n r : Nat} {H : Hp} {m : Mm} {v : Int32} {β : Type} (K : _ → Option β) : (fW (S A H m n r) (ad A 11 11) 2 7 (.int v)).bind K = K (S A H (sb m 11 (ud (m 11) 11 7 v)) n r) := by rw [wfX11_7]; rfl
theorem raX12 {A n r : Nat} {H : Hp} {m : Mm} {i : Nat} (hi : i < 60) : aI (S A H m n r) okC (ad A 11 12) (nI i) = some (vp_nar .char (m 11 12 i)) := gaI (b := 11) (c := 12) (t := .char) (l := 60) (Or.inr (Or.inl ⟨rfl, by omega⟩)) rfl rfl rfl hi (by omega)
theorem raX12b {A n r : Nat} {H : Hp} {m : Mm} {i : Nat} (hi : i < 60) {β : Type} (K : _ → Option β) : (aI (S A H m n r) okC (ad A 11 12) (nI i)).bind K = K (vp_nar .char (m 11 12 i)) := by rw [raX12 hi]; rfl
theorem waX12 {A n r : Nat} {H : Hp} {m : Mm} {i : Nat} {v : Int32} (hi : i < 60) : aW (S A H m n r) okC (ad A 11 12) (nI i) (.int v) = some (S A H (sb m 11 (ud (m 11) 12 i v)) n r) := gaW (b := 11) (c := 12) (t := .char) (l := 60) (Or.inr (Or.inl ⟨rfl, by omega⟩)) (fun f => rfl) rfl rfl hi (by omega) rfl
theorem waX12b {A n r : Nat} {H : Hp} {m : Mm} {i : Nat} {v : Int32} (hi : i < 60) {β : Type} (K : _ → Option β) : (aW (S A H m n r) okC (ad A 11 12) (nI i) (.int v)).bind K = K (S A H (sb m 11 (ud (m 11) 12 i v)) n r) := by rw [waX12 hi]; rfl
theorem naX12 {A n r : Nat} {H : Hp} {m : Mm} : aN (S A H m n r) (ad A 11 12) = some (60) := gaN (b := 11) (c := 12) (t := .char) (l := 60) (Or.inr (Or.inl ⟨rfl, by omega⟩)) rfl
theorem naX12b {A n r : Nat} {H : Hp} {m : Mm} {β : Type} (K : _ → Option β) : (aN (S A H m n r) (ad A 11 12)).bind K = K (60) := by rw [naX12]; rfl
theorem raX13 {A n r : Nat} {H : Hp} {m : Mm} {i : Nat} (hi : i < 60) : aI (S A H m n r) okI (ad A 11 13) (nI i) = some (m 11 13 i) := gaI (b := 11) (c := 13) (t := .int) (l := 60) (Or.inr (Or.inl ⟨rfl, by omega⟩)) rfl rfl rfl hi (by omega)
theorem raX13b {A n r : Nat} {H : Hp} {m : Mm} {i : Nat} (hi : i < 60) {β : Type} (K : _ → Option β) : (aI (S A H m n r) okI (ad A 11 13) (nI i)).bind K = K (m 11 13 i) := by rw [raX13 hi]; rfl
theorem waX13 {A n r : Nat} {H : Hp} {m : Mm} {i : Nat} {v : Int32} (hi : i < 60) : aW (S A H m n r) okI (ad A 11 13) (nI i) (.int v) = some (S A H (sb m 11 (ud (m 11) 13 i v)) n r) := gaW (b := 11) (c := 13) (t := .int) (l := 60) (Or.inr (Or.inl ⟨rfl, by omega⟩)) (fun f => rfl) rfl rfl hi (by omega) rfl
theorem waX13b {A n r : Nat} {H : Hp} {m : Mm} {i : Nat} {v : Int32} (hi : i < 60) {β : Type} (K : _ → Option β) : (aW (S A H m n r) okI (ad A 11 13) (nI i) (.int v)).bind K = K (S A H (sb m 11 (ud (m 11) 13 i v)) n r) := by rw [waX13 hi]; rfl
theorem naX13 {A n r : Nat} {H : Hp} {m : Mm} : aN (S A H m n r) (ad A 11 13) = some (60) := gaN (b := 11) (c := 13) (t := .int) (l := 60) (Or.inr (Or.inl ⟨rfl, by omega⟩)) rfl
theorem naX13b {A n r : Nat} {H : Hp} {m : Mm} {β : Type} (K : _ → Option β) : (aN (S A H m n r) (ad A 11 13)).bind K = K (60) := by rw [naX13]; rfl
theorem raX14 {A n r : Nat} {H : Hp} {m : Mm} {i : Nat} (hi : i < 3) : aI (S A H m n r) okI (ad A 11 14) (nI i) = some (m 11 14 i) := gaI (b := 11) (c := 14) (t := .int) (l := 3) (Or.inr (Or.inl ⟨rfl, by omega⟩)) rfl rfl rfl hi (by omega)
theorem raX14b {A n r : Nat} {H : Hp} {m : Mm} {i : Nat} (hi : i < 3) {β : Type} (K : _ → Option β) : (aI (S A H m n r) okI (ad A 11 14) (nI i)).bind K = K (m 11 14 i) := by rw [raX14 hi]; rfl
theorem waX14 {A n r : Nat} {H : Hp} {m : Mm} {i : Nat} {v : Int32} (hi : i < 3) : aW (S A H m n r) okI (ad A 11 14) (nI i) (.int v) = some (S A H (sb m 11 (ud (m 11) 14 i v)) n r) := gaW (b := 11) (c := 14) (t := .int) (l := 3) (Or.inr (Or.inl ⟨rfl, by omega⟩)) (fun f => rfl) rfl rfl hi (by omega) rfl
theorem waX14b {A n r : Nat} {H : Hp} {m : Mm} {i : Nat} {v : Int32} (hi : i < 3) {β : Type} (K : _ → Option β) : (aW (S A H m n r) okI (ad A 11 14) (nI i) (.int v)).bind K = K (S A H (sb m 11 (ud (m 11) 14 i v)) n r) := by rw [waX14 hi]; rfl
theorem raX14L0 {A n r : Nat} {H : Hp} {m : Mm} : aI (S A H m n r) okI (ad A 11 14) 0 = some (m 11 14 0) := gaI (b := 11) (c := 14) (t := .int) (l := 3) (Or.inr (Or.inl ⟨rfl, by omega⟩)) rfl rfl (i := 0) rfl (by omega) (by omega)
theorem raX14L0b {A n r : Nat} {H : Hp} {m : Mm} {β : Type} (K : _ → Option β) : (aI (S A H m n r) okI (ad A 11 14) 0).bind K = K (m 11 14 0) := by rw [raX14L0]; rfl
theorem waX14L0 {A n r : Nat} {H : Hp} {m : Mm} {v : Int32} : aW (S A H m n r) okI (ad A 11 14) 0 (.int v) = some (S A H (sb m 11 (ud (m 11) 14 0 v)) n r) := gaW (b := 11) (c := 14) (t := .int) (l := 3) (Or.inr (Or.inl ⟨rfl, by omega⟩)) (fun f => rfl) rfl (i := 0) rfl (by omega) (by omega) rfl
theorem waX14L0b {A n r : Nat} {H : Hp} {m : Mm} {v : Int32} {β : Type} (K : _ → Option β) : (aW (S A H m n r) okI (ad A 11 14) 0 (.int v)).bind K = K (S A H (sb m 11 (ud (m 11) 14 0 v)) n r) := by rw [waX14L0]; rfl
theorem raX14L1 {A n r : Nat} {H : Hp} {m : Mm} : aI (S A H m n r) okI (ad A 11 14) 1 = some (m 11 14 1) := gaI (b := 11) (c := 14) (t := .int) (l := 3) (Or.inr (Or.inl ⟨rfl, by omega⟩)) rfl rfl (i := 1) rfl (by omega) (by omega)
theorem raX14L1b {A n r : Nat} {H : Hp} {m : Mm} {β : Type} (K : _ → Option β) : (aI (S A H m n r) okI (ad A 11 14) 1).bind K = K (m 11 14 1) := by rw [raX14L1]; rfl
theorem waX14L1 {A n r : Nat} {H : Hp} {m : Mm} {v : Int32} : aW (S A H m n r) okI (ad A 11 14) 1 (.int v) = some (S A H (sb m 11 (ud (m 11) 14 1 v)) n r) := gaW (b := 11) (c := 14) (t := .int) (l := 3) (Or.inr (Or.inl ⟨rfl, by omega⟩)) (fun f => rfl) rfl (i := 1) rfl (by omega) (by omega) rfl
theorem waX14L1b {A n r : Nat} {H : Hp} {m : Mm} {v : Int32} {β : Type} (K : _ → Option β) : (aW (S A H m n r) okI (ad A 11 14) 1 (.int v)).bind K = K (S A H (sb m 11 (ud (m 11) 14 1 v)) n r) := by rw [waX14L1]; rfl
theorem raX14L2 {A n r : Nat} {H : Hp} {m : Mm} : aI (S A H m n r) okI (ad A 11 14) 2 = some (m 11 14 2) := gaI (b := 11) (c := 14) (t := .int) (l := 3) (Or.inr (Or.inl ⟨rfl, by omega⟩)) rfl rfl (i := 2) rfl (by omega) (by omega)
theorem raX14L2b {A n r : Nat} {H : Hp} {m : Mm} {β : Type} (K : _ → Option β) : (aI (S A H m n r) okI (ad A 11 14) 2).bind K = K (m 11 14 2) := by rw [raX14L2]; rfl
theorem waX14L2 {A n r : Nat} {H : Hp} {m : Mm} {v : Int32} : aW (S A H m n r) okI (ad A 11 14) 2 (.int v) = some (S A H (sb m 11 (ud (m 11) 14 2 v)) n r) := gaW (b := 11) (c := 14) (t := .int) (l := 3) (Or.inr (Or.inl ⟨rfl, by omega⟩)) (fun f => rfl) rfl (i := 2) rfl (by omega) (by omega) rfl
theorem waX14L2b {A n r : Nat} {H : Hp} {m : Mm} {v : Int32} {β : Type} (K : _ → Option β) : (aW (S A H m n r) okI (ad A 11 14) 2 (.int v)).bind K = K (S A H (sb m 11 (ud (m 11) 14 2 v)) n r) := by rw [waX14L2]; rfl
theorem naX14 {A n r : Nat} {H : Hp} {m : Mm} : aN (S A H m n r) (ad A 11 14) = some (3) := gaN (b := 11) (c := 14) (t := .int) (l := 3) (Or.inr (Or.inl ⟨rfl, by omega⟩)) rfl
theorem naX14b {A n r : Nat} {H : Hp} {m : Mm} {β : Type} (K : _ → Option β) : (aN (S A H m n r) (ad A 11 14)).bind K = K (3) := by rw [naX14]; rfl
theorem caB2 {A b b' n r : Nat} {H : Hp} {m : Mm} (hb : b < 11) (hb' : b' < 11) {x y z : Nat} (h1 : x + z ≤ 10) (h2 : y + z ≤ 10) : aC (S A H m n r) (ad A b 2) (nI x) (ad A b' 2) (nI y) (nI z) = some (S A H (sb m b' (us (m b') 2 (cpf (m b 2) (m b' 2) x y z))) n r) := gaC (b := b) (c := 2) (b' := b') (c' := 2) (t := .int) (la := 10) (lb := 10) (Or.inl ⟨hb, by omega⟩) (Or.inl ⟨hb', by omega⟩) ((cel_b hb 2 _).trans rfl) (fun f => (cel_b hb' 2 f).trans rfl) rfl (sp := x) (dp := y) (k := z) rfl rfl rfl h1 h2 (by omega) (by omega)
theorem caB2b {A b b' n r : Nat} {H : Hp} {m : Mm} (hb : b < 11) (hb' : b' < 11) {x y z : Nat} (h1 : x + z ≤ 10) (h2 : y + z ≤ 10) {β : Type} (K : _ → Option β) : (aC (S A H m n r) (ad A b 2) (nI x) (ad A b' 2) (nI y) (nI z)).bind K = K (S A H (sb m b' (us (m b') 2 (cpf (m b 2) (m b' 2) x y z))) n r) := by rw [caB2 hb hb' h1 h2]; rfl
theorem caB2L {A b b' n r : Nat} {H : Hp} {m : Mm} (hb : b < 11) (hb' : b' < 11) : aC (S A H m n r) (ad A b 2) 0 (ad A b' 2) 0 10 = some (S A H (sb m b' (us (m b') 2 (cpf (m b 2) (m b' 2) 0 0 10))) n r) := gaC (b := b) (c := 2) (b' := b') (c' := 2) (t := .int) (la := 10) (lb := 10) (Or.inl ⟨hb, by omega⟩) (Or.inl ⟨hb', by omega⟩) ((cel_b hb 2 _).trans rfl) (fun f => (cel_b hb' 2 f).trans rfl) rfl (sp := 0) (dp := 0) (k := 10) rfl rfl rfl (by omega) (by omega) (by omega) (by omega)
theorem caB2Lb {A b b' n r : Nat} {H : Hp} {m : Mm} (hb : b < 11) (hb' : b' < 11) {β : Type} (K : _ → Option β) : (aC (S A H m n r) (ad A b 2) 0 (ad A b' 2) 0 10).bind K = K (S A H (sb m b' (us (m b') 2 (cpf (m b 2) (m b' 2) 0 0 10))) n r) := by rw [caB2L hb hb']; rfl
theorem caB3 {A b b' n r : Nat} {H : Hp} {m : Mm} (hb : b < 11) (hb' : b' < 11) {x y z : Nat} (h1 : x + z ≤ 10) (h2 : y + z ≤ 10) : aC (S A H m n r) (ad A b 3) (nI x) (ad A b' 3) (nI y) (nI z) = some (S A H (sb m b' (us (m b') 3 (cpf (m b 3) (m b' 3) x y z))) n r) := gaC (b := b) (c := 3) (b' := b') (c' := 3) (t := .char) (la := 10) (lb := 10) (Or.inl ⟨hb, by omega⟩) (Or.inl ⟨hb', by omega⟩) ((cel_b hb 3 _).trans rfl) (fun f => (cel_b hb' 3 f).trans rfl) rfl (sp := x) (dp := y) (k := z) rfl rfl rfl h1 h2 (by omega) (by omega)
theorem caB3b {A b b' n r : Nat} {H : Hp} {m : Mm} (hb : b < 11) (hb' : b' < 11) {x y z : Nat} (h1 : x + z ≤ 10) (h2 : y + z ≤ 10) {β : Type} (K : _ → Option β) : (aC (S A H m n r) (ad A b 3) (nI x) (ad A b' 3) (nI y) (nI z)).bind K = K (S A H (sb m b' (us (m b') 3 (cpf (m b 3) (m b' 3) x y z))) n r) := by rw [caB3 hb hb' h1 h2]; rfl
theorem caB3L {A b b' n r : Nat} {H : Hp} {m : Mm} (hb : b < 11) (hb' : b' < 11) : aC (S A H m n r) (ad A b 3) 0 (ad A b' 3) 0 10 = some (S A H (sb m b' (us (m b') 3 (cpf (m b 3) (m b' 3) 0 0 10))) n r) := gaC (b := b) (c := 3) (b' := b') (c' := 3) (t := .char) (la := 10) (lb := 10) (Or.inl ⟨hb, by omega⟩) (Or.inl ⟨hb', by omega⟩) ((cel_b hb 3 _).trans rfl) (fun f => (cel_b hb' 3 f).trans rfl) rfl (sp := 0) (dp := 0) (k := 10) rfl rfl rfl (by omega) (by omega) (by omega) (by omega)
theorem caB3Lb {A b b' n r : Nat} {H : Hp} {m : Mm} (hb : b < 11) (hb' : b' < 11) {β : Type} (K : _ → Option β) : (aC (S A H m n r) (ad A b 3) 0 (ad A b' 3) 0 10).bind K = K (S A H (sb m b' (us (m b') 3 (cpf (m b 3) (m b' 3) 0 0 10))) n r) := by rw [caB3L hb hb']; rfl
theorem caB4 {A b b' n r : Nat} {H : Hp} {m : Mm} (hb : b < 11) (hb' : b' < 11) {x y z : Nat} (h1 : x + z ≤ 10) (h2 : y + z ≤ 10) : aC (S A H m n r) (ad A b 4) (nI x) (ad A b' 4) (nI y) (nI z) = some (S A H (sb m b' (us (m b') 4 (cpf (m b 4) (m b' 4) x y z))) n r) := gaC (b := b) (c := 4) (b' := b') (c' := 4) (t := .int) (la := 10) (lb := 10) (Or.inl ⟨hb, by omega⟩) (Or.inl ⟨hb', by omega⟩) ((cel_b hb 4 _).trans rfl) (fun f => (cel_b hb' 4 f).trans rfl) rfl (sp := x) (dp := y) (k := z) rfl rfl rfl h1 h2 (by omega) (by omega)
theorem caB4b {A b b' n r : Nat} {H : Hp} {m : Mm} (hb : b < 11) (hb' : b' < 11) {x y z : Nat} (h1 : x + z ≤ 10) (h2 : y + z ≤ 10) {β : Type} (K : _ → Option β) : (aC (S A H m n r) (ad A b 4) (nI x) (ad A b' 4) (nI y) (nI z)).bind K = K (S A H (sb m b' (us (m b') 4 (cpf (m b 4) (m b' 4) x y z))) n r) := by rw [caB4 hb hb' h1 h2]; rfl
theorem caB4L {A b b' n r : Nat} {H : Hp} {m : Mm} (hb : b < 11) (hb' : b' < 11) : aC (S A H m n r) (ad A b 4) 0 (ad A b' 4) 0 10 = some (S A H (sb m b' (us (m b') 4 (cpf (m b 4) (m b' 4) 0 0 10))) n r) := gaC (b := b) (c := 4) (b' := b') (c' := 4) (t := .int) (la := 10) (lb := 10) (Or.inl ⟨hb, by omega⟩) (Or.inl ⟨hb', by omega⟩) ((cel_b hb 4 _).trans rfl) (fun f => (cel_b hb' 4 f).trans rfl) rfl (sp := 0) (dp := 0) (k := 10) rfl rfl rfl (by omega) (by omega) (by omega) (by omega)
theorem caB4Lb {A b b' n r : Nat} {H : Hp} {m : Mm} (hb : b < 11) (hb' : b' < 11) {β : Type} (K : _ → Option β) : (aC (S A H m n r) (ad A b 4) 0 (ad A b' 4) 0 10).bind K = K (S A H (sb m b' (us (m b') 4 (cpf (m b 4) (m b' 4) 0 0 10))) n r) := by rw [caB4L hb hb']; rfl
theorem caB5 {A b b' n r : Nat} {H : Hp} {m : Mm} (hb : b < 11) (hb' : b' < 11) {x y z : Nat} (h1 : x + z ≤ 10) (h2 : y + z ≤ 10) : aC (S A H m n r) (ad A b 5) (nI x) (ad A b' 5) (nI y) (nI z) = some (S A H (sb m b' (us (m b') 5 (cpf (m b 5) (m b' 5) x y z))) n r) := gaC (b := b) (c := 5) (b' := b') (c' := 5) (t := .int) (la := 10) (lb := 10) (Or.inl ⟨hb, by omega⟩) (Or.inl ⟨hb', by omega⟩) ((cel_b hb 5 _).trans rfl) (fun f => (cel_b hb' 5 f).trans rfl) rfl (sp := x) (dp := y) (k := z) rfl rfl rfl h1 h2 (by omega) (by omega)
theorem caB5b {A b b' n r : Nat} {H : Hp} {m : Mm} (hb : b < 11) (hb' : b' < 11) {x y z : Nat} (h1 : x + z ≤ 10) (h2 : y + z ≤ 10) {β : Type} (K : _ → Option β) : (aC (S A H m n r) (ad A b 5) (nI x) (ad A b' 5) (nI y) (nI z)).bind K = K (S A H (sb m b' (us (m b') 5 (cpf (m b 5) (m b' 5) x y z))) n r) := by rw [caB5 hb hb' h1 h2]; rfl
theorem caB5L {A b b' n r : Nat} {H : Hp} {m : Mm} (hb : b < 11) (hb' : b' < 11) : aC (S A H m n r) (ad A b 5) 0 (ad A b' 5) 0 10 = some (S A H (sb m b' (us (m b') 5 (cpf (m b 5) (m b' 5) 0 0 10))) n r) := gaC (b := b) (c := 5) (b' := b') (c' := 5) (t := .int) (la := 10) (lb := 10) (Or.inl ⟨hb, by omega⟩) (Or.inl ⟨hb', by omega⟩) ((cel_b hb 5 _).trans rfl) (fun f => (cel_b hb' 5 f).trans rfl) rfl (sp := 0) (dp := 0) (k := 10) rfl rfl rfl (by omega) (by omega) (by omega) (by omega)
theorem caB5Lb {A b b' n r : Nat} {H : Hp} {m : Mm} (hb : b < 11) (hb' : b' < 11) {β : Type} (K : _ → Option β) : (aC (S A H m n r) (ad A b 5) 0 (ad A b' 5) 0 10).bind K = K (S A H (sb m b' (us (m b') 5 (cpf (m b 5) (m b' 5) 0 0 10))) n r) := by rw [caB5L hb hb']; rfl
theorem caB6 {A b b' n r : Nat} {H : Hp} {m : Mm} (hb : b < 11) (hb' : b' < 11) {x y z : Nat} (h1 : x + z ≤ 10) (h2 : y + z ≤ 10) : aC (S A H m n r) (ad A b 6) (nI x) (ad A b' 6) (nI y) (nI z) = some (S A H (sb m b' (us (m b') 6 (cpf (m b 6) (m b' 6) x y z))) n r) := gaC (b := b) (c := 6) (b' := b') (c' := 6) (t := .int) (la := 10) (lb := 10) (Or.inl ⟨hb, by omega⟩) (Or.inl ⟨hb', by omega⟩) ((cel_b hb 6 _).trans rfl) (fun f => (cel_b hb' 6 f).trans rfl) rfl (sp := x) (dp := y) (k := z) rfl rfl rfl h1 h2 (by omega) (by omega)
theorem caB6b {A b b' n r : Nat} {H : Hp} {m : Mm} (hb : b < 11) (hb' : b' < 11) {x y z : Nat} (h1 : x + z ≤ 10) (h2 : y + z ≤ 10) {β : Type} (K : _ → Option β) : (aC (S A H m n r) (ad A b 6) (nI x) (ad A b' 6) (nI y) (nI z)).bind K = K (S A H (sb m b' (us (m b') 6 (cpf (m b 6) (m b' 6) x y z))) n r) := by rw [caB6 hb hb' h1 h2]; rfl
theorem caB6L {A b b' n r : Nat} {H : Hp} {m : Mm} (hb : b < 11) (hb' : b' < 11) : aC (S A H m n r) (ad A b 6) 0 (ad A b' 6) 0 10 = some (S A H (sb m b' (us (m b') 6 (cpf (m b 6) (m b' 6) 0 0 10))) n r) := gaC (b := b) (c := 6) (b' := b') (c' := 6) (t := .int) (la := 10) (lb := 10) (Or.inl ⟨hb, by omega⟩) (Or.inl ⟨hb', by omega⟩) ((cel_b hb 6 _).trans rfl) (fun f => (cel_b hb' 6 f).trans rfl) rfl (sp := 0) (dp := 0) (k := 10) rfl rfl rfl (by omega) (by omega) (by omega) (by omega)
theorem caB6Lb {A b b' n r : Nat} {H : Hp} {m : Mm} (hb : b < 11) (hb' : b' < 11) {β : Type} (K : _ → Option β) : (aC (S A H m n r) (ad A b 6) 0 (ad A b' 6) 0 10).bind K = K (S A H (sb m b' (us (m b') 6 (cpf (m b 6) (m b' 6) 0 0 10))) n r) := by rw [caB6L hb hb']; rfl
theorem caB7 {A b b' n r : Nat} {H : Hp} {m : Mm} (hb : b < 11) (hb' : b' < 11) {x y z : Nat} (h1 : x + z ≤ 10) (h2 : y + z ≤ 10) : aC (S A H m n r) (ad A b 7) (nI x) (ad A b' 7) (nI y) (nI z) = some (S A H (sb m b' (us (m b') 7 (cpf (m b 7) (m b' 7) x y z))) n r) := gaC (b := b) (c := 7) (b' := b') (c' := 7) (t := .int) (la := 10) (lb := 10) (Or.inl ⟨hb, by omega⟩) (Or.inl ⟨hb', by omega⟩) ((cel_b hb 7 _).trans rfl) (fun f => (cel_b hb' 7 f).trans rfl) rfl (sp := x) (dp := y) (k := z) rfl rfl rfl h1 h2 (by omega) (by omega)
theorem caB7b {A b b' n r : Nat} {H : Hp} {m : Mm} (hb : b < 11) (hb' : b' < 11) {x y z : Nat} (h1 : x + z ≤ 10) (h2 : y + z ≤ 10) {β : Type} (K : _ → Option β) : (aC (S A H m n r) (ad A b 7) (nI x) (ad A b' 7) (nI y) (nI z)).bind K = K (S A H (sb m b' (us (m b') 7 (cpf (m b 7) (m b' 7) x y z))) n r) := by rw [caB7 hb hb' h1 h2]; rfl
theorem caB7L {A b b' n r : Nat} {H : Hp} {m : Mm} (hb : b < 11) (hb' : b' < 11) : aC (S A H m n r) (ad A b 7) 0 (ad A b' 7) 0 10 = some (S A H (sb m b' (us (m b') 7 (cpf (m b 7) (m b' 7) 0 0 10))) n r) := gaC (b := b) (c := 7) (b' := b') (c' := 7) (t := .int) (la := 10) (lb := 10) (Or.inl ⟨hb, by omega⟩) (Or.inl ⟨hb', by omega⟩) ((cel_b hb 7 _).trans rfl) (fun f => (cel_b hb' 7 f).trans rfl) rfl (sp := 0) (dp := 0) (k := 10) rfl rfl rfl (by omega) (by omega) (by omega) (by omega)
theorem caB7Lb {A b b' n r : Nat} {H : Hp} {m : Mm} (hb : b < 11) (hb' : b' < 11) {β : Type} (K : _ → Option β) : (aC (S A H m n r) (ad A b 7) 0 (ad A b' 7) 0 10).bind K = K (S A H (sb m b' (us (m b') 7 (cpf (m b 7) (m b' 7) 0 0 10))) n r) := by rw [caB7L hb hb']; rfl
theorem caB8 {A b b' n r : Nat} {H : Hp} {m : Mm} (hb : b < 11) (hb' : b' < 11) {x y z : Nat} (h1 : x + z ≤ 10) (h2 : y + z ≤ 10) : aC (S A H m n r) (ad A b 8) (nI x) (ad A b' 8) (nI y) (nI z) = some (S A H (sb m b' (us (m b') 8 (cpf (m b 8) (m b' 8) x y z))) n r) := gaC (b := b) (c := 8) (b' := b') (c' := 8) (t := .int) (la := 10) (lb := 10) (Or.inl ⟨hb, by omega⟩) (Or.inl ⟨hb', by omega⟩) ((cel_b hb 8 _).trans rfl) (fun f => (cel_b hb' 8 f).trans rfl) rfl (sp := x) (dp := y) (k := z) rfl rfl rfl h1 h2 (by omega) (by omega)
theorem caB8b {A b b' n r : Nat} {H : Hp} {m : Mm} (hb : b < 11) (hb' : b' < 11) {x y z : Nat} (h1 : x + z ≤ 10) (h2 : y + z ≤ 10) {β : Type} (K : _ → Option β) : (aC (S A H m n r) (ad A b 8) (nI x) (ad A b' 8) (nI y) (nI z)).bind K = K (S A H (sb m b' (us (m b') 8 (cpf (m b 8) (m b' 8) x y z))) n r) := by rw [caB8 hb hb' h1 h2]; rfl
theorem caB8L {A b b' n r : Nat} {H : Hp} {m : Mm} (hb : b < 11) (hb' : b' < 11) : aC (S A H m n r) (ad A b 8) 0 (ad A b' 8) 0 10 = some (S A H (sb m b' (us (m b') 8 (cpf (m b 8) (m b' 8) 0 0 10))) n r) := gaC (b := b) (c := 8) (b' := b') (c' := 8) (t := .int) (la := 10) (lb := 10) (Or.inl ⟨hb, by omega⟩) (Or.inl ⟨hb', by omega⟩) ((cel_b hb 8 _).trans rfl) (fun f => (cel_b hb' 8 f).trans rfl) rfl (sp := 0) (dp := 0) (k := 10) rfl rfl rfl (by omega) (by omega) (by omega) (by omega)
theorem caB8Lb {A b b' n r : Nat} {H : Hp} {m : Mm} (hb : b < 11) (hb' : b' < 11) {β : Type} (K : _ → Option β) : (aC (S A H m n r) (ad A b 8) 0 (ad A b' 8) 0 10).bind K = K (S A H (sb m b' (us (m b') 8 (cpf (m b 8) (m b' 8) 0 0 10))) n r) := by rw [caB8L hb hb']; rfl
theorem caB10 {A b b' n r : Nat} {H : Hp} {m : Mm} (hb : b < 11) (hb' : b' < 11) {x y z : Nat} (h1 : x + z ≤ 6) (h2 : y + z ≤ 6) : aC (S A H m n r) (ad A b 10) (nI x) (ad A b' 10) (nI y) (nI z) = some (S A H (sb m b' (us (m b') 10 (cpf (m b 10) (m b' 10) x y z))) n r) := gaC (b := b) (c := 10) (b' := b') (c' := 10) (t := .char) (la := 6) (lb := 6) (Or.inl ⟨hb, by omega⟩) (Or.inl ⟨hb', by omega⟩) ((cel_b hb 10 _).trans rfl) (fun f => (cel_b hb' 10 f).trans rfl) rfl (sp := x) (dp := y) (k := z) rfl rfl rfl h1 h2 (by omega) (by omega)
theorem caB10b {A b b' n r : Nat} {H : Hp} {m : Mm} (hb : b < 11) (hb' : b' < 11) {x y z : Nat} (h1 : x + z ≤ 6) (h2 : y + z ≤ 6) {β : Type} (K : _ → Option β) : (aC (S A H m n r) (ad A b 10) (nI x) (ad A b' 10) (nI y) (nI z)).bind K = K (S A H (sb m b' (us (m b') 10 (cpf (m b 10) (m b' 10) x y z))) n r) := by rw [caB10 hb hb' h1 h2]; rfl
theorem caB10L {A b b' n r : Nat} {H : Hp} {m : Mm} (hb : b < 11) (hb' : b' < 11) : aC (S A H m n r) (ad A b 10) 0 (ad A b' 10) 0 6 = some (S A H (sb m b' (us (m b') 10 (cpf (m b 10) (m b' 10) 0 0 6))) n r) := gaC (b := b) (c := 10) (b' := b') (c' := 10) (t := .char) (la := 6) (lb := 6) (Or.inl ⟨hb, by omega⟩) (Or.inl ⟨hb', by omega⟩) ((cel_b hb 10 _).trans rfl) (fun f => (cel_b hb' 10 f).trans rfl) rfl (sp := 0) (dp := 0) (k := 6) rfl rfl rfl (by omega) (by omega) (by omega) (by omega)
theorem caB10Lb {A b b' n r : Nat} {H : Hp} {m : Mm} (hb : b < 11) (hb' : b' < 11) {β : Type} (K : _ → Option β) : (aC (S A H m n r) (ad A b 10) 0 (ad A b' 10) 0 6).bind K = K (S A H (sb m b' (us (m b') 10 (cpf (m b 10) (m b' 10) 0 0 6))) n r) := by rw [caB10L hb hb']; rfl
theorem caB11 {A b b' n r : Nat} {H : Hp} {m : Mm} (hb : b < 11) (hb' : b' < 11) {x y z : Nat} (h1 : x + z ≤ 6) (h2 : y + z ≤ 6) : aC (S A H m n r) (ad A b 11) (nI x) (ad A b' 11) (nI y) (nI z) = some (S A H (sb m b' (us (m b') 11 (cpf (m b 11) (m b' 11) x y z))) n r) := gaC (b := b) (c := 11) (b' := b') (c' := 11) (t := .int) (la := 6) (lb := 6) (Or.inl ⟨hb, by omega⟩) (Or.inl ⟨hb', by omega⟩) ((cel_b hb 11 _).trans rfl) (fun f => (cel_b hb' 11 f).trans rfl) rfl (sp := x) (dp := y) (k := z) rfl rfl rfl h1 h2 (by omega) (by omega)
theorem caB11b {A b b' n r : Nat} {H : Hp} {m : Mm} (hb : b < 11) (hb' : b' < 11) {x y z : Nat} (h1 : x + z ≤ 6) (h2 : y + z ≤ 6) {β : Type} (K : _ → Option β) : (aC (S A H m n r) (ad A b 11) (nI x) (ad A b' 11) (nI y) (nI z)).bind K = K (S A H (sb m b' (us (m b') 11 (cpf (m b 11) (m b' 11) x y z))) n r) := by rw [caB11 hb hb' h1 h2]; rfl
theorem caB11L {A b b' n r : Nat} {H : Hp} {m : Mm} (hb : b < 11) (hb' : b' < 11) : aC (S A H m n r) (ad A b 11) 0 (ad A b' 11) 0 6 = some (S A H (sb m b' (us (m b') 11 (cpf (m b 11) (m b' 11) 0 0 6))) n r) := gaC (b := b) (c := 11) (b' := b') (c' := 11) (t := .int) (la := 6) (lb := 6) (Or.inl ⟨hb, by omega⟩) (Or.inl ⟨hb', by omega⟩) ((cel_b hb 11 _).trans rfl) (fun f => (cel_b hb' 11 f).trans rfl) rfl (sp := 0) (dp := 0) (k := 6) rfl rfl rfl (by omega) (by omega) (by omega) (by omega)
theorem caB11Lb {A b b' n r : Nat} {H : Hp} {m : Mm} (hb : b < 11) (hb' : b' < 11) {β : Type} (K : _ → Option β) : (aC (S A H m n r) (ad A b 11) 0 (ad A b' 11) 0 6).bind K = K (S A H (sb m b' (us (m b') 11 (cpf (m b 11) (m b' 11) 0 0 6))) n r) := by rw [caB11L hb hb']; rfl
theorem caB12 {A b b' n r : Nat} {H : Hp} {m : Mm} (hb : b < 11) (hb' : b' < 11) {x y z : Nat} (h1 : x + z ≤ 6) (h2 : y + z ≤ 6) : aC (S A H m n r) (ad A b 12) (nI x) (ad A b' 12) (nI y) (nI z) = some (S A H (sb m b' (us (m b') 12 (cpf (m b 12) (m b' 12) x y z))) n r) := gaC (b := b) (c := 12) (b' := b') (c' := 12) (t := .int) (la := 6) (lb := 6) (Or.inl ⟨hb, by omega⟩) (Or.inl ⟨hb', by omega⟩) ((cel_b hb 12 _).trans rfl) (fun f => (cel_b hb' 12 f).trans rfl) rfl (sp := x) (dp := y) (k := z) rfl rfl rfl h1 h2 (by omega) (by omega)
theorem caB12b {A b b' n r : Nat} {H : Hp} {m : Mm} (hb : b < 11) (hb' : b' < 11) {x y z : Nat} (h1 : x + z ≤ 6) (h2 : y + z ≤ 6) {β : Type} (K : _ → Option β) : (aC (S A H m n r) (ad A b 12) (nI x) (ad A b' 12) (nI y) (nI z)).bind K = K (S A H (sb m b' (us (m b') 12 (cpf (m b 12) (m b' 12) x y z))) n r) := by rw [caB12 hb hb' h1 h2]; rfl
theorem caB12L {A b b' n r : Nat} {H : Hp} {m : Mm} (hb : b < 11) (hb' : b' < 11) : aC (S A H m n r) (ad A b 12) 0 (ad A b' 12) 0 6 = some (S A H (sb m b' (us (m b') 12 (cpf (m b 12) (m b' 12) 0 0 6))) n r) := gaC (b := b) (c := 12) (b' := b') (c' := 12) (t := .int) (la := 6) (lb := 6) (Or.inl ⟨hb, by omega⟩) (Or.inl ⟨hb', by omega⟩) ((cel_b hb 12 _).trans rfl) (fun f => (cel_b hb' 12 f).trans rfl) rfl (sp := 0) (dp := 0) (k := 6) rfl rfl rfl (by omega) (by omega) (by omega) (by omega)
theorem caB12Lb {A b b' n r : Nat} {H : Hp} {m : Mm} (hb : b < 11) (hb' : b' < 11) {β : Type} (K : _ → Option β) : (aC (S A H m n r) (ad A b 12) 0 (ad A b' 12) 0 6).bind K = K (S A H (sb m b' (us (m b') 12 (cpf (m b 12) (m b' 12) 0 0 6))) n r) := by rw [caB12L hb hb']; rfl
theorem caB13 {A b b' n r : Nat} {H : Hp} {m : Mm} (hb : b < 11) (hb' : b' < 11) {x y z : Nat} (h1 : x + z ≤ 6) (h2 : y + z ≤ 6) : aC (S A H m n r) (ad A b 13) (nI x) (ad A b' 13) (nI y) (nI z) = some (S A H (sb m b' (us (m b') 13 (cpf (m b 13) (m b' 13) x y z))) n r) := gaC (b := b) (c := 13) (b' := b') (c' := 13) (t := .int) (la := 6) (lb := 6) (Or.inl ⟨hb, by omega⟩) (Or.inl ⟨hb', by omega⟩) ((cel_b hb 13 _).trans rfl) (fun f => (cel_b hb' 13 f).trans rfl) rfl (sp := x) (dp := y) (k := z) rfl rfl rfl h1 h2 (by omega) (by omega)
theorem caB13b {A b b' n r : Nat} {H : Hp} {m : Mm} (hb : b < 11) (hb' : b' < 11) {x y z : Nat} (h1 : x + z ≤ 6) (h2 : y + z ≤ 6) {β : Type} (K : _ → Option β) : (aC (S A H m n r) (ad A b 13) (nI x) (ad A b' 13) (nI y) (nI z)).bind K = K (S A H (sb m b' (us (m b') 13 (cpf (m b 13) (m b' 13) x y z))) n r) := by rw [caB13 hb hb' h1 h2]; rfl
theorem caB13L {A b b' n r : Nat} {H : Hp} {m : Mm} (hb : b < 11) (hb' : b' < 11) : aC (S A H m n r) (ad A b 13) 0 (ad A b' 13) 0 6 = some (S A H (sb m b' (us (m b') 13 (cpf (m b 13) (m b' 13) 0 0 6))) n r) := gaC (b := b) (c := 13) (b' := b') (c' := 13) (t := .int) (la := 6) (lb := 6) (Or.inl ⟨hb, by omega⟩) (Or.inl ⟨hb', by omega⟩) ((cel_b hb 13 _).trans rfl) (fun f => (cel_b hb' 13 f).trans rfl) rfl (sp := 0) (dp := 0) (k := 6) rfl rfl rfl (by omega) (by omega) (by omega) (by omega)
theorem caB13Lb {A b b' n r : Nat} {H : Hp} {m : Mm} (hb : b < 11) (hb' : b' < 11) {β : Type} (K : _ → Option β) : (aC (S A H m n r) (ad A b 13) 0 (ad A b' 13) 0 6).bind K = K (S A H (sb m b' (us (m b') 13 (cpf (m b 13) (m b' 13) 0 0 6))) n r) := by rw [caB13L hb hb']; rfl
theorem raH {A n r : Nat} {H : Hp} {m : Mm} {i : Nat} (hi : i < 8) : aR (S A H m n r) (ad A 11 1) (nI i) = some (ad A (m 11 1 i).toNatClampNeg 0) := by
  unfold aR aV aL
  rw [S_at (b := 11) (c := 1) (Or.inr (Or.inl ⟨rfl, by omega⟩)) rfl]
  simp only [FieldType.isReference, if_true, Option.bind_some]
  rw [if_neg (nI_pos (by omega)), nI_clamp (by omega)]
  simp [hi]
theorem raHb {A n r : Nat} {H : Hp} {m : Mm} {i : Nat} (hi : i < 8) {β : Type} (K : _ → Option β) : (aR (S A H m n r) (ad A 11 1) (nI i)).bind K = K (ad A (m 11 1 i).toNatClampNeg 0) := by rw [raH hi]; rfl
theorem raH0b {A n r : Nat} {H : Hp} {m : Mm} {β : Type} (K : _ → Option β) : (aR (S A H m n r) (ad A 11 1) 0).bind K = K (ad A (m 11 1 0).toNatClampNeg 0) := raHb (i := 0) (by omega) K
theorem waH {A n r : Nat} {H : Hp} {m : Mm} {i j : Nat} (hi : i < 8) (hj : j < 11) : aRW (S A H m n r) "CloudInterviews$Board" 1 (ad A 11 1) (nI i) (ad A j 0) = some (S A H (sb m 11 (ud (m 11) 1 i (nI j))) n r) := by
  unfold aRW
  rw [S_at (b := 11) (c := 1) (Or.inr (Or.inl ⟨rfl, by omega⟩)) rfl]
  simp only []
  rw [if_pos ⟨trivial, rcB0 hj, nI_pos (by omega), by simp only [List.length_map, List.length_range]; rw [nI_clamp (by omega)]; exact hi⟩, nI_clamp (by omega)]
  refine congrArg some (Eq.trans ?_ (S_wr (b := 11) (c := 1) (f := fun l => if l = i then nI j else m 11 1 l) (Or.inr (Or.inl ⟨rfl, by omega⟩)) rfl))
  congr 4
  apply List.ext_getElem?
  intro l
  rw [List.getElem?_set]
  by_cases e : i = l
  · subst e
    simp [hi, nI_clamp (show j < 2 ^ 31 by omega)]
  · rw [if_neg e]
    by_cases hl : l < 8
    · simp [hl, Ne.symm e]
    · simp [hl]
theorem waHb {A n r : Nat} {H : Hp} {m : Mm} {i j : Nat} (hi : i < 8) (hj : j < 11) {β : Type} (K : _ → Option β) : (aRW (S A H m n r) "CloudInterviews$Board" 1 (ad A 11 1) (nI i) (ad A j 0)).bind K = K (S A H (sb m 11 (ud (m 11) 1 i (nI j))) n r) := by rw [waH hi hj]; rfl
theorem waH7b {A n r : Nat} {H : Hp} {m : Mm} {j : Nat} (hj : j < 11) {β : Type} (K : _ → Option β) : (aRW (S A H m n r) "CloudInterviews$Board" 1 (ad A 11 1) 7 (ad A j 0)).bind K = K (S A H (sb m 11 (ud (m 11) 1 7 (nI j))) n r) := waHb (i := 7) (by omega) hj K
-- loops
def cnt (p : Nat → Bool) : Nat → Nat
  | 0 => 0
  | n + 1 => cnt p n + (if p n = true then 1 else 0)
def sm (f : Nat → Int32) : Nat → Int32
  | 0 => 0
  | n + 1 => sm f n + f n
def fst (p : Nat → Bool) (n : Nat) : Option Nat := (List.range n).find? p
def best (p : Nat → Bool) (lt : Nat → Nat → Bool) : Nat → Option Nat
  | 0 => none
  | n + 1 => match best p lt n with
    | none => if p n = true then some n else none
    | some j => if p n = true ∧ lt n j = true then some n else some j
def oI : Option Nat → Int32
  | none => -1
  | some i => nI i
def bI (b : Bool) : Int32 := if b = true then 1 else 0
theorem fst_some {p : Nat → Bool} {n i : Nat} (h : fst p n = some i) : i < n ∧ p i = true ∧ ∀ j, j < i → p j = false := by
  unfold fst at h
  have := List.find?_range_eq_some.mp h
  refine ⟨by simpa using this.2.1, this.1, fun j hj => by simpa using this.2.2 j hj⟩
theorem fst_none {p : Nat → Bool} {n : Nat} (h : fst p n = none) : ∀ j, j < n → p j = false := by
  unfold fst at h
  intro j hj
  have := List.find?_range_eq_none.mp h j hj
  simpa using this
theorem fst_of {p : Nat → Bool} {n i : Nat} (h : i < n) (h1 : p i = true) (h2 : ∀ j, j < i → p j = false) : fst p n = some i := by
  unfold fst
  exact List.find?_range_eq_some.mpr ⟨h1, by simpa using h, fun j hj => by simpa using h2 j hj⟩
theorem fst_of0 {p : Nat → Bool} {n : Nat} (h2 : ∀ j, j < n → p j = false) : fst p n = none := by
  unfold fst
  exact List.find?_range_eq_none.mpr (fun j hj => by simpa using h2 j hj)
theorem lp_from {F : Nat → Res} {n : Nat} {p : Nat → Bool} {r : Nat → Res} {r0 : Res} (h : ∀ i, i < n → F i = if p i = true then r i else F (i + 1)) (h0 : F n = r0) : ∀ k i, i + k = n → (∀ j, j < i → p j = false) → F i = match fst p n with
    | some i => r i
    | none => r0 := by
  intro k
  induction k with
  | zero =>
    intro i hi hj
    have : i = n := by omega
    subst this
    rw [fst_of0 hj, h0]
  | succ k ih =>
    intro i hi hj
    rw [h i (by omega)]
    by_cases hp : p i = true
    · rw [if_pos hp, fst_of (by omega) hp hj]
    · rw [if_neg hp]
      refine ih (i + 1) (by omega) fun j hj' => ?_
      by_cases e : j = i
      · subst e; simpa using hp
      · exact hj j (by omega)
theorem lp_fst {F : Nat → Res} {n : Nat} {p : Nat → Bool} {r : Nat → Res} {r0 : Res} (h : ∀ i, i < n → F i = if p i = true then r i else F (i + 1)) (h0 : F n = r0) : F 0 = match fst p n with
    | some i => r i
    | none => r0 := lp_from h h0 n 0 (by omega) (fun j hj => absurd hj (by omega))
/-- a loop that carries a, by its values at each turn -/
theorem lp_upI {α : Type} {F : Nat → α → Res} {n : Nat} {g : Nat → α} (h : ∀ i, i < n → F i (g i) = F (i + 1) (g (i + 1))) : F 0 (g 0) = F n (g n) := by
  suffices ∀ k, k ≤ n → F 0 (g 0) = F k (g k) from this n (Nat.le_refl n)
  intro k
  induction k with
  | zero => intro _; rfl
  | succ k ih => intro hk; rw [ih (by omega), h k (by omega)]
theorem lp_dn {α : Type} {F : Nat → α → Res} {n : Nat} {g : Nat → α} (h : ∀ i, i < n → F (i + 1) (g (i + 1)) = F i (g i)) : F n (g n) = F 0 (g 0) := by
  suffices ∀ k, k ≤ n → F k (g k) = F 0 (g 0) from this n (Nat.le_refl n)
  intro k
  induction k with
  | zero => intro _; rfl
  | succ k ih => intro hk; rw [h k (by omega), ih (by omega)]
theorem cI_ok (x : Int32) (σ : St) (k : Int32 → St → Res) : cI (some (.inl (some (.int x)), σ)) k = k x σ := rfl
theorem cR_ok (x : Nat) (σ : St) (k : Nat → St → Res) : cR (some (.inl (some (.ref x)), σ)) k = k x σ := rfl
theorem cV_ok (σ : St) (k : St → Res) : cV (some (.inl none, σ)) k = k σ := rfl
theorem cN_ok (x : Nat) (σ : St) (k0 : St → Res) (k : Nat → St → Res) : cN (some (.inl (some (.ref x)), σ)) k0 k = k x σ := rfl
theorem cN_nu (σ : St) (k0 : St → Res) (k : Nat → St → Res) : cN (some (.inl (some .null), σ)) k0 k = k0 σ := rfl
theorem cI_ex (e : String) (σ : St) (k : Int32 → St → Res) : cI (some (.inr e, σ)) k = some (.inr e, σ) := rfl
theorem cR_ex (e : String) (σ : St) (k : Nat → St → Res) : cR (some (.inr e, σ)) k = some (.inr e, σ) := rfl
theorem cV_ex (e : String) (σ : St) (k : St → Res) : cV (some (.inr e, σ)) k = some (.inr e, σ) := rfl
theorem gI_sm (x : Int32) (k : Int32 → Res) : gI (some (.int x)) k = k x := rfl
theorem gR_sm (x : Nat) (k : Nat → Res) : gR (some (.ref x)) k = k x := rfl
theorem bI_t : bI true = 1 := rfl
theorem bI_f : bI false = 0 := rfl
theorem bI_0 (b : Bool) : (bI b = 0) ↔ b = false := by cases b <;> simp [bI]
theorem oI_n : (oI none) = -1 := rfl
theorem oI_s (i : Nat) : oI (some i) = nI i := rfl
theorem nI_nm1 {i : Nat} (h : i < 2 ^ 31) : ¬ nI i = -1 := by
  intro e
  have := congrArg Int32.toInt e
  rw [nI_toInt h] at this
  have h2 : (-1 : Int32).toInt = -1 := by decide
  omega
theorem lit_nI (k : Nat) : (OfNat.ofNat k : Int32) = nI k := rfl
theorem cnt_le (p : Nat → Bool) (n : Nat) : cnt p n ≤ n := by
  induction n with
  | zero => exact Nat.le_refl 0
  | succ n ih => unfold cnt; split <;> omega
theorem best_lt {p : Nat → Bool} {lt : Nat → Nat → Bool} : ∀ {n i : Nat}, best p lt n = some i → i < n ∧ p i = true := by
  intro n
  induction n with
  | zero => intro i h; simp [best] at h
  | succ n ih =>
    intro i h
    unfold best at h
    split at h
    · split at h
      · cases h; exact ⟨by omega, by assumption⟩
      · cases h
    · rename_i j hj
      split at h
      · cases h; rename_i hh; exact ⟨by omega, hh.1⟩
      · cases h; have := ih hj; exact ⟨by omega, this.2⟩
