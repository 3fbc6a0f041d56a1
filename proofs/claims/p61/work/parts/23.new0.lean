/-! NEW OBJECTS: the cells as the constructors lay them. -/
def HL (A : Nat) (H0 : Hp) (l : List Cel) : Hp := fun q => if A ≤ q ∧ q < A + l.length then l[q - A]? else H0 q
def LSt (A : Nat) (H0 : Hp) (l : List Cel) (r : Nat) : St := (HL A H0 l, A + l.length, r)
theorem LSt_nil (A : Nat) (H0 : Hp) (r : Nat) : LSt A H0 [] r = (H0, A, r) := by
  refine Prod.ext ?_ rfl
  funext q
  show (if A ≤ q ∧ q < A + 0 then _ else H0 q) = H0 q
  rw [if_neg (by omega)]
theorem LSt_wall (A : Nat) (H0 : Hp) (l : List Cel) (r : Nat) (c : Cel) (k : Nat) : wall (LSt A H0 l r) c k = LSt A H0 (l ++ [c]) (r + k) := by
  refine Prod.ext ?_ (Prod.ext ?_ rfl)
  · funext q
    show (if q = A + l.length then some c else HL A H0 l q) = HL A H0 (l ++ [c]) q
    unfold HL
    rw [List.length_append, List.length_singleton]
    by_cases h : q = A + l.length
    · rw [if_pos h, if_pos (by omega), List.getElem?_append_right (by omega), show q - A - l.length = 0 by omega]; rfl
    · rw [if_neg h]
      by_cases h2 : A ≤ q ∧ q < A + l.length
      · rw [if_pos h2, if_pos (by omega), List.getElem?_append_left (by omega)]
      · rw [if_neg h2, if_neg (by omega)]
  · show A + l.length + 1 = A + (l ++ [c]).length
    rw [List.length_append, List.length_singleton]; omega
theorem LSt_at {A : Nat} {H0 : Hp} {l : List Cel} {r k : Nat} {c : Cel} (h : l[k]? = some c) : (LSt A H0 l r).1 (A + k) = some c := by
  have hk : k < l.length := by
    refine Classical.byContradiction fun hh => ?_
    rw [List.getElem?_eq_none (by omega)] at h; cases h
  show (if A ≤ A + k ∧ A + k < A + l.length then l[A + k - A]? else _) = _
  rw [if_pos (by omega), show A + k - A = k by omega]; exact h
theorem LSt_wset {A : Nat} {H0 : Hp} {l : List Cel} {r k : Nat} (hk : k < l.length) (c : Cel) : wset (LSt A H0 l r) (A + k) c = LSt A H0 (l.set k c) r := by
  refine Prod.ext ?_ (Prod.ext ?_ rfl)
  · funext q
    show (if q = A + k then some c else HL A H0 l q) = HL A H0 (l.set k c) q
    unfold HL
    rw [List.length_set]
    by_cases h : q = A + k
    · rw [if_pos h, if_pos (by omega), show q - A = k by omega, List.getElem?_set_self hk]
    · rw [if_neg h]
      by_cases h2 : A ≤ q ∧ q < A + l.length
      · rw [if_pos h2, if_pos h2, List.getElem?_set_ne (by omega)]
      · rw [if_neg h2, if_neg h2]
  · show A + l.length = A + (l.set k c).length
    rw [List.length_set]
theorem LSt_fW {A : Nat} {H0 : Hp} {l : List Cel} {r k ci i : Nat} {fs : List Value} (h : l[k]? = some (.inr (ci, fs))) (hi : i < fs.length) (v : Value) {β : Type} (K : St → Option β) : (fW (LSt A H0 l r) (A + k) ci i v).bind K = K (LSt A H0 (l.set k (.inr (ci, fs.set i v))) r) := by
  have hk : k < l.length := by
    refine Classical.byContradiction fun hh => ?_
    rw [List.getElem?_eq_none (by omega)] at h; cases h
  unfold fW; rw [LSt_at h]
  simp only [true_and, if_pos hi]
  rw [LSt_wset hk]; rfl
theorem LSt_rcv {A : Nat} {H0 : Hp} {l : List Cel} {r k ci : Nat} {fs : List Value} (h : l[k]? = some (.inr (ci, fs))) : rcv (LSt A H0 l r) (A + k) ci = true := by
  unfold rcv; rw [LSt_at h]; simp
theorem LSt_top (A : Nat) (H0 : Hp) (l : List Cel) (r : Nat) : (LSt A H0 l r).2.1 = A + l.length := rfl
theorem app_at {l : List Cel} {t : List Cel} (j : Nat) : (l ++ t)[l.length + j]? = t[j]? := by
  rw [List.getElem?_append_right (by omega), show l.length + j - l.length = j by omega]
theorem app_set {l : List Cel} {t : List Cel} (j : Nat) (c : Cel) : (l ++ t).set (l.length + j) c = l ++ t.set j c := by
  rw [List.set_append_right _ _ (by omega), show l.length + j - l.length = j by omega]
/-- a field of an object of the last cells -/
theorem LA_fW {A : Nat} {H0 : Hp} {l t : List Cel} {r a ci i : Nat} {fs : List Value} (j : Nat) (ha : a = A + (l.length + j)) (h : t[j]? = some (.inr (ci, fs))) (hi : Nat.blt i fs.length = true) (v : Value) {β : Type} (K : St → Option β) : (fW (LSt A H0 (l ++ t) r) a ci i v).bind K = K (LSt A H0 (l ++ t.set j (.inr (ci, fs.set i v))) r) := by
  subst ha
  have hi2 : i < fs.length := by unfold Nat.blt at hi; exact Nat.le_of_ble_eq_true hi
  rw [LSt_fW (l := l ++ t) (k := l.length + j) (by rw [app_at]; exact h) hi2, app_set]
theorem LA_fR {A : Nat} {H0 : Hp} {l t : List Cel} {r a ci i q : Nat} {fs : List Value} (j : Nat) (ha : a = A + (l.length + j)) (h : t[j]? = some (.inr (ci, fs))) (hv : fs[i]? = some (.ref q)) : fR (LSt A H0 (l ++ t) r) a ci i = some q := by
  subst ha
  unfold fR fV
  rw [LSt_at (l := l ++ t) (k := l.length + j) (by rw [app_at]; exact h)]
  simp only [if_pos, hv]
def iz (k : Nat) : Cel := .inl (.int, true, List.replicate k (.int 0))
def cz (k : Nat) : Cel := .inl (.char, true, List.replicate k (.int 0))
def bz (k : Nat) : Cel := .inl (.boolean, true, List.replicate k (.int 0))
def apC (a : Nat) : List Cel := [.inr (0, [.int 0, .int 0, .ref (a + 1), .ref (a + 2), .ref (a + 3), .ref (a + 4), .ref (a + 5), .ref (a + 6), .ref (a + 7)]), iz 10, cz 10, iz 10, iz 10, iz 10, iz 10, iz 10]
def poC (a : Nat) : List Cel := [.inr (4, [.int 0, .ref (a + 1), .ref (a + 2), .ref (a + 3), .ref (a + 4)]), cz 6, iz 6, iz 6, iz 6]
def bdC (a : Nat) : List Cel := .inr (1, [.ref (a + 1), .ref (a + 9), .int 0]) :: (apC (a + 1) ++ poC (a + 9))
def hiC (a : Nat) : List Cel := [.inr (3, [.ref (a + 1), .ref (a + 2), .ref (a + 3), .ref (a + 4), .ref (a + 5), .ref (a + 6)]), iz 6, iz 10, iz 10, bz 10, bz 64, iz 6]
def sbC (a : Nat) : List Cel := [.inr (7, [.ref (a + 1), .int 0, .int 0, .int 0]), .inl (.byte, true, List.replicate 16 (.int 0))]
def cmC (a : Nat) : List Cel := [.inr (2, [.ref (a + 1), .int 0, .ref (a + 2), .int 0, .int 0, .int 42, .ref (a + 3), .int 0]), cz 60, iz 60, iz 3]
theorem gI_some {β : Type} (v : Int32) (k : Int32 → Option β) : gI (some (.int v)) k = k v := rfl
theorem LSt_tp (A : Nat) (H0 : Hp) (l t : List Cel) (r k : Nat) (h : t.length = k) : (LSt A H0 (l ++ t) r).2.1 = A + (l.length + k) := by
  show A + (l ++ t).length = _
  rw [List.length_append, h]
theorem LSt_wl (A : Nat) (H0 : Hp) (l t : List Cel) (r : Nat) (c : Cel) (k : Nat) : wall (LSt A H0 (l ++ t) r) c k = LSt A H0 (l ++ (t ++ [c])) (r + k) := by
  rw [LSt_wall, List.append_assoc]
section
variable {G : Glb} {A r : Nat} {H0 : Hp} {l : List Cel}
theorem s117 (d : Nat) {a : Nat} (ha : a = A + l.length) : call G d 117 [.ref a] (LSt A H0 (l ++ [.inr (0, [.int 0, .int 0, .null, .null, .null, .null, .null, .null, .null])]) r) = vV (LSt A H0 (l ++ apC a) (r + 70)) := by
  rw [b117_e]
  rw [LA_fW 0 ha rfl rfl, LA_fW 0 ha rfl rfl]
  rw [LSt_wl, LSt_tp _ _ _ _ _ 1 rfl, LA_fW 0 ha rfl rfl]
  rw [LSt_wl, LSt_tp _ _ _ _ _ 2 rfl, LA_fW 0 ha rfl rfl]
  rw [LSt_wl, LSt_tp _ _ _ _ _ 3 rfl, LA_fW 0 ha rfl rfl]
  rw [LSt_wl, LSt_tp _ _ _ _ _ 4 rfl, LA_fW 0 ha rfl rfl]
  rw [LSt_wl, LSt_tp _ _ _ _ _ 5 rfl, LA_fW 0 ha rfl rfl]
  rw [LSt_wl, LSt_tp _ _ _ _ _ 6 rfl, LA_fW 0 ha rfl rfl]
  rw [LSt_wl, LSt_tp _ _ _ _ _ 7 rfl, LA_fW 0 ha rfl rfl]
  subst ha; rfl
theorem s117c (d : Nat) {a : Nat} (ha : a = A + l.length) (K : St → Res) : cV (call G d 117 [.ref a] (LSt A H0 (l ++ [.inr (0, [.int 0, .int 0, .null, .null, .null, .null, .null, .null, .null])]) r)) K = K (LSt A H0 (l ++ apC a) (r + 70)) := congrArg (fun z => cV z K) (show call G d 117 [.ref a] (LSt A H0 (l ++ [.inr (0, [.int 0, .int 0, .null, .null, .null, .null, .null, .null, .null])]) r) = vV (LSt A H0 (l ++ apC a) (r + 70)) from by apply s117 <;> assumption)
theorem s182 (d : Nat) {a : Nat} (ha : a = A + l.length) : call G d 182 [.ref a] (LSt A H0 (l ++ [.inr (4, [.int 0, .null, .null, .null, .null])]) r) = vV (LSt A H0 (l ++ poC a) (r + 24)) := by
  rw [b182_e]
  rw [LA_fW 0 ha rfl rfl]
  rw [LSt_wl, LSt_tp _ _ _ _ _ 1 rfl, LA_fW 0 ha rfl rfl]
  rw [LSt_wl, LSt_tp _ _ _ _ _ 2 rfl, LA_fW 0 ha rfl rfl]
  rw [LSt_wl, LSt_tp _ _ _ _ _ 3 rfl, LA_fW 0 ha rfl rfl]
  rw [LSt_wl, LSt_tp _ _ _ _ _ 4 rfl, LA_fW 0 ha rfl rfl]
  subst ha; rfl
theorem s182c (d : Nat) {a : Nat} (ha : a = A + l.length) (K : St → Res) : cV (call G d 182 [.ref a] (LSt A H0 (l ++ [.inr (4, [.int 0, .null, .null, .null, .null])]) r)) K = K (LSt A H0 (l ++ poC a) (r + 24)) := congrArg (fun z => cV z K) (show call G d 182 [.ref a] (LSt A H0 (l ++ [.inr (4, [.int 0, .null, .null, .null, .null])]) r) = vV (LSt A H0 (l ++ poC a) (r + 24)) from by apply s182 <;> assumption)
theorem s165 (d : Nat) {a : Nat} (ha : a = A + l.length) : call G d 165 [.ref a] (LSt A H0 (l ++ [.inr (3, [.null, .null, .null, .null, .null, .null])]) r) = vV (LSt A H0 (l ++ hiC a) (r + 106)) := by
  rw [b165_e]
  rw [LSt_wl, LSt_tp _ _ _ _ _ 1 rfl, LA_fW 0 ha rfl rfl]
  rw [LSt_wl, LSt_tp _ _ _ _ _ 2 rfl, LA_fW 0 ha rfl rfl]
  rw [LSt_wl, LSt_tp _ _ _ _ _ 3 rfl, LA_fW 0 ha rfl rfl]
  rw [LSt_wl, LSt_tp _ _ _ _ _ 4 rfl, LA_fW 0 ha rfl rfl]
  rw [LSt_wl, LSt_tp _ _ _ _ _ 5 rfl, LA_fW 0 ha rfl rfl]
  rw [LSt_wl, LSt_tp _ _ _ _ _ 6 rfl, LA_fW 0 ha rfl rfl]
  subst ha; rfl
theorem s165c (d : Nat) {a : Nat} (ha : a = A + l.length) (K : St → Res) : cV (call G d 165 [.ref a] (LSt A H0 (l ++ [.inr (3, [.null, .null, .null, .null, .null, .null])]) r)) K = K (LSt A H0 (l ++ hiC a) (r + 106)) := congrArg (fun z => cV z K) (show call G d 165 [.ref a] (LSt A H0 (l ++ [.inr (3, [.null, .null, .null, .null, .null, .null])]) r) = vV (LSt A H0 (l ++ hiC a) (r + 106)) from by apply s165 <;> assumption)
theorem s301 (d : Nat) {a : Nat} (hk : G 8 18 = some (.int 1)) (ha : a = A + l.length) : call G d 301 [.ref a, .int 16] (LSt A H0 (l ++ [.inr (7, [.null, .int 0, .int 0, .int 0])]) r) = vV (LSt A H0 (l ++ sbC a) (r + 16)) := by
  rw [b301_e, hk, gI_some]
  rw [if_neg (by decide), if_neg (by decide), show (Int32.toNatClampNeg 16) = 16 from by decide]
  rw [LSt_wl, LSt_tp _ _ _ _ _ 1 rfl, LA_fW 0 ha rfl rfl, LA_fW 0 ha rfl rfl]
  subst ha; rfl
theorem s301c (d : Nat) {a : Nat} (hk : G 8 18 = some (.int 1)) (ha : a = A + l.length) (K : St → Res) : cV (call G d 301 [.ref a, .int 16] (LSt A H0 (l ++ [.inr (7, [.null, .int 0, .int 0, .int 0])]) r)) K = K (LSt A H0 (l ++ sbC a) (r + 16)) := congrArg (fun z => cV z K) (show call G d 301 [.ref a, .int 16] (LSt A H0 (l ++ [.inr (7, [.null, .int 0, .int 0, .int 0])]) r) = vV (LSt A H0 (l ++ sbC a) (r + 16)) from by apply s301 <;> assumption)
theorem s319 (d : Nat) {a : Nat} (hk : G 8 18 = some (.int 1)) (ha : a = A + l.length) : call G (d + 1) 319 [.ref a] (LSt A H0 (l ++ [.inr (7, [.null, .int 0, .int 0, .int 0])]) r) = vV (LSt A H0 (l ++ sbC a) (r + 16)) := by
  rw [b319_e, s301 d hk ha]; rfl
theorem s319c (d : Nat) {a : Nat} (hk : G 8 18 = some (.int 1)) (ha : a = A + l.length) (K : St → Res) : cV (call G (d + 1) 319 [.ref a] (LSt A H0 (l ++ [.inr (7, [.null, .int 0, .int 0, .int 0])]) r)) K = K (LSt A H0 (l ++ sbC a) (r + 16)) := congrArg (fun z => cV z K) (show call G (d + 1) 319 [.ref a] (LSt A H0 (l ++ [.inr (7, [.null, .int 0, .int 0, .int 0])]) r) = vV (LSt A H0 (l ++ sbC a) (r + 16)) from by apply s319 <;> assumption)
theorem s154 (d : Nat) {a : Nat} (ha : a = A + l.length) : call G d 154 [.ref a] (LSt A H0 (l ++ [.inr (2, [.null, .int 0, .null, .int 0, .int 0, .int 0, .null, .int 0])]) r) = vV (LSt A H0 (l ++ cmC a) (r + 123)) := by
  rw [b154_e]
  rw [LSt_wl, LSt_tp _ _ _ _ _ 1 rfl, LA_fW 0 ha rfl rfl, LA_fW 0 ha rfl rfl]
  rw [LSt_wl, LSt_tp _ _ _ _ _ 2 rfl, LA_fW 0 ha rfl rfl, LA_fW 0 ha rfl rfl, LA_fW 0 ha rfl rfl, LA_fW 0 ha rfl rfl]
  rw [LSt_wl, LSt_tp _ _ _ _ _ 3 rfl, LA_fW 0 ha rfl rfl, LA_fW 0 ha rfl rfl]
  subst ha; rfl
theorem s154c (d : Nat) {a : Nat} (ha : a = A + l.length) (K : St → Res) : cV (call G d 154 [.ref a] (LSt A H0 (l ++ [.inr (2, [.null, .int 0, .null, .int 0, .int 0, .int 0, .null, .int 0])]) r)) K = K (LSt A H0 (l ++ cmC a) (r + 123)) := congrArg (fun z => cV z K) (show call G d 154 [.ref a] (LSt A H0 (l ++ [.inr (2, [.null, .int 0, .null, .int 0, .int 0, .int 0, .null, .int 0])]) r) = vV (LSt A H0 (l ++ cmC a) (r + 123)) from by apply s154 <;> assumption)
theorem s135 (d : Nat) {a : Nat} (ha : a = A + l.length) : call G (d + 1) 135 [.ref a] (LSt A H0 (l ++ [.inr (1, [.null, .null, .int 0])]) r) = vV (LSt A H0 (l ++ bdC a) (r + 108)) := by
  have asc : ∀ (t u : List Cel), l ++ t ++ u = l ++ (t ++ u) := fun t u => List.append_assoc ..
  rw [b135_e, LSt_wall, LSt_tp _ _ _ _ _ 1 rfl, s117 d (by rw [List.length_append]; rfl), asc]
  show ((fW _ _ _ _ _).bind _) = _
  rw [LA_fW 0 ha rfl rfl]
  rw [LSt_wall, LSt_tp _ _ _ _ _ 9 rfl, s182 d (by rw [List.length_append]; rfl), asc]
  show ((fW _ _ _ _ _).bind _) = _
  rw [LA_fW 0 ha rfl rfl, LA_fW 0 ha rfl rfl]
  subst ha; rfl
theorem s135c (d : Nat) {a : Nat} (ha : a = A + l.length) (K : St → Res) : cV (call G (d + 1) 135 [.ref a] (LSt A H0 (l ++ [.inr (1, [.null, .null, .int 0])]) r)) K = K (LSt A H0 (l ++ bdC a) (r + 108)) := congrArg (fun z => cV z K) (show call G (d + 1) 135 [.ref a] (LSt A H0 (l ++ [.inr (1, [.null, .null, .int 0])]) r) = vV (LSt A H0 (l ++ bdC a) (r + 108)) from by apply s135 <;> assumption)
end
/-- the history array, one more board -/
theorem LA_aR {A : Nat} {H0 : Hp} {l u t : List Cel} {r a b : Nat} {vs : List Value} {fs : List Value} (ha : a = A + l.length) (hb : b = A + (l.length + (u.length + 1))) (hv : t[0]? = some (.inr (1, fs))) {i : Nat} (hi : i < vs.length) (h31 : i < 2 ^ 31) : aRW (LSt A H0 (l ++ (.inl (.object "CloudInterviews$Board", true, vs) :: u ++ t)) r) "CloudInterviews$Board" 1 a (nI i) b = some (LSt A H0 (l ++ (.inl (.object "CloudInterviews$Board", true, vs.set i (.ref b)) :: u ++ t)) r) := by
  have h1 : (LSt A H0 (l ++ (.inl (.object "CloudInterviews$Board", true, vs) :: u ++ t)) r).1 a = some (.inl (.object "CloudInterviews$Board", true, vs)) := by
    have := LSt_at (A := A) (H0 := H0) (l := l ++ (.inl (.object "CloudInterviews$Board", true, vs) :: u ++ t)) (r := r) (k := l.length + 0) (c := .inl (.object "CloudInterviews$Board", true, vs)) (by rw [app_at]; rfl)
    rw [ha]; exact this
  have h2 : rcv (LSt A H0 (l ++ (.inl (.object "CloudInterviews$Board", true, vs) :: u ++ t)) r) b 1 = true := by
    rw [hb]
    refine LSt_rcv (fs := fs) ?_
    rw [app_at, show u.length + 1 = (Sum.inl (FieldType.object "CloudInterviews$Board", true, vs) :: u : List Cel).length + 0 from rfl, app_at]; exact hv
  unfold aRW; rw [h1]
  simp only [true_and, h2, nI_pos h31, nI_clamp h31, hi, and_self, not_false_eq_true, if_true]
  subst ha
  have := LSt_wset (A := A) (H0 := H0) (l := l ++ (.inl (.object "CloudInterviews$Board", true, vs) :: u ++ t)) (r := r) (k := l.length + 0) (by simp) (.inl (.object "CloudInterviews$Board", true, vs.set i (.ref b)))
  rw [app_set] at this
  exact congrArg some this
def xO (A : Nat) (s : List Value) : Cel := .inr (5, s)
def preC (A : Nat) : List Cel := .inr (5, [.ref (A + 1), .ref (A + 15), .ref (A + 29), .ref (A + 43), .int 0, .int 0, .ref (A + 44), .ref (A + 51), .ref (A + 53), .int (-1), .int (-1)]) :: (bdC (A + 1) ++ (bdC (A + 15) ++ bdC (A + 29)))
def midC (A : Nat) : List Cel := hiC (A + 44) ++ (sbC (A + 51) ++ cmC (A + 53))
def hisC (A i : Nat) : List Cel := (List.range i).flatMap fun k => bdC (A + 57 + 14 * k)
def hrC (A i : Nat) : Cel := .inl (.object "CloudInterviews$Board", true, (List.range 8).map fun k => if k < i then .ref (A + 57 + 14 * k) else .null)
def allC (A i : Nat) : List Cel := preC A ++ (hrC A i :: midC A ++ hisC A i)
theorem hisC_len (A i : Nat) : (hisC A i).length = 14 * i := by
  unfold hisC
  induction i with
  | zero => rfl
  | succ i ih => rw [List.range_succ, List.flatMap_append, List.length_append, ih]; show 14 * i + 14 = _; omega
theorem preC_len (A : Nat) : (preC A).length = 43 := rfl
theorem midC_len (A : Nat) : (midC A).length = 13 := rfl
theorem hisC_succ (A i : Nat) : hisC A (i + 1) = hisC A i ++ bdC (A + 57 + 14 * i) := by
  unfold hisC
  rw [List.range_succ, List.flatMap_append]; simp
theorem allC_len (A i : Nat) : (allC A i).length = 57 + 14 * i := by
  unfold allC
  rw [List.length_append, preC_len, List.length_append, List.length_cons, midC_len, hisC_len]; omega
section
variable {G : Glb} {A r : Nat} {H0 : Hp}
theorem s44_1 (d : Nat) : ∀ (k i : Nat) (r : Nat), i + k = 8 → run G (d + 2) 44 101 [some (.ref A), some (.int (nI i))] [] (LSt A H0 (allC A i) r) = vV (LSt A H0 (allC A 8) (r + 111 * k))
  | 0, i, r, h => by
    obtain rfl : i = 8 := by omega
    rw [b44_101, if_pos (by decide)]; rfl
  | k + 1, i, r, h => by
    have hi : i < 8 := by omega
    have hge : ¬ ((8 : Int32) ≤ nI i) := by
      have : i = 0 ∨ i = 1 ∨ i = 2 ∨ i = 3 ∨ i = 4 ∨ i = 5 ∨ i = 6 ∨ i = 7 := by omega
      rcases this with h | h | h | h | h | h | h | h <;> (subst h; decide)
    have hin : nI i + 1 = nI (i + 1) := nI_add i 1
    rw [b44_101, if_neg hge, show allC A i = [] ++ allC A i from rfl, LA_fR (q := A + 43) 0 (by simp) rfl rfl]
    show (cV _ _) = _
    have hla : ([] ++ allC A i).length = 57 + 14 * i := allC_len A i
    have htop : (LSt A H0 ([] ++ allC A i) r).2.1 = A + (57 + 14 * i) := by rw [LSt_top, hla]
    rw [LSt_wall, htop, s135 d (l := [] ++ allC A i) (by rw [hla])]
    show ((aRW _ _ _ _ _ _).bind _) = _
    have hsp : ([] ++ allC A i) ++ bdC (A + (57 + 14 * i)) = preC A ++ (hrC A i :: (midC A ++ hisC A i) ++ bdC (A + (57 + 14 * i))) := by
      show allC A i ++ _ = _
      unfold allC
      simp only [List.append_assoc, List.cons_append]
    rw [hsp]
    unfold hrC
    rw [LA_aR (fs := [.ref (A + (57 + 14 * i) + 1), .ref (A + (57 + 14 * i) + 9), .int 0]) (by rw [preC_len]) (by rw [preC_len, List.length_append, midC_len, hisC_len]; omega) rfl (by simp; omega) (by omega)]
    show run _ _ _ _ _ _ _ = _
    have hst : (List.map (fun k => if k < i then Value.ref (A + 57 + 14 * k) else Value.null) (List.range 8)).set i (.ref (A + (57 + 14 * i))) = List.map (fun k => if k < i + 1 then Value.ref (A + 57 + 14 * k) else Value.null) (List.range 8) := by
      apply List.ext_getElem
      · simp
      · intro j h1 h2
        simp only [List.length_set, List.length_map, List.length_range] at h1
        rw [List.getElem_set]
        simp only [List.getElem_map, List.getElem_range]
        by_cases hj : i = j
        · subst hj; rw [if_pos rfl, if_pos (by omega), ← Nat.add_assoc]
        · rw [if_neg hj]
          by_cases hl : j < i
          · rw [if_pos hl, if_pos (by omega)]
          · rw [if_neg hl, if_neg (by omega)]
    rw [hst, hin]
    have hfin : preC A ++ (Sum.inl (FieldType.object "CloudInterviews$Board", true, List.map (fun k => if k < i + 1 then Value.ref (A + 57 + 14 * k) else Value.null) (List.range 8)) :: (midC A ++ hisC A i) ++ bdC (A + (57 + 14 * i))) = allC A (i + 1) := by
      unfold allC hrC
      rw [hisC_succ, Nat.add_assoc A 57]
      simp only [List.append_assoc, List.cons_append]
    rw [hfin]
    have := s44_1 d k (i + 1) (r + 3 + 108) (by omega)
    rw [this, show r + 3 + 108 + 111 * k = r + 111 * (k + 1) by omega]
theorem s44 (d : Nat) (hk : G 8 18 = some (.int 1)) : call G (d + 2) 44 [.ref A] (LSt A H0 [.inr (5, [.null, .null, .null, .null, .int 0, .int 0, .null, .null, .null, .int 0, .int 0])] r) = vV (LSt A H0 (allC A 8) (r + 1492)) := by
  have asc : ∀ (l t u : List Cel), l ++ t ++ u = l ++ (t ++ u) := fun l t u => List.append_assoc ..
  have hx : A = A + (([] : List Cel).length + 0) := rfl
  rw [b44_e, LSt_wall, LSt_top, s135 d (l := [_]) rfl]
  show ((fW (LSt A H0 ([] ++ ([_] ++ _)) _) _ _ _ _).bind _) = _
  rw [LA_fW 0 hx rfl rfl]
  rw [LSt_wall, LSt_tp _ _ _ _ _ 15 rfl, s135 d (a := A + (([] : List Cel).length + 15)) rfl, asc]
  show ((fW _ _ _ _ _).bind _) = _
  rw [LA_fW 0 hx rfl rfl]
  rw [LSt_wall, LSt_tp _ _ _ _ _ 29 rfl, s135 d (a := A + (([] : List Cel).length + 29)) rfl, asc]
  show ((fW _ _ _ _ _).bind _) = _
  rw [LA_fW 0 hx rfl rfl]
  rw [LSt_wl, LSt_tp _ _ _ _ _ 43 rfl, LA_fW 0 hx rfl rfl, LA_fW 0 hx rfl rfl, LA_fW 0 hx rfl rfl]
  rw [LSt_wall, LSt_tp _ _ _ _ _ 44 rfl, s165 _ (a := A + (([] : List Cel).length + 44)) rfl, asc]
  show ((fW _ _ _ _ _).bind _) = _
  rw [LA_fW 0 hx rfl rfl]
  rw [LSt_wall, LSt_tp _ _ _ _ _ 51 rfl, s319 _ hk (a := A + (([] : List Cel).length + 51)) rfl, asc]
  show ((fW _ _ _ _ _).bind _) = _
  rw [LA_fW 0 hx rfl rfl]
  rw [LSt_wall, LSt_tp _ _ _ _ _ 53 rfl, s154 _ (a := A + (([] : List Cel).length + 53)) rfl, asc]
  show ((fW _ _ _ _ _).bind _) = _
  rw [LA_fW 0 hx rfl rfl, LA_fW 0 hx rfl rfl, LA_fW 0 hx rfl rfl]
  refine (s44_1 d 8 0 _ rfl).trans ?_
  rfl
theorem s44c (d : Nat) (hk : G 8 18 = some (.int 1)) (K : St → Res) : cV (call G (d + 2) 44 [.ref A] (LSt A H0 [.inr (5, [.null, .null, .null, .null, .int 0, .int 0, .null, .null, .null, .int 0, .int 0])] r)) K = K (LSt A H0 (allC A 8) (r + 1492)) := congrArg (fun z => cV z K) (show call G (d + 2) 44 [.ref A] (LSt A H0 [.inr (5, [.null, .null, .null, .null, .int 0, .int 0, .null, .null, .null, .int 0, .int 0])] r) = vV (LSt A H0 (allC A 8) (r + 1492)) from by apply s44 <;> assumption)
end
/-- the numbers of the first picture -/
def m0 : Mm := fun b c i => if b = 11 ∧ c = 1 then nI (3 + i) else if b = 11 ∧ c = 0 ∧ (i = 9 ∨ i = 10) then -1 else if b = 11 ∧ c = 11 ∧ i = 5 then 42 else if b = 12 ∧ c = 0 ∧ (i = 13 ∨ i = 14) then -1 else 0
theorem ar_zero {t : FieldType} {n : Nat} {f : Nat → Int32} (h : ∀ i, f i = 0) (hv : vp_nar t 0 = 0) : ar t n f = .inl (t, true, List.replicate n (.int 0)) := by
  unfold ar
  have : (fun i => Value.int (vp_nar t (f i))) = fun _ => Value.int 0 := by funext i; rw [h, hv]
  rw [this, List.map_const', List.length_range]
theorem m0_z {b c : Nat} (h : ¬ (b = 11 ∧ c = 1) ∧ ¬ (b = 11 ∧ c = 0) ∧ ¬ (b = 11 ∧ c = 11) ∧ ¬ (b = 12 ∧ c = 0)) (i : Nat) : m0 b c i = 0 := by
  unfold m0
  rw [if_neg h.1, if_neg (fun x => h.2.1 ⟨x.1, x.2.1⟩), if_neg (fun x => h.2.2.1 ⟨x.1, x.2.1⟩), if_neg (fun x => h.2.2.2 ⟨x.1, x.2.1⟩)]
theorem bcl_0 (A b a : Nat) (hb : b < 11) (ha : a = ad A b 0) : (∀ c, c < 14 → bcl A b (m0 b c) c = (bdC a)[c]?) := by
  have hz : ∀ c i, m0 b c i = 0 := fun c i => m0_z (by omega) i
  have e : ∀ c, c < 14 → ad A b c = a + c := fun c hc => by
    subst ha; unfold ad pos; (repeat' split) <;> omega
  intro c hc
  have : c = 0 ∨ c = 1 ∨ c = 2 ∨ c = 3 ∨ c = 4 ∨ c = 5 ∨ c = 6 ∨ c = 7 ∨ c = 8 ∨ c = 9 ∨ c = 10 ∨ c = 11 ∨ c = 12 ∨ c = 13 := by omega
  rcases this with h | h | h | h | h | h | h | h | h | h | h | h | h | h <;> subst h
  case _ => show (some (.inr (1, [.ref (ad A b 1), .ref (ad A b 9), .int (m0 b 0 2)])) : Option Cel) = _; rw [hz, e 1 (by omega), e 9 (by omega)]; rfl
  case _ => show (some (.inr (0, [.int (m0 b 1 0), .int (m0 b 1 1), .ref (ad A b 2), .ref (ad A b 3), .ref (ad A b 4), .ref (ad A b 5), .ref (ad A b 6), .ref (ad A b 7), .ref (ad A b 8)])) : Option Cel) = _; rw [hz 1 0, hz 1 1, e 2 (by omega), e 3 (by omega), e 4 (by omega), e 5 (by omega), e 6 (by omega), e 7 (by omega), e 8 (by omega)]; rfl
  case _ => show some (ar _ _ _) = _; rw [ar_zero (hz _) (by decide)]; rfl
  case _ => show some (ar _ _ _) = _; rw [ar_zero (hz _) (by decide)]; rfl
  case _ => show some (ar _ _ _) = _; rw [ar_zero (hz _) (by decide)]; rfl
  case _ => show some (ar _ _ _) = _; rw [ar_zero (hz _) (by decide)]; rfl
  case _ => show some (ar _ _ _) = _; rw [ar_zero (hz _) (by decide)]; rfl
  case _ => show some (ar _ _ _) = _; rw [ar_zero (hz _) (by decide)]; rfl
  case _ => show some (ar _ _ _) = _; rw [ar_zero (hz _) (by decide)]; rfl
  case _ => show (some (.inr (4, [.int (m0 b 9 0), .ref (ad A b 10), .ref (ad A b 11), .ref (ad A b 12), .ref (ad A b 13)])) : Option Cel) = _; rw [hz, e 10 (by omega), e 11 (by omega), e 12 (by omega), e 13 (by omega)]; rfl
  case _ => show some (ar _ _ _) = _; rw [ar_zero (hz _) (by decide)]; rfl
  case _ => show some (ar _ _ _) = _; rw [ar_zero (hz _) (by decide)]; rfl
  case _ => show some (ar _ _ _) = _; rw [ar_zero (hz _) (by decide)]; rfl
  case _ => show some (ar _ _ _) = _; rw [ar_zero (hz _) (by decide)]; rfl
def fullC (A : Nat) : List Cel := allC A 8
theorem fullC_len (A : Nat) : (fullC A).length = 169 := by
  unfold fullC; rw [allC_len]
/-- the cells of the picture are those of the constructors -/
theorem pic0 (A : Nat) : ∀ k, k < 169 → ∀ c, cel A (lob k) (loc k) (m0 (lob k) (loc k)) = some c → (fullC A)[k]? = some c := by
  intro k hk c hc
  have ix : ∀ {l t : List Cel} {j n : Nat}, l.length = n → (l ++ t)[n + j]? = t[j]? := fun {l t j n} h => by subst h; exact app_at j
  have ix2 : ∀ {l t : List Cel} {j : Nat}, j < l.length → (l ++ t)[j]? = l[j]? := fun h => List.getElem?_append_left h
  have hb : ∀ b, b < 11 → ∀ c', c' < 14 → ∀ a, a = ad A b 0 → lob k = b → loc k = c' → (bdC a)[c']? = some c := by
    intro b hb c' hc' a ha h1 h2
    rw [← bcl_0 A b a hb ha c' hc', ← hc, h1, h2, cel_b hb]
  unfold fullC allC
  by_cases h0 : k = 0
  · subst h0; rw [← hc]; rfl
  by_cases h1 : k < 43
  · rw [ix2 (by rw [preC_len]; exact h1)]
    unfold preC
    obtain ⟨j, rfl⟩ : ∃ j, k = j + 1 := ⟨k - 1, by omega⟩
    rw [List.getElem?_cons_succ]
    by_cases g1 : j < 14
    · rw [ix2 (show j < 14 from g1)]
      exact hb 0 (by omega) j g1 _ rfl (by unfold lob; (repeat' split) <;> omega) (by unfold loc; (repeat' split) <;> omega)
    · by_cases g2 : j < 28
      · obtain ⟨j', rfl⟩ : ∃ j', j = 14 + j' := ⟨j - 14, by omega⟩
        rw [ix (n := 14) rfl, ix2 (show j' < 14 by omega)]
        exact hb 1 (by omega) j' (by omega) _ rfl (by unfold lob; (repeat' split) <;> omega) (by unfold loc; (repeat' split) <;> omega)
      · obtain ⟨j', rfl⟩ : ∃ j', j = 14 + (14 + j') := ⟨j - 28, by omega⟩
        rw [ix (n := 14) rfl, ix (n := 14) rfl]
        exact hb 2 (by omega) j' (by omega) _ rfl (by unfold lob; (repeat' split) <;> omega) (by unfold loc; (repeat' split) <;> omega)
  · obtain ⟨j, rfl⟩ : ∃ j, k = 43 + j := ⟨k - 43, by omega⟩
    rw [ix (preC_len A)]
    by_cases g1 : j < 14
    · rw [ix2 (l := hrC A 8 :: midC A) (by rw [List.length_cons, midC_len]; exact g1), ← hc]
      have : j = 0 ∨ j = 1 ∨ j = 2 ∨ j = 3 ∨ j = 4 ∨ j = 5 ∨ j = 6 ∨ j = 7 ∨ j = 8 ∨ j = 9 ∨ j = 10 ∨ j = 11 ∨ j = 12 ∨ j = 13 := by omega
      rcases this with h | h | h | h | h | h | h | h | h | h | h | h | h | h <;> subst h
      case _ => rfl
      case _ => rfl
      case _ => refine Eq.trans ?_ (congrArg some (ar_zero (m0_z (by decide)) (by decide)).symm); rfl
      case _ => refine Eq.trans ?_ (congrArg some (ar_zero (m0_z (by decide)) (by decide)).symm); rfl
      case _ => refine Eq.trans ?_ (congrArg some (ar_zero (m0_z (by decide)) (by decide)).symm); rfl
      case _ => refine Eq.trans ?_ (congrArg some (ar_zero (m0_z (by decide)) (by decide)).symm); rfl
      case _ => refine Eq.trans ?_ (congrArg some (ar_zero (m0_z (by decide)) (by decide)).symm); rfl
      case _ => refine Eq.trans ?_ (congrArg some (ar_zero (m0_z (by decide)) (by decide)).symm); rfl
      case _ => exact absurd hc (by intro h; cases h)
      case _ => exact absurd hc (by intro h; cases h)
      case _ => rfl
      case _ => refine Eq.trans ?_ (congrArg some (ar_zero (m0_z (by decide)) (by decide)).symm); rfl
      case _ => refine Eq.trans ?_ (congrArg some (ar_zero (m0_z (by decide)) (by decide)).symm); rfl
      case _ => refine Eq.trans ?_ (congrArg some (ar_zero (m0_z (by decide)) (by decide)).symm); rfl
    · obtain ⟨q, rfl⟩ : ∃ q, j = 14 + q := ⟨j - 14, by omega⟩
      rw [ix (l := hrC A 8 :: midC A) (n := 14) rfl]
      by_cases g2 : q < 112
      · have hs : ∀ n, n ≤ 8 → q < 14 * n → (hisC A n)[q]? = some c := by
          intro n
          induction n with
          | zero => intro _ h; omega
          | succ n ih =>
            intro h8 hq
            rw [hisC_succ]
            by_cases hl : q < 14 * n
            · rw [ix2 (by rw [hisC_len]; exact hl)]; exact ih (by omega) hl
            · obtain ⟨q', rfl⟩ : ∃ q', q = 14 * n + q' := ⟨q - 14 * n, by omega⟩
              rw [ix (hisC_len A n)]
              exact hb (3 + n) (by omega) q' (by omega) _ (by unfold ad pos; rw [if_neg (by omega), if_pos (by omega)]; omega) (by unfold lob; (repeat' split) <;> omega) (by unfold loc; (repeat' split) <;> omega)
        exact hs 8 (by omega) g2
      · omega
theorem LSt_S {A : Nat} {H0 : Hp} {l : List Cel} {m : Mm} (hl : 169 ≤ l.length) (h : ∀ k, k < 169 → ∀ c, cel A (lob k) (loc k) (m (lob k) (loc k)) = some c → l[k]? = some c) (r : Nat) : LSt A H0 l r = S A (HL A H0 l) m (A + l.length) r := by
  refine Prod.ext ?_ rfl
  funext q
  show HL A H0 l q = if A ≤ q ∧ q < A + 169 then _ else HL A H0 l q
  by_cases hr : A ≤ q ∧ q < A + 169
  · rw [if_pos hr]
    have hk : q - A < 169 := by omega
    cases e : cel A (lob (q - A)) (loc (q - A)) (m (lob (q - A)) (loc (q - A))) with
    | none => rfl
    | some c =>
      show HL A H0 l q = some c
      unfold HL; rw [if_pos (by omega)]; exact h _ hk c e
  · rw [if_neg hr]
