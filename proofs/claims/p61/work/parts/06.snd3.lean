/-! SOUNDNESS, part 3: arrays, new objects, statics, texts. -/
section
variable {l : Launch} {S0 : State} {D : va_G} {dA : FieldType → ClassId} {p : Program} {e : Env} {R : Room} {s : State} {m : MethodId} {args : Array Value} {below : List Frame} {meth : Method} {c : Code} {Q : State → Prop} {i d n0 k0 : Nat}
variable {pc : Nat} {ls : Lo} {st : List Value} {σ : St}
theorem aL_some {ok : FieldType → Bool} {a : Nat} {li : List Value} (h : aL σ ok a = some li) : ∃ t w, σ.1 a = some (.inl (t, w, li)) ∧ ok t = true := by
  unfold aL at h
  split at h
  · rename_i t w l hc
    split at h
    · rename_i ho; cases h; exact ⟨t, w, hc, ho⟩
    · cases h
  · cases h
theorem aV_some {ok : FieldType → Bool} {a : Nat} {j : Int32} {v : Value} (h : aV σ ok a j = some v) : ∃ t w li, σ.1 a = some (.inl (t, w, li)) ∧ ok t = true ∧ ¬ j < 0 ∧ li[j.toNatClampNeg]? = some v := by
  unfold aV at h
  cases hl : aL σ ok a with
  | none => rw [hl] at h; cases h
  | some li =>
    rw [hl] at h
    simp only [Option.bind_some] at h
    split at h
    · cases h
    · rename_i h0
      obtain ⟨t, w, hc, ho⟩ := aL_some hl
      exact ⟨t, w, li, hc, ho, h0, h⟩
theorem aI_some {ok : FieldType → Bool} {a : Nat} {j x : Int32} (h : aI σ ok a j = some x) : aV σ ok a j = some (.int x) := by
  unfold aI at h
  split at h
  · rename_i hc; cases h; exact hc
  · cases h
theorem aJ_some {a : Nat} {j : Int32} {x : Int64} (h : aJ σ a j = some x) : aV σ (fun t => t == .long) a j = some (.long x) := by
  unfold aJ at h
  split at h
  · rename_i hc; cases h; exact hc
  · cases h
theorem aD_some {a : Nat} {j : Int32} {x : UInt64} (h : aD σ a j = some x) : aV σ (fun t => t == .double) a j = some (.double x) := by
  unfold aD at h
  split at h
  · rename_i hc; cases h; exact hc
  · cases h
theorem aR_some {a : Nat} {j : Int32} {x : Nat} (h : aR σ a j = some x) : aV σ FieldType.isReference a j = some (.ref x) := by
  unfold aR at h
  split at h
  · rename_i hc; cases h; exact hc
  · cases h
theorem fI_some {a ci f : Nat} {x : Int32} (h : fI σ a ci f = some x) : fV σ a ci f = some (.int x) := by
  unfold fI at h
  split at h
  · rename_i hc; cases h; exact hc
  · cases h
theorem fR_some {a ci f x : Nat} (h : fR σ a ci f = some x) : fV σ a ci f = some (.ref x) := by
  unfold fR at h
  split at h
  · rename_i hc; cases h; exact hc
  · cases h
theorem k_alen (F : Fr S0 p R s m args meth c i d n0 k0) {a : Nat} {n : Int32} (hd : decode (cT i) pc = .ok (.arraylength, 1)) (hv : aN σ a = some n) (k : K_ l S0 D dA p e R s m args below meth c Q i n0 k0 (pc + 1) ls (.int n :: st) σ) : K_ l S0 D dA p e R s m args below meth c Q i n0 k0 pc ls (.ref a :: st) σ := by
  intro H locs lsA h1 h2 h3 h4 h5
  unfold aN at hv
  split at hv
  case h_2 => cases hv
  rename_i t w li ha
  cases hv
  obtain ⟨cell, g1, g2, g3, g4⟩ := h1.arr ha
  exact W.alen F.1 F.2.1 g1 (State.isArrayOf_alike F.alike g2) (by rw [← Array.length_toList, g4]) rfl rfl hd (k H locs lsA h1 h2 h3 h4 h5)
theorem k_iaload (F : Fr S0 p R s m args meth c i d n0 k0) {a : Nat} {j : Int32} {v : Value} (hd : decode (cT i) pc = .ok (.iaload, 1)) (hv : aV σ okI a j = some v) (k : K_ l S0 D dA p e R s m args below meth c Q i n0 k0 (pc + 1) ls (v :: st) σ) : K_ l S0 D dA p e R s m args below meth c Q i n0 k0 pc ls (.int j :: .ref a :: st) σ := by
  intro H locs lsA h1 h2 h3 h4 h5
  obtain ⟨t, w, li, ha, ho, h0, hj⟩ := aV_some hv
  obtain ⟨cell, g1, g2, g3, g4⟩ := h1.arr ha
  have g2 := State.isArrayOf_alike F.alike g2
  have hin := sl_in g4 h0 (List.getElem?_eq_some_iff.mp hj).1
  cases t <;> first | (cases ho; done) | exact W.iald F.1 F.2.1 g1 g2 g3 hin (sl_get g4 hj) rfl rfl hd (k H locs lsA h1 h2 h3 h4 h5)
theorem k_caload (F : Fr S0 p R s m args meth c i d n0 k0) {a : Nat} {j : Int32} {v : Value} (hd : decode (cT i) pc = .ok (.caload, 1)) (hv : aV σ okC a j = some v) (k : K_ l S0 D dA p e R s m args below meth c Q i n0 k0 (pc + 1) ls (v :: st) σ) : K_ l S0 D dA p e R s m args below meth c Q i n0 k0 pc ls (.int j :: .ref a :: st) σ := by
  intro H locs lsA h1 h2 h3 h4 h5
  obtain ⟨t, w, li, ha, ho, h0, hj⟩ := aV_some hv
  obtain ⟨cell, g1, g2, g3, g4⟩ := h1.arr ha
  have g2 := State.isArrayOf_alike F.alike g2
  have hin := sl_in g4 h0 (List.getElem?_eq_some_iff.mp hj).1
  cases t <;> first | (cases ho; done) | exact W.cald F.1 F.2.1 g1 g2 g3 hin (sl_get g4 hj) rfl rfl hd (k H locs lsA h1 h2 h3 h4 h5)
theorem k_baload (F : Fr S0 p R s m args meth c i d n0 k0) {a : Nat} {j : Int32} {v : Value} (hd : decode (cT i) pc = .ok (.baload, 1)) (hv : aV σ okB a j = some v) (k : K_ l S0 D dA p e R s m args below meth c Q i n0 k0 (pc + 1) ls (v :: st) σ) : K_ l S0 D dA p e R s m args below meth c Q i n0 k0 pc ls (.int j :: .ref a :: st) σ := by
  intro H locs lsA h1 h2 h3 h4 h5
  obtain ⟨t, w, li, ha, ho, h0, hj⟩ := aV_some hv
  obtain ⟨cell, g1, g2, g3, g4⟩ := h1.arr ha
  have g2 := State.isArrayOf_alike F.alike g2
  have hin := sl_in g4 h0 (List.getElem?_eq_some_iff.mp hj).1
  cases t <;> first | (cases ho; done) | exact W.bald F.1 F.2.1 g1 g2 g3 hin (sl_get g4 hj) rfl rfl hd (k H locs lsA h1 h2 h3 h4 h5) | exact W.zald F.1 F.2.1 g1 g2 g3 hin (sl_get g4 hj) rfl rfl hd (k H locs lsA h1 h2 h3 h4 h5)
theorem k_laload (F : Fr S0 p R s m args meth c i d n0 k0) {a : Nat} {j : Int32} {v : Value} (hd : decode (cT i) pc = .ok (.laload, 1)) (hv : aV σ (fun t => t == .long) a j = some v) (k : K_ l S0 D dA p e R s m args below meth c Q i n0 k0 (pc + 1) ls (v :: st) σ) : K_ l S0 D dA p e R s m args below meth c Q i n0 k0 pc ls (.int j :: .ref a :: st) σ := by
  intro H locs lsA h1 h2 h3 h4 h5
  obtain ⟨t, w, li, ha, ho, h0, hj⟩ := aV_some hv
  obtain ⟨cell, g1, g2, g3, g4⟩ := h1.arr ha
  have g2 := State.isArrayOf_alike F.alike g2
  have hin := sl_in g4 h0 (List.getElem?_eq_some_iff.mp hj).1
  have ht : t = .long := by simpa using ho
  subst ht
  exact W.lald F.1 F.2.1 g1 g2 g3 hin (sl_get g4 hj) rfl rfl hd (k H locs lsA h1 h2 h3 h4 h5)
theorem k_daload (F : Fr S0 p R s m args meth c i d n0 k0) {a : Nat} {j : Int32} {v : Value} (hd : decode (cT i) pc = .ok (.daload, 1)) (hv : aV σ (fun t => t == .double) a j = some v) (k : K_ l S0 D dA p e R s m args below meth c Q i n0 k0 (pc + 1) ls (v :: st) σ) : K_ l S0 D dA p e R s m args below meth c Q i n0 k0 pc ls (.int j :: .ref a :: st) σ := by
  intro H locs lsA h1 h2 h3 h4 h5
  obtain ⟨t, w, li, ha, ho, h0, hj⟩ := aV_some hv
  obtain ⟨cell, g1, g2, g3, g4⟩ := h1.arr ha
  have g2 := State.isArrayOf_alike F.alike g2
  have hin := sl_in g4 h0 (List.getElem?_eq_some_iff.mp hj).1
  have ht : t = .double := by simpa using ho
  subst ht
  exact W.dald F.1 F.2.1 g1 g2 g3 hin (sl_get g4 hj) rfl rfl hd (k H locs lsA h1 h2 h3 h4 h5)
theorem k_aaload (F : Fr S0 p R s m args meth c i d n0 k0) {a : Nat} {j : Int32} {v : Value} (hd : decode (cT i) pc = .ok (.aaload, 1)) (hv : aV σ FieldType.isReference a j = some v) (k : K_ l S0 D dA p e R s m args below meth c Q i n0 k0 (pc + 1) ls (v :: st) σ) : K_ l S0 D dA p e R s m args below meth c Q i n0 k0 pc ls (.int j :: .ref a :: st) σ := by
  intro H locs lsA h1 h2 h3 h4 h5
  obtain ⟨t, w, li, ha, ho, h0, hj⟩ := aV_some hv
  obtain ⟨cell, g1, g2, g3, g4⟩ := h1.arr ha
  have g2 := State.isArrayOf_alike F.alike g2
  have hin := sl_in g4 h0 (List.getElem?_eq_some_iff.mp hj).1
  exact W.aald F.1 F.2.1 g1 g2 ho g3 hin (sl_get g4 hj) rfl rfl hd (k H locs lsA h1 h2 h3 h4 h5)
theorem aW_some {ok : FieldType → Bool} {a : Nat} {j : Int32} {v : Value} {σ' : St} (h : aW σ ok a j v = some σ') : ∃ t li, σ.1 a = some (.inl (t, true, li)) ∧ ok t = true ∧ ¬ j < 0 ∧ j.toNatClampNeg < li.length ∧ σ' = wset σ a (.inl (t, true, li.set j.toNatClampNeg (narrow t v))) := by
  unfold aW at h
  split at h
  · rename_i t li hc
    split at h
    · rename_i h9; cases h; exact ⟨t, li, hc, h9.1, h9.2.1, h9.2.2, rfl⟩
    · cases h
  · cases h
/-- behind a store into an array -/
theorem arr_fin {H : Heap} {locs : List Loc} {lsA : Array Slot} {a : Nat} {t : FieldType} {li : List Value} {j : Nat} {v : Value} {st' : List Value} {pc' : Nat} (h1 : Rep S0 D dA σ H) (h2 : ∀ z ∈ locs, freeB S0 z.base) (h3 : LR i ls lsA) (h4 : n0 ≤ σ.2.1) (h5 : k0 ≤ σ.2.2)
    (ha : σ.1 a = some (.inl (t, true, li))) (hfit : fits t v = true) (k : K_ l S0 D dA p e R s m args below meth c Q i n0 k0 pc' ls st' (wset σ a (.inl (t, true, li.set j v)))) :
    ∀ H' : Heap, H'[a]? = some ((arrL (dA t) li).setSlot j v) → H'.size = H.size → (∀ q, q ≠ a → H'[q]? = H[q]?) → W p l e R s m args below meth c H' (locs ++ [⟨a, j⟩]) (σ.2.1 - n0) (σ.2.2 - k0) Q (F0 m pc' lsA st') := by
  intro H' e1 e2 e3
  obtain ⟨hB, g1, g2, g3, g4⟩ := h1.2.2.2 a _ ha
  rw [arrL_set] at e1
  refine k H' _ lsA (h1.upd hB e2 e3 ⟨hB, e1, fun w hw => ?_, g3, g4⟩) ?_ h3 h4 h5
  · rcases List.mem_or_eq_of_mem_set hw with h | h
    · exact g2 w h
    · rw [h]; exact hfit
  · intro z hz
    rcases List.mem_append.mp hz with h | h
    · exact h2 z h
    · rw [List.mem_singleton.mp h]; exact hB
theorem k_iastore (F : Fr S0 p R s m args meth c i d n0 k0) {a : Nat} {j : Int32} {x : Int32} {σ' : St} (hd : decode (cT i) pc = .ok (.iastore, 1)) (hw : aW σ okI a j (.int x) = some σ') (k : K_ l S0 D dA p e R s m args below meth c Q i n0 k0 (pc + 1) ls st σ') : K_ l S0 D dA p e R s m args below meth c Q i n0 k0 pc ls (.int x :: .int j :: .ref a :: st) σ := by
  intro H locs lsA h1 h2 h3 h4 h5
  obtain ⟨t, li, ha, ho, h0, hj, rfl⟩ := aW_some hw
  obtain ⟨hB, g1, g2, g3, g4⟩ := h1.2.2.2 a _ ha
  have g5 : s.isArrayOf (arrL (dA t) li) t := State.isArrayOf_alike F.alike (g3 _ _)
  have hin : ¬ (j < 0 ∨ (arrL (dA t) li).slots.size ≤ j.toNatClampNeg) := by
    rw [arrL_size]
    rintro (z | z)
    · exact h0 z
    · omega
  cases t <;> first | (cases ho; done) | exact W.iast F.1 F.2.1 g1 g5 (fun z => by cases z) hin rfl rfl hd (arr_fin h1 h2 h3 h4 h5 ha rfl k)
theorem k_castore (F : Fr S0 p R s m args meth c i d n0 k0) {a : Nat} {j : Int32} {x : Int32} {σ' : St} (hd : decode (cT i) pc = .ok (.castore, 1)) (hw : aW σ okC a j (.int x) = some σ') (k : K_ l S0 D dA p e R s m args below meth c Q i n0 k0 (pc + 1) ls st σ') : K_ l S0 D dA p e R s m args below meth c Q i n0 k0 pc ls (.int x :: .int j :: .ref a :: st) σ := by
  intro H locs lsA h1 h2 h3 h4 h5
  obtain ⟨t, li, ha, ho, h0, hj, rfl⟩ := aW_some hw
  obtain ⟨hB, g1, g2, g3, g4⟩ := h1.2.2.2 a _ ha
  have g5 : s.isArrayOf (arrL (dA t) li) t := State.isArrayOf_alike F.alike (g3 _ _)
  have hin : ¬ (j < 0 ∨ (arrL (dA t) li).slots.size ≤ j.toNatClampNeg) := by
    rw [arrL_size]
    rintro (z | z)
    · exact h0 z
    · omega
  cases t <;> first | (cases ho; done) | exact W.cast F.1 F.2.1 g1 g5 (fun z => by cases z) hin rfl rfl hd (arr_fin h1 h2 h3 h4 h5 ha (fits_nar rfl) k)
theorem k_bastore (F : Fr S0 p R s m args meth c i d n0 k0) {a : Nat} {j : Int32} {x : Int32} {σ' : St} (hd : decode (cT i) pc = .ok (.bastore, 1)) (hw : aW σ okB a j (.int x) = some σ') (k : K_ l S0 D dA p e R s m args below meth c Q i n0 k0 (pc + 1) ls st σ') : K_ l S0 D dA p e R s m args below meth c Q i n0 k0 pc ls (.int x :: .int j :: .ref a :: st) σ := by
  intro H locs lsA h1 h2 h3 h4 h5
  obtain ⟨t, li, ha, ho, h0, hj, rfl⟩ := aW_some hw
  obtain ⟨hB, g1, g2, g3, g4⟩ := h1.2.2.2 a _ ha
  have g5 : s.isArrayOf (arrL (dA t) li) t := State.isArrayOf_alike F.alike (g3 _ _)
  have hin : ¬ (j < 0 ∨ (arrL (dA t) li).slots.size ≤ j.toNatClampNeg) := by
    rw [arrL_size]
    rintro (z | z)
    · exact h0 z
    · omega
  cases t <;> first | (cases ho; done) | exact W.bast F.1 F.2.1 g1 g5 (fun z => by cases z) hin rfl rfl hd (arr_fin h1 h2 h3 h4 h5 ha (fits_nar rfl) k) | exact W.zast F.1 F.2.1 g1 g5 (fun z => by cases z) hin rfl rfl hd (arr_fin h1 h2 h3 h4 h5 ha (fits_nar rfl) k)
theorem k_lastore (F : Fr S0 p R s m args meth c i d n0 k0) {a : Nat} {j : Int32} {x : Int64} {σ' : St} (hd : decode (cT i) pc = .ok (.lastore, 1)) (hw : aW σ (fun t => t == .long) a j (.long x) = some σ') (k : K_ l S0 D dA p e R s m args below meth c Q i n0 k0 (pc + 1) ls st σ') : K_ l S0 D dA p e R s m args below meth c Q i n0 k0 pc ls (.long x :: .int j :: .ref a :: st) σ := by
  intro H locs lsA h1 h2 h3 h4 h5
  obtain ⟨t, li, ha, ho, h0, hj, rfl⟩ := aW_some hw
  obtain ⟨hB, g1, g2, g3, g4⟩ := h1.2.2.2 a _ ha
  have g5 : s.isArrayOf (arrL (dA t) li) t := State.isArrayOf_alike F.alike (g3 _ _)
  have hin : ¬ (j < 0 ∨ (arrL (dA t) li).slots.size ≤ j.toNatClampNeg) := by
    rw [arrL_size]
    rintro (z | z)
    · exact h0 z
    · omega
  have ht : t = .long := by simpa using ho
  subst ht
  exact W.last F.1 F.2.1 g1 g5 (fun z => by cases z) hin rfl rfl hd (arr_fin h1 h2 h3 h4 h5 ha rfl k)
theorem k_dastore (F : Fr S0 p R s m args meth c i d n0 k0) {a : Nat} {j : Int32} {x : UInt64} {σ' : St} (hd : decode (cT i) pc = .ok (.dastore, 1)) (hw : aW σ (fun t => t == .double) a j (.double x) = some σ') (k : K_ l S0 D dA p e R s m args below meth c Q i n0 k0 (pc + 1) ls st σ') : K_ l S0 D dA p e R s m args below meth c Q i n0 k0 pc ls (.double x :: .int j :: .ref a :: st) σ := by
  intro H locs lsA h1 h2 h3 h4 h5
  obtain ⟨t, li, ha, ho, h0, hj, rfl⟩ := aW_some hw
  obtain ⟨hB, g1, g2, g3, g4⟩ := h1.2.2.2 a _ ha
  have g5 : s.isArrayOf (arrL (dA t) li) t := State.isArrayOf_alike F.alike (g3 _ _)
  have hin : ¬ (j < 0 ∨ (arrL (dA t) li).slots.size ≤ j.toNatClampNeg) := by
    rw [arrL_size]
    rintro (z | z)
    · exact h0 z
    · omega
  have ht : t = .double := by simpa using ho
  subst ht
  exact W.dast F.1 F.2.1 g1 g5 (fun z => by cases z) hin rfl rfl hd (arr_fin h1 h2 h3 h4 h5 ha rfl k)
/-- the arrays that the program makes -/
def ArrEnv (S0 : State) (dA : FieldType → ClassId) : Prop := ∀ t : FieldType, (t = .int ∨ t = .char ∨ t = .boolean ∨ t = .byte ∨ t = .long ∨ t = .object "CloudInterviews$Board") → ArrOfT S0 (dA t) t ∧ va_RA S0 (dA t) t
theorem fits_dflt {t : FieldType} : (t = .int ∨ t = .char ∨ t = .boolean ∨ t = .byte ∨ t = .long) → fits t (defaultValue t) = true := by
  rintro (rfl | rfl | rfl | rfl | rfl) <;> decide
theorem na_ty {ty : ArrayType} (h : naT ty = true) : (Op.newarray.typeOf ty = .int ∨ Op.newarray.typeOf ty = .char ∨ Op.newarray.typeOf ty = .boolean ∨ Op.newarray.typeOf ty = .byte ∨ Op.newarray.typeOf ty = .long) := by
  cases ty <;> first | (cases h; done) | simp [Op.newarray.typeOf]
theorem k_newa (F : Fr S0 p R s m args meth c i d n0 k0) (E0 : ArrEnv S0 dA) {ty : ArrayType} {n : Int32} {σ' : St} (hd : decode (cT i) pc = .ok (.newarray ty, 2)) (hn : ¬ n < 0) (hN : n.toNatClampNeg ≤ 65536) (hna : naT ty = true) (hw : Cond.arrayClass (Op.newarray.typeOf ty) ∈ TBg)
    (hσ : σ' = wall σ (.inl (Op.newarray.typeOf ty, true, List.replicate n.toNatClampNeg (defaultValue (Op.newarray.typeOf ty)))) n.toNatClampNeg) (hr1 : σ'.2.1 ≤ n0 + R.cells) (hr2 : σ'.2.2 ≤ k0 + R.slots)
    (k : K_ l S0 D dA p e R s m args below meth c Q i n0 k0 (pc + 2) ls (.ref σ.2.1 :: st) σ') : K_ l S0 D dA p e R s m args below meth c Q i n0 k0 pc ls (.int n :: st) σ := by
  intro H locs lsA h1 h2 h3 h4 h5
  subst hσ
  have hz : H.size = σ.2.1 := h1.1
  have hr1' : σ.2.1 + 1 ≤ n0 + R.cells := hr1
  have hr2' : σ.2.2 + n.toNatClampNeg ≤ k0 + R.slots := hr2
  have hcb : n.toNatClampNeg * componentBytes (Op.newarray.typeOf ty) ≤ 536870912 := by
    have : componentBytes (Op.newarray.typeOf ty) ≤ 8 := by cases ty <;> decide
    calc n.toNatClampNeg * componentBytes (Op.newarray.typeOf ty) ≤ 65536 * 8 := Nat.mul_le_mul hN this
      _ ≤ _ := by decide
  have hty := na_ty hna
  obtain ⟨a1, a2⟩ := E0 (Op.newarray.typeOf ty) (by rcases hty with h | h | h | h | h <;> simp [h])
  have a3 := va_RA.moved F.alike a2
  refine W.newa F.1 F.2.1 (F.hts _ hw) rfl hd rfl hn hcb (by omega) (by omega) (fun cA kA comp g1 g2 g3 => ?_)
  have hcA : cA = dA (Op.newarray.typeOf ty) := by
    have a4 : s.vm.findClass ("[" ++ (Op.newarray.typeOf ty).toString) = some (dA (Op.newarray.typeOf ty)) := by
      cases ty <;> exact a3
    exact Option.some.inj (g1.symm.trans a4)
  subst hcA
  rw [arrL_rep]
  have K := k (H.push (arrL (dA (Op.newarray.typeOf ty)) (List.replicate n.toNatClampNeg (defaultValue (Op.newarray.typeOf ty))))) locs lsA
    (h1.push (by simp) (fun q hq => by simp [Array.getElem?_push, Nat.ne_of_lt hq]) ⟨by rw [hz]; exact h1.2.1, by simp, fun v hv => by rw [(List.mem_replicate.mp hv).2]; exact fits_dflt hty, a1, a2⟩) h2 h3 (Nat.le_succ_of_le h4) (Nat.le_trans h5 (Nat.le_add_right _ _))
  have e1 : (wall σ (.inl (Op.newarray.typeOf ty, true, List.replicate n.toNatClampNeg (defaultValue (Op.newarray.typeOf ty)))) n.toNatClampNeg).2.1 - n0 = σ.2.1 - n0 + 1 := by show σ.2.1 + 1 - n0 = _; omega
  have e2 : (wall σ (.inl (Op.newarray.typeOf ty, true, List.replicate n.toNatClampNeg (defaultValue (Op.newarray.typeOf ty)))) n.toNatClampNeg).2.2 - k0 = σ.2.2 - k0 + n.toNatClampNeg := by show σ.2.2 + _ - k0 = _; omega
  rw [e1, e2] at K
  rw [hz]
  exact K
theorem k_anew (F : Fr S0 p R s m args meth c i d n0 k0) (E0 : ArrEnv S0 dA) {x : Nat} {n : Int32} {σ' : St} (hd : decode (cT i) pc = .ok (.anewarray x, 3)) (hn : ¬ n < 0) (hN : n.toNatClampNeg ≤ 65536) (hw : Cond.classLink (ownT (clsT i)) x "CloudInterviews$Board" ∈ TBg) (A0 : va_AO "CloudInterviews$Board" S0)
    (hσ : σ' = wall σ (.inl (.object "CloudInterviews$Board", true, List.replicate n.toNatClampNeg .null)) n.toNatClampNeg) (hr1 : σ'.2.1 ≤ n0 + R.cells) (hr2 : σ'.2.2 ≤ k0 + R.slots)
    (k : K_ l S0 D dA p e R s m args below meth c Q i n0 k0 (pc + 3) ls (.ref σ.2.1 :: st) σ') : K_ l S0 D dA p e R s m args below meth c Q i n0 k0 pc ls (.int n :: st) σ := by
  intro H locs lsA h1 h2 h3 h4 h5
  subst hσ
  have hz : H.size = σ.2.1 := h1.1
  have hr1' : σ.2.1 + 1 ≤ n0 + R.cells := hr1
  have hr2' : σ.2.2 + n.toNatClampNeg ≤ k0 + R.slots := hr2
  obtain ⟨a1, a2⟩ := E0 (.object "CloudInterviews$Board") (by simp)
  obtain ⟨_, _, -, -, -, a4⟩ := va_RA.moved F.alike a2
  refine W.anew F.1 F.2.1 F.own (F.hts _ hw) (va_AO.use (va_AO.moved F.alike A0)) rfl hd rfl hn (by omega) (by omega) (by omega) (fun cA kA comp g1 g2 g3 g4 => ?_)
  have hcA : cA = dA (.object "CloudInterviews$Board") := Option.some.inj (g1.symm.trans a4)
  subst hcA
  rw [arrL_rep]
  have K := k (H.push (arrL (dA (.object "CloudInterviews$Board")) (List.replicate n.toNatClampNeg .null))) locs lsA
    (h1.push (by simp) (fun q hq => by simp [Array.getElem?_push, Nat.ne_of_lt hq]) ⟨by rw [hz]; exact h1.2.1, by simp, fun v hv => by rw [(List.mem_replicate.mp hv).2]; rfl, a1, a2⟩) h2 h3 (Nat.le_succ_of_le h4) (Nat.le_trans h5 (Nat.le_add_right _ _))
  have e1 : (wall σ (.inl (.object "CloudInterviews$Board", true, List.replicate n.toNatClampNeg .null)) n.toNatClampNeg).2.1 - n0 = σ.2.1 - n0 + 1 := by show σ.2.1 + 1 - n0 = _; omega
  have e2 : (wall σ (.inl (.object "CloudInterviews$Board", true, List.replicate n.toNatClampNeg .null)) n.toNatClampNeg).2.2 - k0 = σ.2.2 - k0 + n.toNatClampNeg := by show σ.2.2 + _ - k0 = _; omega
  rw [e1, e2] at K
  rw [hz]
  exact K
def NewOK (k x ci : Nat) (fs : List Value) : Prop := ∃ r : vw_C, clT[ci]? = some r ∧ ci < 100 ∧ Cond.classLink (ownT k) x r.1 ∈ TBg ∧ Cond.instantiable r.1 r.2.2 ∈ TBg ∧ Cond.initialized r.1 ∈ TBg ∧ fs = (List.range r.2.2).map fun j => defaultValue (tyT ci j)
theorem k_new (F : Fr S0 p R s m args meth c i d n0 k0) (C0 : ClsOK) (K0 : va_K D clT [] S0) {x ci : Nat} {fs : List Value} {σ' : St} (hd : decode (cT i) pc = .ok (.new x, 3)) (hN : NewOK (clsT i) x ci fs) (hσ : σ' = wall σ (.inr (ci, fs)) fs.length) (hr1 : σ'.2.1 ≤ n0 + R.cells) (hr2 : σ'.2.2 ≤ k0 + R.slots)
    (k : K_ l S0 D dA p e R s m args below meth c Q i n0 k0 (pc + 3) ls (.ref σ.2.1 :: st) σ') : K_ l S0 D dA p e R s m args below meth c Q i n0 k0 pc ls st σ := by
  intro H locs lsA h1 h2 h3 h4 h5
  subst hσ
  obtain ⟨r, hc, h100, w1, w2, w3, hfs⟩ := hN
  have hlen : fs.length = r.2.2 := by rw [hfs]; simp
  have hz : H.size = σ.2.1 := h1.1
  have hr1' : σ.2.1 + 1 ≤ n0 + R.cells := hr1
  have hr2' : σ.2.2 + fs.length ≤ k0 + R.slots := hr2
  have hK : va_K D clT [] s := va_K.moved F.alike K0
  have hKn := hK.1 ci _ hc
  obtain ⟨hin, htys, -⟩ := C0 ci r hc
  refine W.newcK F.1 F.2.1 F.own (F.hts _ w1) (F.hts _ w2) (F.hts _ w3) rfl hd (by omega) (by omega) hKn.2.1 rfl fun H1 kC hkC e1 z1 o1 => ?_
  have hat : va_at D clT (H.size, .inr (ci, fs)) H1 := ⟨_, hc, (u_born (tyT ci) F.hts hin hKn hkC e1 htys).to (fun j hj => by
    rw [hfs]
    simp [vp_V, hj])⟩
  have K := k H1 locs lsA (h1.push (c := .inr (ci, fs)) (k := fs.length) z1 o1 (by
    unfold celAt
    simp only [if_pos h100]
    exact ⟨by rw [hz]; exact h1.2.1, by rw [hlen, List.getD_eq_getElem?_getD, hc]; rfl, hat⟩)) h2 h3 (Nat.le_succ_of_le h4) (Nat.le_trans h5 (Nat.le_add_right _ _))
  have e3 : (wall σ (.inr (ci, fs)) fs.length).2.1 - n0 = σ.2.1 - n0 + 1 := by show σ.2.1 + 1 - n0 = _; omega
  have e4 : (wall σ (.inr (ci, fs)) fs.length).2.2 - k0 = σ.2.2 - k0 + r.2.2 := by show σ.2.2 + _ - k0 = _; omega
  rw [e3, e4] at K
  rw [hz]
  exact K
/-- statics and texts -/
def StOK (S0 : State) (G : Glb) : Prop := (∀ (k x : Nat) (v : Value), k < 100 → G k x = some v → ∃ C n d, Cond.fieldLink (ownT k) x C n d ∈ TBg ∧ va_Z C n d v (freeB S0) S0 S0.heap) ∧ ∀ (k x : Nat) (v : Value), k < 100 → G (k + 100) x = some v → ∃ tx sa, v = .ref sa ∧ vk_R (ownT k) x tx sa S0
theorem k_gets (F : Fr S0 p R s m args meth c i d n0 k0) {G : Glb} (G0 : StOK S0 G) {x : Nat} {v : Value} (hk : clsT i < 100) (hd : decode (cT i) pc = .ok (.getstatic x, 3)) (hv : G (clsT i) x = some v) (k : K_ l S0 D dA p e R s m args below meth c Q i n0 k0 (pc + 3) ls (v :: st) σ) : K_ l S0 D dA p e R s m args below meth c Q i n0 k0 pc ls st σ := by
  intro H locs lsA h1 h2 h3 h4 h5
  obtain ⟨C, n, dd, hlk, hZ⟩ := G0.1 _ _ _ hk hv
  have hZ2 := va_Z.moved F.alike (hZ.kept (H1 := H) (fun a ha _ => h1.2.2.1 a ha))
  obtain ⟨cf, kf, fi, f, a, cell, g1, g2, g3, g4, g5, g6, g7, g8⟩ := hZ2
  exact W.gets F.1 F.2.1 F.own (F.hts _ hlk) g1 g2 g3 g4 g5 (by intro z; rw [z] at g6; cases g6) g7 rfl hd (k H locs lsA h1 h2 h3 h4 h5)
theorem k_ldcS (F : Fr S0 p R s m args meth c i d n0 k0) {G : Glb} (G0 : StOK S0 G) {x : Nat} {v : Value} (hk : clsT i < 100) (hd : decode (cT i) pc = .ok (.ldc x, 2)) (hv : G (clsT i + 100) x = some v) (k : K_ l S0 D dA p e R s m args below meth c Q i n0 k0 (pc + 2) ls (v :: st) σ) : K_ l S0 D dA p e R s m args below meth c Q i n0 k0 pc ls st σ := by
  intro H locs lsA h1 h2 h3 h4 h5
  obtain ⟨tx, sa, rfl, hZ⟩ := G0.2 _ _ _ hk hv
  exact va_ldcS F.1 F.2.1 F.own (vk_R.warm F.2.2.2.2.2.2.2.2.2.1 hZ) hd (k H locs lsA h1 h2 h3 h4 h5)
theorem k_ldcwS (F : Fr S0 p R s m args meth c i d n0 k0) {G : Glb} (G0 : StOK S0 G) {x : Nat} {v : Value} (hk : clsT i < 100) (hd : decode (cT i) pc = .ok (.ldc_w x, 3)) (hv : G (clsT i + 100) x = some v) (k : K_ l S0 D dA p e R s m args below meth c Q i n0 k0 (pc + 3) ls (v :: st) σ) : K_ l S0 D dA p e R s m args below meth c Q i n0 k0 pc ls st σ := by
  intro H locs lsA h1 h2 h3 h4 h5
  obtain ⟨tx, sa, rfl, hZ⟩ := G0.2 _ _ _ hk hv
  have hZ2 := vk_R.warm F.2.2.2.2.2.2.2.2.2.1 hZ
  have hb := F.2.1
  intro T hT X
  obtain ⟨t, a1, b1⟩ := k H locs lsA h1 h2 h3 h4 h5 T hT X
  exact ⟨t, X.ldcStringW F.1 F.own (text := tx) (a := sa) hZ2.1 hZ2.2 (g := F0 m pc lsA st) rfl (by rw [hb]; exact hd) t a1, b1⟩
theorem k_ldc2 (F : Fr S0 p R s m args meth c i d n0 k0) {x : Nat} {v : Int64} (hw : Cond.constantLong (ownT (clsT i)) x v ∈ TBg) (hd : decode (cT i) pc = .ok (.ldc2_w x, 3)) (k : K_ l S0 D dA p e R s m args below meth c Q i n0 k0 (pc + 3) ls (.long v :: st) σ) : K_ l S0 D dA p e R s m args below meth c Q i n0 k0 pc ls st σ :=
  fun H locs lsA h1 h2 h3 h4 h5 => lv_ldc2 F.1 F.2.1 F.own (F.hts _ hw) hd (k H locs lsA h1 h2 h3 h4 h5)
theorem k_cast (F : Fr S0 p R s m args meth c i d n0 k0) (E0 : ArrEnv S0 dA) {x a : Nat} (hw : Cond.classLink (ownT (clsT i)) x "[B" ∈ TBg) (hd : decode (cT i) pc = .ok (.checkcast x, 3)) (ha : isBA σ a = true) (k : K_ l S0 D dA p e R s m args below meth c Q i n0 k0 (pc + 3) ls (.ref a :: st) σ) : K_ l S0 D dA p e R s m args below meth c Q i n0 k0 pc ls (.ref a :: st) σ := by
  intro H locs lsA h1 h2 h3 h4 h5
  unfold isBA at ha
  split at ha
  case h_2 => cases ha
  rename_i li h9
  obtain ⟨hB, g1, g2, g3, g4⟩ := h1.2.2.2 a _ h9
  have hnm : s.vm.findClass "[B" = some (dA .byte) := va_nm_byte (va_RA.moved F.alike g4)
  intro T hT X
  obtain ⟨vm', X', st9⟩ := X.checkcastYes F.1 F.own (F.hts _ hw) (by rw [hT]; exact g1) rfl hnm (va_asg _ _) (g := F0 m pc lsA (.ref a :: st)) rfl rfl (by rw [F.2.1]; exact hd)
  obtain ⟨t, a1, b1⟩ := k H locs lsA h1 h2 h3 h4 h5 (T.setVm vm') hT X'
  exact ⟨t, st9 t a1, b1⟩
theorem k_ldc (F : Fr S0 p R s m args meth c i d n0 k0) {x : Nat} {v : Int32} (hw : Cond.constant (ownT (clsT i)) x v ∈ TBg) (hd : decode (cT i) pc = .ok (.ldc x, 2)) (k : K_ l S0 D dA p e R s m args below meth c Q i n0 k0 (pc + 2) ls (.int v :: st) σ) : K_ l S0 D dA p e R s m args below meth c Q i n0 k0 pc ls st σ :=
  fun H locs lsA h1 h2 h3 h4 h5 => lv_ldc F.1 F.2.1 F.own (F.hts _ hw) hd (k H locs lsA h1 h2 h3 h4 h5)
theorem k_ldcw (F : Fr S0 p R s m args meth c i d n0 k0) {x : Nat} {v : Int32} (hw : Cond.constant (ownT (clsT i)) x v ∈ TBg) (hd : decode (cT i) pc = .ok (.ldc_w x, 3)) (k : K_ l S0 D dA p e R s m args below meth c Q i n0 k0 (pc + 3) ls (.int v :: st) σ) : K_ l S0 D dA p e R s m args below meth c Q i n0 k0 pc ls st σ :=
  fun H locs lsA h1 h2 h3 h4 h5 => lv_ldcw F.1 F.2.1 F.own (F.hts _ hw) hd (k H locs lsA h1 h2 h3 h4 h5)
end
