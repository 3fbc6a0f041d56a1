/-! SOUNDNESS of the abstract machine, part 1: what it stands for, and the rows that touch no heap. -/
def arrL (cA : ClassId) (l : List Value) : Cell := arrV cA l.length (fun j => l.getD j .null)
theorem arrV_congr (cA : ClassId) {n : Nat} {f g : Nat → Value} (h : ∀ j, j < n → f j = g j) : arrV cA n f = arrV cA n g := by
  unfold arrV
  congr 1
  apply Array.ext
  · simp
  · intro j h1 h2
    have hj : j < n := by simpa using h1
    simp [h j hj]
theorem arrL_get {cA : ClassId} {l : List Value} {j : Nat} {v : Value} (h : l[j]? = some v) : (arrL cA l).slots[j]? = some v := by
  have hj : j < l.length := (List.getElem?_eq_some_iff.mp h).1
  unfold arrL
  rw [arrV_read _ _ hj, List.getD_eq_getElem?_getD, h]
  rfl
theorem arrL_size (cA : ClassId) (l : List Value) : (arrL cA l).slots.size = l.length := arrV_size ..
theorem arrL_set (cA : ClassId) (l : List Value) (j : Nat) (v : Value) : (arrL cA l).setSlot j v = arrL cA (l.set j v) := by
  unfold arrL
  rw [arrV_store, List.length_set]
  apply arrV_congr
  intro k hk
  unfold updV
  by_cases h : k = j
  · subst h
    simp [hk]
  · rw [if_neg h]
    show l.getD k .null = (l.set j v).getD k .null
    rw [List.getD_eq_getElem?_getD, List.getD_eq_getElem?_getD, List.getElem?_set_ne (Ne.symm h)]
theorem arrL_rep (cA : ClassId) (N : Nat) (v : Value) : ({ cls := cA, slots := Array.replicate N v, vm := .none } : Cell) = arrL cA (List.replicate N v) := by
  unfold arrL arrV
  congr 1
  apply Array.ext
  · simp
  · intro j h1 h2
    have hj : j < N := by simpa using h1
    simp [hj]
theorem arrL_list (cA : ClassId) (l : List Value) : (arrL cA l).slots.toList = l := by
  apply List.ext_getElem
  · simp [arrL, arrV]
  · intro j h1 h2
    simp [arrL, arrV, h2]
def celAt (S0 : State) (D : va_G) (dA : FieldType → ClassId) (c : Cel) (q : Nat) (H : Heap) : Prop := match c with
  | .inl (t, true, l) => S0.heap.size ≤ q ∧ H[q]? = some (arrL (dA t) l) ∧ (∀ v ∈ l, fits t v = true) ∧ ArrOfT S0 (dA t) t ∧ va_RA S0 (dA t) t
  | .inl (t, false, l) => q < S0.heap.size ∧ ∃ cell : Cell, S0.heap[q]? = some cell ∧ S0.isArrayOf cell t ∧ cell.vm ≠ .unknown ∧ cell.slots.toList = l
  | .inr (ci, fs) => if ci < 100 then S0.heap.size ≤ q ∧ fs.length = (clT.getD ci ("", fun _ => ("", "", "", false), 0)).2.2 ∧ va_at D clT (q, .inr (ci, fs)) H
      else q < S0.heap.size ∧ (∃ cell : Cell, S0.heap[q]? = some cell ∧ cell.vm.isStatics = false ∧ S0.vm.findClass (roC ci) = some cell.cls) ∧ ∀ (k : Nat) (v : Value), fs[k]? = some v → va_OF (roF ci k).1 (roF ci k).2.1 (roF ci k).2.2 v q (fun a => S0.heap.size ≤ a) S0 S0.heap
def Rep (S0 : State) (D : va_G) (dA : FieldType → ClassId) (σ : St) (H : Heap) : Prop :=
  H.size = σ.2.1 ∧ S0.heap.size ≤ σ.2.1 ∧ (∀ q : Nat, q < S0.heap.size → H[q]? = S0.heap[q]?) ∧ ∀ (q : Nat) (c : Cel), σ.1 q = some c → celAt S0 D dA c q H
/-- the locals -/
def LR (i : Nat) (ls : Lo) (lsA : Array Slot) : Prop := ls.length = entT i ∧ lsA.size = entT i ∧ lv_wf lsA ∧ (∀ (k : Nat) (v : Value), lg ls k = some v → lsA[k]? = some (.val v)) ∧ (twoT i = false → ∀ (k : Nat) (v : Value), lg ls k = some v → v.category = 1)
def y_ens : MethodName := ⟨"java/lang/AbstractStringBuilder", "ensureCapacityInternal", "(I)V"⟩
def y_ncap : MethodName := ⟨"java/lang/AbstractStringBuilder", "newCapacity", "(I)I"⟩
def y_psa : MethodName := ⟨"java/lang/AbstractStringBuilder", "putStringAt", "(ILjava/lang/String;)V"⟩
def y_inf : MethodName := ⟨"java/lang/AbstractStringBuilder", "inflateIfNeededFor", "(Ljava/lang/String;)V"⟩
def lw_xtra : List Cond := [.selects "java/lang/StringBuilder" y_ens y_ens, .selects "java/lang/StringBuilder" y_ncap y_ncap, .selects "java/lang/StringBuilder" y_psa y_psa, .selects "java/lang/StringBuilder" y_inf y_inf]
theorem sel_private {y : MethodName} {s : State} {args : Array Value} {C : String} {n : Nat} (hy : y.cls ≠ "java/lang/invoke/MethodHandle" ∧ y.cls ≠ "java/lang/invoke/VarHandle")
    (hins : (Cond.instantiable C n).before args s = true) (hpriv : (Cond.privateMethod y).before args s = true) (hinst : (Cond.instanceMethod y).before args s = true) {C' : String} {y' : MethodName} (hs' : (Cond.selects C' y' y').before args s = true) (hcls : y'.cls = y.cls) :
    (Cond.selects C y y).before args s = true := by
  obtain ⟨c, k, hc, hk, -, hniab, -, -⟩ := Cond.instantiable_spec hins
  obtain ⟨mk, methM, hnamed, hmethM, -, -⟩ := Cond.instanceMethod_spec hinst
  have hfound : s.methodFound? y.cls y.name y.desc = some mk := State.methodFound?_of_named hnamed hy
  have hsel : selectMethod {} s.vm c mk = .method mk := selectMethod_private hmethM (Cond.privateMethod_at hpriv mk methM hnamed hmethM)
  simp only [Cond.before, Cond.holds, Cond.value, hc, hfound, hnamed, hsel, hk]
  obtain ⟨c2, r2, m2, q1, q2, q3, q4, kP, hkP, hkPi⟩ := Cond.selects_spec hs'
  have e1 := findClass_of_methodNamed q3
  have e2 := findClass_of_methodNamed hnamed
  rw [hcls] at e1
  have e3 : m2.cls = mk.cls := Option.some.inj (e1.symm.trans e2)
  rw [e3] at hkP
  rw [hkP]
  simp [hkPi]
def TBg : List Cond := (lw_xtra ++ lw_tbl).filter goodWord
def freeB (S0 : State) : Nat → Prop := fun q => S0.heap.size ≤ q
/-- a frame of method i, d levels left, entered with n0 cells and k0 slots -/
def Fr (S0 : State) (p : Program) (R : Room) (s : State) (m : MethodId) (args : Array Value) (meth : Method) (c : Code) (i d n0 k0 : Nat) : Prop :=
  p.tables.exec = Jvm.exec ∧ c.code = cT i ∧ c.maxLocals = entT i ∧ s.vm.findClass (ownT (clsT i)) = some m.cls ∧ (∀ w ∈ TBg, w.before args s = true) ∧ meth.sig.returnType = retT i ∧ meth.locks = false ∧ (iniT i = true → meth.name = (yT i).name) ∧
  (0 < i → c.exceptionTable.toList = tableOf (hhT i)) ∧ S0.WarmedH s.vm ∧ d + 8 ≤ R.frames ∧ 100 + 60 * d ≤ R.locals ∧ s.heap.size = n0 ∧ S0.heap.size ≤ n0 ∧ (∀ q : Nat, q < S0.heap.size → s.heap[q]? = S0.heap[q]?)
section
variable (l : Launch) (S0 : State) (D : va_G) (dA : FieldType → ClassId) (p : Program) (e : Env) (R : Room) (s : State) (m : MethodId) (args : Array Value) (below : List Frame) (meth : Method) (c : Code) (Q : State → Prop) (i n0 k0 : Nat)
/-- from every heap that stands for σ the machine goes on to Q -/
def KK (pc : Nat) (ls : Lo) (st : List Value) (σ : St) : Prop := ∀ (H : Heap) (locs : List Loc) (lsA : Array Slot), Rep S0 D dA σ H → (∀ z ∈ locs, freeB S0 z.base) → LR i ls lsA → n0 ≤ σ.2.1 → k0 ≤ σ.2.2 →
  W p l e R s m args below meth c H locs (σ.2.1 - n0) (σ.2.2 - k0) Q (F0 m pc lsA st)
end
theorem lg_prs {ls : Lo} {k : Nat} {v : Value} (h : lg ls k = some v) : k < ls.length := by
  unfold lg at h
  split at h
  · rename_i o ho
    exact (List.getElem?_eq_some_iff.mp ho).1
  · cases h
def prs (ls : Lo) : List (Nat × Value) := (List.range ls.length).filterMap fun k => (lg ls k).map fun v => (k, v)
theorem prs_mem {ls : Lo} {k : Nat} {v : Value} : (k, v) ∈ prs ls ↔ lg ls k = some v := by
  unfold prs
  rw [List.mem_filterMap]
  constructor
  · rintro ⟨j, -, hj⟩
    cases hl : lg ls j with
    | none => rw [hl] at hj; cases hj
    | some w => rw [hl] at hj; cases hj; exact hl
  · intro h
    exact ⟨k, List.mem_range.mpr (lg_prs h), by rw [h]; rfl⟩
theorem LR.has {i : Nat} {ls : Lo} {lsA : Array Slot} (h : LR i ls lsA) : lv_has lsA (entT i) (prs ls) := ⟨h.2.1, h.2.2.1, fun q hq => h.2.2.2.1 q.1 q.2 (prs_mem.mp hq)⟩
theorem lg_set {ls : Lo} {n k : Nat} {o : Option Value} (hn : n < ls.length) : lg (ls.set n o) k = if k = n then o else lg ls k := by
  unfold lg
  by_cases h : k = n
  · subst h
    simp [hn]
  · rw [if_neg h, List.getElem?_set_ne (Ne.symm h)]
/-- what a store of one slot leaves of the locals -/
theorem LR.st1 {i n : Nat} {v : Value} {ls ls' : Lo} {lsA lsA' : Array Slot} (h : LR i ls lsA) (hc : v.category = 1) (hs : lst (twoT i) ls n v = some ls')
    (h2 : lv_has lsA' (entT i) ((n, v) :: (prs ls).filter (fun q => !(q.1 == n) && !(q.1 + 1 == n && q.2.category == 2)))) : LR i ls' lsA' := by
  unfold lst at hs
  split at hs
  · rename_i hn
    split at hs
    · cases hs
    · rename_i h9
      cases hs
      refine ⟨by rw [List.length_set]; exact h.1, h2.1, h2.2.1, fun k w hk => ?_, fun h0 k w hk => ?_⟩
      · rw [lg_set hn] at hk
        by_cases hkn : k = n
        · rw [if_pos hkn] at hk
          cases hk
          rw [hkn]
          exact h2.2.2 (n, v) List.mem_cons_self
        · rw [if_neg hkn] at hk
          refine h2.2.2 (k, w) (List.mem_cons_of_mem _ (List.mem_filter.mpr ⟨prs_mem.mpr hk, ?_⟩))
          by_cases ht : twoT i = false
          · have := h.2.2.2.2 ht k w hk
            simp [hkn, this]
          · have ht' : twoT i = true := by cases hh : twoT i with
              | false => exact absurd hh ht
              | true => rfl
            rw [ht', Bool.true_and] at h9
            simp only [hkn, beq_iff_eq, Bool.not_eq_true', Bool.and_eq_true, Bool.not_eq_eq_eq_not, Bool.not_true]
            refine ⟨by simp [hkn], ?_⟩
            cases n with
            | zero => simp
            | succ n =>
              by_cases hk1 : k = n
              · subst hk1
                have h8 : lcat ls (k + 1) = false := by cases hh : lcat ls (k + 1) with
                  | false => rfl
                  | true => exact absurd hh h9
                simp only [lcat, hk] at h8
                cases w <;> first | (simp [Value.category]; done) | cases h8
              · simp [hk1]
      · rw [lg_set hn] at hk
        by_cases hkn : k = n
        · rw [if_pos hkn] at hk; cases hk; exact hc
        · rw [if_neg hkn] at hk
          exact h.2.2.2.2 h0 k w hk
  · cases hs
theorem lst_lt {two : Bool} {ls ls' : Lo} {n : Nat} {v : Value} (h : lst two ls n v = some ls') : n < ls.length := by
  unfold lst at h
  split at h
  · assumption
  · cases h

section
variable {l : Launch} {S0 : State} {D : va_G} {dA : FieldType → ClassId} {p : Program} {e : Env} {R : Room} {s : State} {m : MethodId} {args : Array Value} {below : List Frame} {meth : Method} {c : Code} {Q : State → Prop} {i d n0 k0 : Nat}
variable {pc : Nat} {ls : Lo} {st : List Value} {σ : St}
abbrev K_ (l : Launch) (S0 : State) (D : va_G) (dA : FieldType → ClassId) (p : Program) (e : Env) (R : Room) (s : State) (m : MethodId) (args : Array Value) (below : List Frame) (meth : Method) (c : Code) (Q : State → Prop) (i n0 k0 : Nat) := KK l S0 D dA p e R s m args below meth c Q i n0 k0
theorem sLdA_ok {β : Type} {n : Nat} {f : Value → Option β} {nx : β} (h : sLdA ls n f = some nx) : (∃ x, lg ls n = some (.ref x) ∧ f (.ref x) = some nx) ∨ (lg ls n = some .null ∧ f .null = some nx) := by
  unfold sLdA at h
  split at h
  · rename_i a ha; exact Or.inl ⟨a, ha, h⟩
  · rename_i ha; exact Or.inr ⟨ha, h⟩
  · cases h
theorem sLdI_ok {β : Type} {n : Nat} {f : Value → Option β} {nx : β} (h : sLdI ls n f = some nx) : ∃ x, lg ls n = some (.int x) ∧ f (.int x) = some nx := by
  unfold sLdI at h
  split at h
  · rename_i a ha; exact ⟨a, ha, h⟩
  · cases h
theorem sLdF_ok {β : Type} {n : Nat} {f : Value → Option β} {nx : β} (h : sLdF ls n f = some nx) : ∃ x, lg ls n = some (.float x) ∧ f (.float x) = some nx := by
  unfold sLdF at h
  split at h
  · rename_i a ha; exact ⟨a, ha, h⟩
  · cases h
theorem sLdD_ok {β : Type} {n : Nat} {f : Value → Option β} {nx : β} (h : sLdD ls n f = some nx) : ∃ x, lg ls n = some (.double x) ∧ f (.double x) = some nx := by
  unfold sLdD at h
  split at h
  · rename_i a ha; exact ⟨a, ha, h⟩
  · cases h
-- loads
theorem k_aload_n (F : Fr S0 p R s m args meth c i d n0 k0) {n : Fin 4} {x : Nat} (hd : decode (cT i) pc = .ok (.aload_n n, 1)) (hl : lg ls n.val = some (.ref x)) (k : K_ l S0 D dA p e R s m args below meth c Q i n0 k0 (pc + 1) ls (.ref x :: st) σ) : K_ l S0 D dA p e R s m args below meth c Q i n0 k0 pc ls st σ :=
  fun H locs lsA h1 h2 h3 h4 h5 => lv_aload_n F.1 F.2.1 hd rfl (h3.2.2.2.1 _ _ hl) (k H locs lsA h1 h2 h3 h4 h5)
theorem k_aload_nN (F : Fr S0 p R s m args meth c i d n0 k0) {n : Fin 4} (hd : decode (cT i) pc = .ok (.aload_n n, 1)) (hl : lg ls n.val = some .null) (k : K_ l S0 D dA p e R s m args below meth c Q i n0 k0 (pc + 1) ls (.null :: st) σ) : K_ l S0 D dA p e R s m args below meth c Q i n0 k0 pc ls st σ :=
  fun H locs lsA h1 h2 h3 h4 h5 => lv_aload_nN F.1 F.2.1 hd rfl (h3.2.2.2.1 _ _ hl) (k H locs lsA h1 h2 h3 h4 h5)
theorem k_aload (F : Fr S0 p R s m args meth c i d n0 k0) {n : Nat} {x : Nat} (hd : decode (cT i) pc = .ok (.aload n, 2)) (hl : lg ls n = some (.ref x)) (k : K_ l S0 D dA p e R s m args below meth c Q i n0 k0 (pc + 2) ls (.ref x :: st) σ) : K_ l S0 D dA p e R s m args below meth c Q i n0 k0 pc ls st σ :=
  fun H locs lsA h1 h2 h3 h4 h5 => lv_aload F.1 F.2.1 hd (h3.2.2.2.1 _ _ hl) (k H locs lsA h1 h2 h3 h4 h5)
theorem k_aloadN (F : Fr S0 p R s m args meth c i d n0 k0) {n : Nat} (hd : decode (cT i) pc = .ok (.aload n, 2)) (hl : lg ls n = some .null) (k : K_ l S0 D dA p e R s m args below meth c Q i n0 k0 (pc + 2) ls (.null :: st) σ) : K_ l S0 D dA p e R s m args below meth c Q i n0 k0 pc ls st σ :=
  fun H locs lsA h1 h2 h3 h4 h5 => lv_aloadN F.1 F.2.1 hd (h3.2.2.2.1 _ _ hl) (k H locs lsA h1 h2 h3 h4 h5)
theorem k_iload_n (F : Fr S0 p R s m args meth c i d n0 k0) {n : Fin 4} {x : Int32} (hd : decode (cT i) pc = .ok (.iload_n n, 1)) (hl : lg ls n.val = some (.int x)) (k : K_ l S0 D dA p e R s m args below meth c Q i n0 k0 (pc + 1) ls (.int x :: st) σ) : K_ l S0 D dA p e R s m args below meth c Q i n0 k0 pc ls st σ :=
  fun H locs lsA h1 h2 h3 h4 h5 => lv_iload_n F.1 F.2.1 hd rfl (h3.2.2.2.1 _ _ hl) (k H locs lsA h1 h2 h3 h4 h5)
theorem k_iload (F : Fr S0 p R s m args meth c i d n0 k0) {n : Nat} {x : Int32} (hd : decode (cT i) pc = .ok (.iload n, 2)) (hl : lg ls n = some (.int x)) (k : K_ l S0 D dA p e R s m args below meth c Q i n0 k0 (pc + 2) ls (.int x :: st) σ) : K_ l S0 D dA p e R s m args below meth c Q i n0 k0 pc ls st σ :=
  fun H locs lsA h1 h2 h3 h4 h5 => lv_iload F.1 F.2.1 hd (h3.2.2.2.1 _ _ hl) (k H locs lsA h1 h2 h3 h4 h5)
theorem k_fload_n (F : Fr S0 p R s m args meth c i d n0 k0) {n : Fin 4} {x : UInt32} (hd : decode (cT i) pc = .ok (.fload_n n, 1)) (hl : lg ls n.val = some (.float x)) (k : K_ l S0 D dA p e R s m args below meth c Q i n0 k0 (pc + 1) ls (.float x :: st) σ) : K_ l S0 D dA p e R s m args below meth c Q i n0 k0 pc ls st σ :=
  fun H locs lsA h1 h2 h3 h4 h5 => lv_fload_n F.1 F.2.1 hd rfl (h3.2.2.2.1 _ _ hl) (k H locs lsA h1 h2 h3 h4 h5)
theorem k_fload (F : Fr S0 p R s m args meth c i d n0 k0) {n : Nat} {x : UInt32} (hd : decode (cT i) pc = .ok (.fload n, 2)) (hl : lg ls n = some (.float x)) (k : K_ l S0 D dA p e R s m args below meth c Q i n0 k0 (pc + 2) ls (.float x :: st) σ) : K_ l S0 D dA p e R s m args below meth c Q i n0 k0 pc ls st σ :=
  fun H locs lsA h1 h2 h3 h4 h5 => lv_fload F.1 F.2.1 hd (h3.2.2.2.1 _ _ hl) (k H locs lsA h1 h2 h3 h4 h5)
theorem sLdJ_ok {β : Type} {n : Nat} {f : Value → Option β} {nx : β} (h : sLdJ ls n f = some nx) : ∃ x, lg ls n = some (.long x) ∧ f (.long x) = some nx := by
  unfold sLdJ at h
  split at h
  · rename_i a ha; exact ⟨a, ha, h⟩
  · cases h
theorem k_lload_n (F : Fr S0 p R s m args meth c i d n0 k0) {n : Fin 4} {x : Int64} (hd : decode (cT i) pc = .ok (.lload_n n, 1)) (hl : lg ls n.val = some (.long x)) (k : K_ l S0 D dA p e R s m args below meth c Q i n0 k0 (pc + 1) ls (.long x :: st) σ) : K_ l S0 D dA p e R s m args below meth c Q i n0 k0 pc ls st σ :=
  fun H locs lsA h1 h2 h3 h4 h5 => lv_lload_n F.1 F.2.1 hd rfl (h3.2.2.2.1 _ _ hl) (k H locs lsA h1 h2 h3 h4 h5)
theorem k_lload (F : Fr S0 p R s m args meth c i d n0 k0) {n : Nat} {x : Int64} (hd : decode (cT i) pc = .ok (.lload n, 2)) (hl : lg ls n = some (.long x)) (k : K_ l S0 D dA p e R s m args below meth c Q i n0 k0 (pc + 2) ls (.long x :: st) σ) : K_ l S0 D dA p e R s m args below meth c Q i n0 k0 pc ls st σ :=
  fun H locs lsA h1 h2 h3 h4 h5 => lv_lload F.1 F.2.1 hd (h3.2.2.2.1 _ _ hl) (k H locs lsA h1 h2 h3 h4 h5)
theorem k_ladd (F : Fr S0 p R s m args meth c i d n0 k0) {x y : Int64} (hd : decode (cT i) pc = .ok (.ladd, 1)) (k : K_ l S0 D dA p e R s m args below meth c Q i n0 k0 (pc + 1) ls (.long (x + y) :: st) σ) : K_ l S0 D dA p e R s m args below meth c Q i n0 k0 pc ls (.long y :: .long x :: st) σ :=
  fun H locs lsA h1 h2 h3 h4 h5 => lv_ladd F.1 F.2.1 hd (k H locs lsA h1 h2 h3 h4 h5)
theorem k_lmul (F : Fr S0 p R s m args meth c i d n0 k0) {x y : Int64} (hd : decode (cT i) pc = .ok (.lmul, 1)) (k : K_ l S0 D dA p e R s m args below meth c Q i n0 k0 (pc + 1) ls (.long (x * y) :: st) σ) : K_ l S0 D dA p e R s m args below meth c Q i n0 k0 pc ls (.long y :: .long x :: st) σ :=
  fun H locs lsA h1 h2 h3 h4 h5 => lv_lmul F.1 F.2.1 hd (k H locs lsA h1 h2 h3 h4 h5)
theorem k_dload_n (F : Fr S0 p R s m args meth c i d n0 k0) {n : Fin 4} {x : UInt64} (hd : decode (cT i) pc = .ok (.dload_n n, 1)) (hl : lg ls n.val = some (.double x)) (k : K_ l S0 D dA p e R s m args below meth c Q i n0 k0 (pc + 1) ls (.double x :: st) σ) : K_ l S0 D dA p e R s m args below meth c Q i n0 k0 pc ls st σ :=
  fun H locs lsA h1 h2 h3 h4 h5 => lv_dload_n F.1 F.2.1 hd rfl (h3.2.2.2.1 _ _ hl) (k H locs lsA h1 h2 h3 h4 h5)
theorem k_dload (F : Fr S0 p R s m args meth c i d n0 k0) {n : Nat} {x : UInt64} (hd : decode (cT i) pc = .ok (.dload n, 2)) (hl : lg ls n = some (.double x)) (k : K_ l S0 D dA p e R s m args below meth c Q i n0 k0 (pc + 2) ls (.double x :: st) σ) : K_ l S0 D dA p e R s m args below meth c Q i n0 k0 pc ls st σ :=
  fun H locs lsA h1 h2 h3 h4 h5 => lv_dload F.1 F.2.1 hd (h3.2.2.2.1 _ _ hl) (k H locs lsA h1 h2 h3 h4 h5)
theorem k_istore_n (F : Fr S0 p R s m args meth c i d n0 k0) {n : Fin 4} {x : Int32} {ls' : Lo} (hd : decode (cT i) pc = .ok (.istore_n n, 1)) (hs : lst (twoT i) ls n.val (.int x) = some ls') (k : K_ l S0 D dA p e R s m args below meth c Q i n0 k0 (pc + 1) ls' st σ) : K_ l S0 D dA p e R s m args below meth c Q i n0 k0 pc ls (.int x :: st) σ :=
  fun H locs lsA h1 h2 h3 h4 h5 => lv_istore_n F.1 F.2.1 hd rfl h3.has (h3.1 ▸ lst_lt hs) rfl (fun lsA' h9 => k H locs lsA' h1 h2 (h3.st1 rfl hs h9) h4 h5)
theorem k_istore (F : Fr S0 p R s m args meth c i d n0 k0) {n : Nat} {x : Int32} {ls' : Lo} (hd : decode (cT i) pc = .ok (.istore n, 2)) (hs : lst (twoT i) ls n (.int x) = some ls') (k : K_ l S0 D dA p e R s m args below meth c Q i n0 k0 (pc + 2) ls' st σ) : K_ l S0 D dA p e R s m args below meth c Q i n0 k0 pc ls (.int x :: st) σ :=
  fun H locs lsA h1 h2 h3 h4 h5 => lv_istore F.1 F.2.1 hd h3.has (h3.1 ▸ lst_lt hs) rfl (fun lsA' h9 => k H locs lsA' h1 h2 (h3.st1 rfl hs h9) h4 h5)
theorem k_astore_n (F : Fr S0 p R s m args meth c i d n0 k0) {n : Fin 4} {x : Nat} {ls' : Lo} (hd : decode (cT i) pc = .ok (.astore_n n, 1)) (hs : lst (twoT i) ls n.val (.ref x) = some ls') (k : K_ l S0 D dA p e R s m args below meth c Q i n0 k0 (pc + 1) ls' st σ) : K_ l S0 D dA p e R s m args below meth c Q i n0 k0 pc ls (.ref x :: st) σ :=
  fun H locs lsA h1 h2 h3 h4 h5 => lv_astore_n F.1 F.2.1 hd rfl h3.has (h3.1 ▸ lst_lt hs) rfl (fun lsA' h9 => k H locs lsA' h1 h2 (h3.st1 rfl hs h9) h4 h5)
theorem k_astore (F : Fr S0 p R s m args meth c i d n0 k0) {n : Nat} {x : Nat} {ls' : Lo} (hd : decode (cT i) pc = .ok (.astore n, 2)) (hs : lst (twoT i) ls n (.ref x) = some ls') (k : K_ l S0 D dA p e R s m args below meth c Q i n0 k0 (pc + 2) ls' st σ) : K_ l S0 D dA p e R s m args below meth c Q i n0 k0 pc ls (.ref x :: st) σ :=
  fun H locs lsA h1 h2 h3 h4 h5 => lv_astore F.1 F.2.1 hd h3.has (h3.1 ▸ lst_lt hs) rfl (fun lsA' h9 => k H locs lsA' h1 h2 (h3.st1 rfl hs h9) h4 h5)
theorem k_fstore_n (F : Fr S0 p R s m args meth c i d n0 k0) {n : Fin 4} {x : UInt32} {ls' : Lo} (hd : decode (cT i) pc = .ok (.fstore_n n, 1)) (hs : lst (twoT i) ls n.val (.float x) = some ls') (k : K_ l S0 D dA p e R s m args below meth c Q i n0 k0 (pc + 1) ls' st σ) : K_ l S0 D dA p e R s m args below meth c Q i n0 k0 pc ls (.float x :: st) σ :=
  fun H locs lsA h1 h2 h3 h4 h5 => lv_fstore_n F.1 F.2.1 hd rfl h3.has (h3.1 ▸ lst_lt hs) rfl (fun lsA' h9 => k H locs lsA' h1 h2 (h3.st1 rfl hs h9) h4 h5)
theorem k_fstore (F : Fr S0 p R s m args meth c i d n0 k0) {n : Nat} {x : UInt32} {ls' : Lo} (hd : decode (cT i) pc = .ok (.fstore n, 2)) (hs : lst (twoT i) ls n (.float x) = some ls') (k : K_ l S0 D dA p e R s m args below meth c Q i n0 k0 (pc + 2) ls' st σ) : K_ l S0 D dA p e R s m args below meth c Q i n0 k0 pc ls (.float x :: st) σ :=
  fun H locs lsA h1 h2 h3 h4 h5 => lv_fstore F.1 F.2.1 hd h3.has (h3.1 ▸ lst_lt hs) rfl (fun lsA' h9 => k H locs lsA' h1 h2 (h3.st1 rfl hs h9) h4 h5)
theorem k_astore_nN (F : Fr S0 p R s m args meth c i d n0 k0) {n : Fin 4} {ls' : Lo} (hd : decode (cT i) pc = .ok (.astore_n n, 1)) (hs : lst (twoT i) ls n.val .null = some ls') (k : K_ l S0 D dA p e R s m args below meth c Q i n0 k0 (pc + 1) ls' st σ) : K_ l S0 D dA p e R s m args below meth c Q i n0 k0 pc ls (.null :: st) σ :=
  fun H locs lsA h1 h2 h3 h4 h5 => lv_astore_nN F.1 F.2.1 hd rfl h3.has (h3.1 ▸ lst_lt hs) rfl (fun lsA' h9 => k H locs lsA' h1 h2 (h3.st1 rfl hs h9) h4 h5)
theorem k_astoreN (F : Fr S0 p R s m args meth c i d n0 k0) {n : Nat} {ls' : Lo} (hd : decode (cT i) pc = .ok (.astore n, 2)) (hs : lst (twoT i) ls n .null = some ls') (k : K_ l S0 D dA p e R s m args below meth c Q i n0 k0 (pc + 2) ls' st σ) : K_ l S0 D dA p e R s m args below meth c Q i n0 k0 pc ls (.null :: st) σ :=
  fun H locs lsA h1 h2 h3 h4 h5 => lv_astoreN F.1 F.2.1 hd h3.has (h3.1 ▸ lst_lt hs) rfl (fun lsA' h9 => k H locs lsA' h1 h2 (h3.st1 rfl hs h9) h4 h5)
theorem k_iinc (F : Fr S0 p R s m args meth c i d n0 k0) {n : Nat} {z : Int} {x : Int32} {ls' : Lo} (hd : decode (cT i) pc = .ok (.iinc n z, 3)) (hl : lg ls n = some (.int x)) (hs : lst (twoT i) ls n (.int (x + Int32.ofInt z)) = some ls') (k : K_ l S0 D dA p e R s m args below meth c Q i n0 k0 (pc + 3) ls' st σ) : K_ l S0 D dA p e R s m args below meth c Q i n0 k0 pc ls st σ := by
  intro H locs lsA h1 h2 h3 h4 h5
  obtain ⟨j, hj⟩ := List.getElem?_of_mem (prs_mem.mpr hl)
  exact lv_iinc F.1 F.2.1 hd h3.has hj rfl (h3.1 ▸ lst_lt hs) rfl (fun lsA' h9 => k H locs lsA' h1 h2 (h3.st1 rfl hs h9) h4 h5)
theorem k_iconst (F : Fr S0 p R s m args meth c i d n0 k0) {n : Int} (hd : decode (cT i) pc = .ok (.iconst n, 1)) (k : K_ l S0 D dA p e R s m args below meth c Q i n0 k0 (pc + 1) ls (.int (Int32.ofInt n) :: st) σ) : K_ l S0 D dA p e R s m args below meth c Q i n0 k0 pc ls (st) σ :=
  fun H locs lsA h1 h2 h3 h4 h5 => lv_iconst F.1 F.2.1 hd rfl (k H locs lsA h1 h2 h3 h4 h5)
theorem k_bipush (F : Fr S0 p R s m args meth c i d n0 k0) {n : Int} (hd : decode (cT i) pc = .ok (.bipush n, 2)) (k : K_ l S0 D dA p e R s m args below meth c Q i n0 k0 (pc + 2) ls (.int (Int8.ofInt n).toInt32 :: st) σ) : K_ l S0 D dA p e R s m args below meth c Q i n0 k0 pc ls (st) σ :=
  fun H locs lsA h1 h2 h3 h4 h5 => lv_bipush F.1 F.2.1 hd rfl (k H locs lsA h1 h2 h3 h4 h5)
theorem k_sipush (F : Fr S0 p R s m args meth c i d n0 k0) {n : Int} (hd : decode (cT i) pc = .ok (.sipush n, 3)) (k : K_ l S0 D dA p e R s m args below meth c Q i n0 k0 (pc + 3) ls (.int (Int16.ofInt n).toInt32 :: st) σ) : K_ l S0 D dA p e R s m args below meth c Q i n0 k0 pc ls (st) σ :=
  fun H locs lsA h1 h2 h3 h4 h5 => lv_sipush F.1 F.2.1 hd rfl (k H locs lsA h1 h2 h3 h4 h5)
theorem k_lconst (F : Fr S0 p R s m args meth c i d n0 k0) {n : Fin 2} (hd : decode (cT i) pc = .ok (.lconst n, 1)) (k : K_ l S0 D dA p e R s m args below meth c Q i n0 k0 (pc + 1) ls (.long (Int64.ofNat n.val) :: st) σ) : K_ l S0 D dA p e R s m args below meth c Q i n0 k0 pc ls (st) σ :=
  fun H locs lsA h1 h2 h3 h4 h5 => lv_lconst F.1 F.2.1 hd rfl (k H locs lsA h1 h2 h3 h4 h5)
theorem k_null (F : Fr S0 p R s m args meth c i d n0 k0)  (hd : decode (cT i) pc = .ok (.aconst_null, 1)) (k : K_ l S0 D dA p e R s m args below meth c Q i n0 k0 (pc + 1) ls (.null :: st) σ) : K_ l S0 D dA p e R s m args below meth c Q i n0 k0 pc ls (st) σ :=
  fun H locs lsA h1 h2 h3 h4 h5 => lv_null F.1 F.2.1 hd (k H locs lsA h1 h2 h3 h4 h5)
theorem k_fconst (F : Fr S0 p R s m args meth c i d n0 k0)  (hd : decode (cT i) pc = .ok (.fconst 0, 1)) (k : K_ l S0 D dA p e R s m args below meth c Q i n0 k0 (pc + 1) ls (.float FP.fconst0 :: st) σ) : K_ l S0 D dA p e R s m args below meth c Q i n0 k0 pc ls (st) σ :=
  fun H locs lsA h1 h2 h3 h4 h5 => lv_fconst0 F.1 F.2.1 hd (k H locs lsA h1 h2 h3 h4 h5)
theorem k_dconst (F : Fr S0 p R s m args meth c i d n0 k0)  (hd : decode (cT i) pc = .ok (.dconst 0, 1)) (k : K_ l S0 D dA p e R s m args below meth c Q i n0 k0 (pc + 1) ls (.double FP.dconst0 :: st) σ) : K_ l S0 D dA p e R s m args below meth c Q i n0 k0 pc ls (st) σ :=
  fun H locs lsA h1 h2 h3 h4 h5 => lv_dconst0 F.1 F.2.1 hd (k H locs lsA h1 h2 h3 h4 h5)
theorem k_iadd (F : Fr S0 p R s m args meth c i d n0 k0) {x y : Int32} (hd : decode (cT i) pc = .ok (.iadd, 1)) (k : K_ l S0 D dA p e R s m args below meth c Q i n0 k0 (pc + 1) ls (.int (x + y) :: st) σ) : K_ l S0 D dA p e R s m args below meth c Q i n0 k0 pc ls (.int y :: .int x :: st) σ :=
  fun H locs lsA h1 h2 h3 h4 h5 => lv_iadd F.1 F.2.1 hd (k H locs lsA h1 h2 h3 h4 h5)
theorem k_isub (F : Fr S0 p R s m args meth c i d n0 k0) {x y : Int32} (hd : decode (cT i) pc = .ok (.isub, 1)) (k : K_ l S0 D dA p e R s m args below meth c Q i n0 k0 (pc + 1) ls (.int (x - y) :: st) σ) : K_ l S0 D dA p e R s m args below meth c Q i n0 k0 pc ls (.int y :: .int x :: st) σ :=
  fun H locs lsA h1 h2 h3 h4 h5 => lv_isub F.1 F.2.1 hd (k H locs lsA h1 h2 h3 h4 h5)
theorem k_imul (F : Fr S0 p R s m args meth c i d n0 k0) {x y : Int32} (hd : decode (cT i) pc = .ok (.imul, 1)) (k : K_ l S0 D dA p e R s m args below meth c Q i n0 k0 (pc + 1) ls (.int (x * y) :: st) σ) : K_ l S0 D dA p e R s m args below meth c Q i n0 k0 pc ls (.int y :: .int x :: st) σ :=
  fun H locs lsA h1 h2 h3 h4 h5 => lv_imul F.1 F.2.1 hd (k H locs lsA h1 h2 h3 h4 h5)
theorem k_iand (F : Fr S0 p R s m args meth c i d n0 k0) {x y : Int32} (hd : decode (cT i) pc = .ok (.iand, 1)) (k : K_ l S0 D dA p e R s m args below meth c Q i n0 k0 (pc + 1) ls (.int (x &&& y) :: st) σ) : K_ l S0 D dA p e R s m args below meth c Q i n0 k0 pc ls (.int y :: .int x :: st) σ :=
  fun H locs lsA h1 h2 h3 h4 h5 => lv_iand F.1 F.2.1 hd (k H locs lsA h1 h2 h3 h4 h5)
theorem k_ior (F : Fr S0 p R s m args meth c i d n0 k0) {x y : Int32} (hd : decode (cT i) pc = .ok (.ior, 1)) (k : K_ l S0 D dA p e R s m args below meth c Q i n0 k0 (pc + 1) ls (.int (x ||| y) :: st) σ) : K_ l S0 D dA p e R s m args below meth c Q i n0 k0 pc ls (.int y :: .int x :: st) σ :=
  fun H locs lsA h1 h2 h3 h4 h5 => lv_ior F.1 F.2.1 hd (k H locs lsA h1 h2 h3 h4 h5)
theorem k_ixor (F : Fr S0 p R s m args meth c i d n0 k0) {x y : Int32} (hd : decode (cT i) pc = .ok (.ixor, 1)) (k : K_ l S0 D dA p e R s m args below meth c Q i n0 k0 (pc + 1) ls (.int (x ^^^ y) :: st) σ) : K_ l S0 D dA p e R s m args below meth c Q i n0 k0 pc ls (.int y :: .int x :: st) σ :=
  fun H locs lsA h1 h2 h3 h4 h5 => lv_ixor F.1 F.2.1 hd (k H locs lsA h1 h2 h3 h4 h5)
theorem k_ishl (F : Fr S0 p R s m args meth c i d n0 k0) {x y : Int32} (hd : decode (cT i) pc = .ok (.ishl, 1)) (k : K_ l S0 D dA p e R s m args below meth c Q i n0 k0 (pc + 1) ls (.int (x <<< (y &&& 31)) :: st) σ) : K_ l S0 D dA p e R s m args below meth c Q i n0 k0 pc ls (.int y :: .int x :: st) σ :=
  fun H locs lsA h1 h2 h3 h4 h5 => lv_ishl F.1 F.2.1 hd (k H locs lsA h1 h2 h3 h4 h5)
theorem k_ishr (F : Fr S0 p R s m args meth c i d n0 k0) {x y : Int32} (hd : decode (cT i) pc = .ok (.ishr, 1)) (k : K_ l S0 D dA p e R s m args below meth c Q i n0 k0 (pc + 1) ls (.int (x >>> (y &&& 31)) :: st) σ) : K_ l S0 D dA p e R s m args below meth c Q i n0 k0 pc ls (.int y :: .int x :: st) σ :=
  fun H locs lsA h1 h2 h3 h4 h5 => lv_ishr F.1 F.2.1 hd (k H locs lsA h1 h2 h3 h4 h5)
theorem k_iushr (F : Fr S0 p R s m args meth c i d n0 k0) {x y : Int32} (hd : decode (cT i) pc = .ok (.iushr, 1)) (k : K_ l S0 D dA p e R s m args below meth c Q i n0 k0 (pc + 1) ls (.int ((x.toUInt32 >>> (y.toUInt32 &&& Int32.toUInt32 31)).toInt32) :: st) σ) : K_ l S0 D dA p e R s m args below meth c Q i n0 k0 pc ls (.int y :: .int x :: st) σ :=
  fun H locs lsA h1 h2 h3 h4 h5 => lv_iushr F.1 F.2.1 hd rfl (k H locs lsA h1 h2 h3 h4 h5)
theorem k_idiv (F : Fr S0 p R s m args meth c i d n0 k0) {x y : Int32} (hd : decode (cT i) pc = .ok (.idiv, 1)) (hne : ¬ y = 0) (k : K_ l S0 D dA p e R s m args below meth c Q i n0 k0 (pc + 1) ls (.int (x / y) :: st) σ) : K_ l S0 D dA p e R s m args below meth c Q i n0 k0 pc ls (.int y :: .int x :: st) σ :=
  fun H locs lsA h1 h2 h3 h4 h5 => lv_idiv F.1 F.2.1 hd hne (k H locs lsA h1 h2 h3 h4 h5)
theorem k_irem (F : Fr S0 p R s m args meth c i d n0 k0) {x y : Int32} (hd : decode (cT i) pc = .ok (.irem, 1)) (hne : ¬ y = 0) (k : K_ l S0 D dA p e R s m args below meth c Q i n0 k0 (pc + 1) ls (.int (x - x / y * y) :: st) σ) : K_ l S0 D dA p e R s m args below meth c Q i n0 k0 pc ls (.int y :: .int x :: st) σ :=
  fun H locs lsA h1 h2 h3 h4 h5 => lv_irem F.1 F.2.1 hd hne (k H locs lsA h1 h2 h3 h4 h5)
theorem k_ineg (F : Fr S0 p R s m args meth c i d n0 k0) {x : Int32} (hd : decode (cT i) pc = .ok (.ineg, 1)) (k : K_ l S0 D dA p e R s m args below meth c Q i n0 k0 (pc + 1) ls (.int (-x) :: st) σ) : K_ l S0 D dA p e R s m args below meth c Q i n0 k0 pc ls (.int x :: st) σ :=
  fun H locs lsA h1 h2 h3 h4 h5 => lv_ineg F.1 F.2.1 hd (k H locs lsA h1 h2 h3 h4 h5)
theorem k_i2l (F : Fr S0 p R s m args meth c i d n0 k0) {x : Int32} (hd : decode (cT i) pc = .ok (.i2l, 1)) (k : K_ l S0 D dA p e R s m args below meth c Q i n0 k0 (pc + 1) ls (.long x.toInt64 :: st) σ) : K_ l S0 D dA p e R s m args below meth c Q i n0 k0 pc ls (.int x :: st) σ :=
  fun H locs lsA h1 h2 h3 h4 h5 => lv_i2l F.1 F.2.1 hd rfl (k H locs lsA h1 h2 h3 h4 h5)
theorem k_i2b (F : Fr S0 p R s m args meth c i d n0 k0) {x : Int32} (hd : decode (cT i) pc = .ok (.i2b, 1)) (k : K_ l S0 D dA p e R s m args below meth c Q i n0 k0 (pc + 1) ls (.int x.toInt8.toInt32 :: st) σ) : K_ l S0 D dA p e R s m args below meth c Q i n0 k0 pc ls (.int x :: st) σ :=
  fun H locs lsA h1 h2 h3 h4 h5 => lv_i2b F.1 F.2.1 hd rfl (k H locs lsA h1 h2 h3 h4 h5)
theorem k_i2c (F : Fr S0 p R s m args meth c i d n0 k0) {x : Int32} (hd : decode (cT i) pc = .ok (.i2c, 1)) (k : K_ l S0 D dA p e R s m args below meth c Q i n0 k0 (pc + 1) ls (.int (x.toUInt32 % 65536).toInt32 :: st) σ) : K_ l S0 D dA p e R s m args below meth c Q i n0 k0 pc ls (.int x :: st) σ :=
  fun H locs lsA h1 h2 h3 h4 h5 => lv_i2c F.1 F.2.1 hd rfl (k H locs lsA h1 h2 h3 h4 h5)
theorem k_i2f (F : Fr S0 p R s m args meth c i d n0 k0) {x : Int32} (hd : decode (cT i) pc = .ok (.i2f, 1)) (k : K_ l S0 D dA p e R s m args below meth c Q i n0 k0 (pc + 1) ls (.float (FP.i2f x) :: st) σ) : K_ l S0 D dA p e R s m args below meth c Q i n0 k0 pc ls (.int x :: st) σ :=
  fun H locs lsA h1 h2 h3 h4 h5 => lv_i2f F.1 F.2.1 hd (k H locs lsA h1 h2 h3 h4 h5)
theorem k_i2d (F : Fr S0 p R s m args meth c i d n0 k0) {x : Int32} (hd : decode (cT i) pc = .ok (.i2d, 1)) (k : K_ l S0 D dA p e R s m args below meth c Q i n0 k0 (pc + 1) ls (.double (FP.i2d x) :: st) σ) : K_ l S0 D dA p e R s m args below meth c Q i n0 k0 pc ls (.int x :: st) σ :=
  fun H locs lsA h1 h2 h3 h4 h5 => lv_i2d F.1 F.2.1 hd (k H locs lsA h1 h2 h3 h4 h5)
theorem k_f2d (F : Fr S0 p R s m args meth c i d n0 k0) {x : UInt32} (hd : decode (cT i) pc = .ok (.f2d, 1)) (hne : vf_n64 (FP.f2d x)) (k : K_ l S0 D dA p e R s m args below meth c Q i n0 k0 (pc + 1) ls (.double (FP.f2d x) :: st) σ) : K_ l S0 D dA p e R s m args below meth c Q i n0 k0 pc ls (.float x :: st) σ :=
  fun H locs lsA h1 h2 h3 h4 h5 => lv_f2d F.1 F.2.1 hd hne (k H locs lsA h1 h2 h3 h4 h5)
theorem k_ddiv (F : Fr S0 p R s m args meth c i d n0 k0) {x y : UInt64} (hd : decode (cT i) pc = .ok (.ddiv, 1)) (hne : vf_n64 (FP.ddiv x y)) (k : K_ l S0 D dA p e R s m args below meth c Q i n0 k0 (pc + 1) ls (.double (FP.ddiv x y) :: st) σ) : K_ l S0 D dA p e R s m args below meth c Q i n0 k0 pc ls (.double y :: .double x :: st) σ :=
  fun H locs lsA h1 h2 h3 h4 h5 => lv_ddiv F.1 F.2.1 hd hne (k H locs lsA h1 h2 h3 h4 h5)
theorem k_fdiv (F : Fr S0 p R s m args meth c i d n0 k0) {x y : UInt32} (hd : decode (cT i) pc = .ok (.fdiv, 1)) (hne : vf_n32 (FP.fdiv x y)) (k : K_ l S0 D dA p e R s m args below meth c Q i n0 k0 (pc + 1) ls (.float (FP.fdiv x y) :: st) σ) : K_ l S0 D dA p e R s m args below meth c Q i n0 k0 pc ls (.float y :: .float x :: st) σ :=
  fun H locs lsA h1 h2 h3 h4 h5 => lv_fdiv F.1 F.2.1 hd hne (k H locs lsA h1 h2 h3 h4 h5)
theorem k_lcmp (F : Fr S0 p R s m args meth c i d n0 k0) {x y : Int64} (hd : decode (cT i) pc = .ok (.lcmp, 1)) (k : K_ l S0 D dA p e R s m args below meth c Q i n0 k0 (pc + 1) ls (.int (lg_cmp x y) :: st) σ) : K_ l S0 D dA p e R s m args below meth c Q i n0 k0 pc ls (.long y :: .long x :: st) σ :=
  fun H locs lsA h1 h2 h3 h4 h5 => W.lcmp F.1 F.2.1 hd (k H locs lsA h1 h2 h3 h4 h5)
theorem k_dcmp (F : Fr S0 p R s m args meth c i d n0 k0) {x y : UInt64} {op : CmpOp} (hd : decode (cT i) pc = .ok (.dcmp op, 1)) (k : K_ l S0 D dA p e R s m args below meth c Q i n0 k0 (pc + 1) ls (.int (Op.cmpValue (FP.dcmp x y) op) :: st) σ) : K_ l S0 D dA p e R s m args below meth c Q i n0 k0 pc ls (.double y :: .double x :: st) σ :=
  fun H locs lsA h1 h2 h3 h4 h5 => lv_dcmp F.1 F.2.1 hd (k H locs lsA h1 h2 h3 h4 h5)
theorem k_fcmp (F : Fr S0 p R s m args meth c i d n0 k0) {x y : UInt32} {op : CmpOp} (hd : decode (cT i) pc = .ok (.fcmp op, 1)) (k : K_ l S0 D dA p e R s m args below meth c Q i n0 k0 (pc + 1) ls (.int (Op.cmpValue (FP.fcmp x y) op) :: st) σ) : K_ l S0 D dA p e R s m args below meth c Q i n0 k0 pc ls (.float y :: .float x :: st) σ :=
  fun H locs lsA h1 h2 h3 h4 h5 => lv_fcmp F.1 F.2.1 hd (k H locs lsA h1 h2 h3 h4 h5)
theorem k_dup (F : Fr S0 p R s m args meth c i d n0 k0) {v : Value} (hd : decode (cT i) pc = .ok (.dup, 1)) (hv : v.category = 1) (k : K_ l S0 D dA p e R s m args below meth c Q i n0 k0 (pc + 1) ls (v :: v :: st) σ) : K_ l S0 D dA p e R s m args below meth c Q i n0 k0 pc ls (v :: st) σ :=
  fun H locs lsA h1 h2 h3 h4 h5 => lv_dup F.1 F.2.1 hd hv (k H locs lsA h1 h2 h3 h4 h5)
theorem k_pop (F : Fr S0 p R s m args meth c i d n0 k0) {v : Value} (hd : decode (cT i) pc = .ok (.pop, 1)) (hv : v.category = 1) (k : K_ l S0 D dA p e R s m args below meth c Q i n0 k0 (pc + 1) ls (st) σ) : K_ l S0 D dA p e R s m args below meth c Q i n0 k0 pc ls (v :: st) σ :=
  fun H locs lsA h1 h2 h3 h4 h5 => lv_pop F.1 F.2.1 hd hv (k H locs lsA h1 h2 h3 h4 h5)
theorem k_dup_x1 (F : Fr S0 p R s m args meth c i d n0 k0) {v w : Value} (hd : decode (cT i) pc = .ok (.dup_x1, 1)) (hv : v.category = 1) (hw : w.category = 1) (k : K_ l S0 D dA p e R s m args below meth c Q i n0 k0 (pc + 1) ls (v :: w :: v :: st) σ) : K_ l S0 D dA p e R s m args below meth c Q i n0 k0 pc ls (v :: w :: st) σ :=
  fun H locs lsA h1 h2 h3 h4 h5 => lv_dup_x1 F.1 F.2.1 hd hv hw (k H locs lsA h1 h2 h3 h4 h5)
theorem k_dup2 (F : Fr S0 p R s m args meth c i d n0 k0) {v w : Value} (hd : decode (cT i) pc = .ok (.dup2, 1)) (hv : v.category = 1) (hw : w.category = 1) (k : K_ l S0 D dA p e R s m args below meth c Q i n0 k0 (pc + 1) ls (v :: w :: v :: w :: st) σ) : K_ l S0 D dA p e R s m args below meth c Q i n0 k0 pc ls (v :: w :: st) σ :=
  fun H locs lsA h1 h2 h3 h4 h5 => lv_dup2_11 F.1 F.2.1 hd hv hw (k H locs lsA h1 h2 h3 h4 h5)
theorem k_goto (F : Fr S0 p R s m args meth c i d n0 k0) {off : Int} {t : Nat} (hd : decode (cT i) pc = .ok (.goto off, 3)) (ht : (pc : Int) + off = (t : Int)) (k : K_ l S0 D dA p e R s m args below meth c Q i n0 k0 t ls st σ) : K_ l S0 D dA p e R s m args below meth c Q i n0 k0 pc ls st σ :=
  fun H locs lsA h1 h2 h3 h4 h5 => lv_goto F.1 F.2.1 hd ht (k H locs lsA h1 h2 h3 h4 h5)
theorem k_if_eq (F : Fr S0 p R s m args meth c i d n0 k0) {x : Int32} {off : Int} {t : Nat} (hd : decode (cT i) pc = .ok (.ifCond .eq off, 3)) (ht : (pc : Int) + off = (t : Int)) (kt : x = 0 → K_ l S0 D dA p e R s m args below meth c Q i n0 k0 t ls st σ) (kf : ¬ x = 0 → K_ l S0 D dA p e R s m args below meth c Q i n0 k0 (pc + 3) ls st σ) : K_ l S0 D dA p e R s m args below meth c Q i n0 k0 pc ls (.int x :: st) σ :=
  fun H locs lsA h1 h2 h3 h4 h5 => lv_if_eq F.1 F.2.1 hd ht (fun h => kt h H locs lsA h1 h2 h3 h4 h5) (fun h => kf h H locs lsA h1 h2 h3 h4 h5)
theorem k_if_ne (F : Fr S0 p R s m args meth c i d n0 k0) {x : Int32} {off : Int} {t : Nat} (hd : decode (cT i) pc = .ok (.ifCond .ne off, 3)) (ht : (pc : Int) + off = (t : Int)) (kt : ¬ x = 0 → K_ l S0 D dA p e R s m args below meth c Q i n0 k0 t ls st σ) (kf : x = 0 → K_ l S0 D dA p e R s m args below meth c Q i n0 k0 (pc + 3) ls st σ) : K_ l S0 D dA p e R s m args below meth c Q i n0 k0 pc ls (.int x :: st) σ :=
  fun H locs lsA h1 h2 h3 h4 h5 => lv_if_ne F.1 F.2.1 hd ht (fun h => kt h H locs lsA h1 h2 h3 h4 h5) (fun h => kf h H locs lsA h1 h2 h3 h4 h5)
theorem k_if_lt (F : Fr S0 p R s m args meth c i d n0 k0) {x : Int32} {off : Int} {t : Nat} (hd : decode (cT i) pc = .ok (.ifCond .lt off, 3)) (ht : (pc : Int) + off = (t : Int)) (kt : x < 0 → K_ l S0 D dA p e R s m args below meth c Q i n0 k0 t ls st σ) (kf : ¬ x < 0 → K_ l S0 D dA p e R s m args below meth c Q i n0 k0 (pc + 3) ls st σ) : K_ l S0 D dA p e R s m args below meth c Q i n0 k0 pc ls (.int x :: st) σ :=
  fun H locs lsA h1 h2 h3 h4 h5 => lv_if_lt F.1 F.2.1 hd ht (fun h => kt h H locs lsA h1 h2 h3 h4 h5) (fun h => kf h H locs lsA h1 h2 h3 h4 h5)
theorem k_if_ge (F : Fr S0 p R s m args meth c i d n0 k0) {x : Int32} {off : Int} {t : Nat} (hd : decode (cT i) pc = .ok (.ifCond .ge off, 3)) (ht : (pc : Int) + off = (t : Int)) (kt : 0 ≤ x → K_ l S0 D dA p e R s m args below meth c Q i n0 k0 t ls st σ) (kf : ¬ 0 ≤ x → K_ l S0 D dA p e R s m args below meth c Q i n0 k0 (pc + 3) ls st σ) : K_ l S0 D dA p e R s m args below meth c Q i n0 k0 pc ls (.int x :: st) σ :=
  fun H locs lsA h1 h2 h3 h4 h5 => lv_if_ge F.1 F.2.1 hd ht (fun h => kt h H locs lsA h1 h2 h3 h4 h5) (fun h => kf h H locs lsA h1 h2 h3 h4 h5)
theorem k_if_gt (F : Fr S0 p R s m args meth c i d n0 k0) {x : Int32} {off : Int} {t : Nat} (hd : decode (cT i) pc = .ok (.ifCond .gt off, 3)) (ht : (pc : Int) + off = (t : Int)) (kt : 0 < x → K_ l S0 D dA p e R s m args below meth c Q i n0 k0 t ls st σ) (kf : ¬ 0 < x → K_ l S0 D dA p e R s m args below meth c Q i n0 k0 (pc + 3) ls st σ) : K_ l S0 D dA p e R s m args below meth c Q i n0 k0 pc ls (.int x :: st) σ :=
  fun H locs lsA h1 h2 h3 h4 h5 => lv_if_gt F.1 F.2.1 hd ht (fun h => kt h H locs lsA h1 h2 h3 h4 h5) (fun h => kf h H locs lsA h1 h2 h3 h4 h5)
theorem k_if_le (F : Fr S0 p R s m args meth c i d n0 k0) {x : Int32} {off : Int} {t : Nat} (hd : decode (cT i) pc = .ok (.ifCond .le off, 3)) (ht : (pc : Int) + off = (t : Int)) (kt : x ≤ 0 → K_ l S0 D dA p e R s m args below meth c Q i n0 k0 t ls st σ) (kf : ¬ x ≤ 0 → K_ l S0 D dA p e R s m args below meth c Q i n0 k0 (pc + 3) ls st σ) : K_ l S0 D dA p e R s m args below meth c Q i n0 k0 pc ls (.int x :: st) σ :=
  fun H locs lsA h1 h2 h3 h4 h5 => lv_if_le F.1 F.2.1 hd ht (fun h => kt h H locs lsA h1 h2 h3 h4 h5) (fun h => kf h H locs lsA h1 h2 h3 h4 h5)
theorem k_icmp_eq (F : Fr S0 p R s m args meth c i d n0 k0) {x y : Int32} {off : Int} {t : Nat} (hd : decode (cT i) pc = .ok (.if_icmp .eq off, 3)) (ht : (pc : Int) + off = (t : Int)) (kt : x = y → K_ l S0 D dA p e R s m args below meth c Q i n0 k0 t ls st σ) (kf : ¬ x = y → K_ l S0 D dA p e R s m args below meth c Q i n0 k0 (pc + 3) ls st σ) : K_ l S0 D dA p e R s m args below meth c Q i n0 k0 pc ls (.int y :: .int x :: st) σ :=
  fun H locs lsA h1 h2 h3 h4 h5 => lv_icmp_eq F.1 F.2.1 hd ht (fun h => kt h H locs lsA h1 h2 h3 h4 h5) (fun h => kf h H locs lsA h1 h2 h3 h4 h5)
theorem k_icmp_ne (F : Fr S0 p R s m args meth c i d n0 k0) {x y : Int32} {off : Int} {t : Nat} (hd : decode (cT i) pc = .ok (.if_icmp .ne off, 3)) (ht : (pc : Int) + off = (t : Int)) (kt : ¬ x = y → K_ l S0 D dA p e R s m args below meth c Q i n0 k0 t ls st σ) (kf : x = y → K_ l S0 D dA p e R s m args below meth c Q i n0 k0 (pc + 3) ls st σ) : K_ l S0 D dA p e R s m args below meth c Q i n0 k0 pc ls (.int y :: .int x :: st) σ :=
  fun H locs lsA h1 h2 h3 h4 h5 => lv_icmp_ne F.1 F.2.1 hd ht (fun h => kt h H locs lsA h1 h2 h3 h4 h5) (fun h => kf h H locs lsA h1 h2 h3 h4 h5)
theorem k_icmp_lt (F : Fr S0 p R s m args meth c i d n0 k0) {x y : Int32} {off : Int} {t : Nat} (hd : decode (cT i) pc = .ok (.if_icmp .lt off, 3)) (ht : (pc : Int) + off = (t : Int)) (kt : x < y → K_ l S0 D dA p e R s m args below meth c Q i n0 k0 t ls st σ) (kf : ¬ x < y → K_ l S0 D dA p e R s m args below meth c Q i n0 k0 (pc + 3) ls st σ) : K_ l S0 D dA p e R s m args below meth c Q i n0 k0 pc ls (.int y :: .int x :: st) σ :=
  fun H locs lsA h1 h2 h3 h4 h5 => lv_icmp_lt F.1 F.2.1 hd ht (fun h => kt h H locs lsA h1 h2 h3 h4 h5) (fun h => kf h H locs lsA h1 h2 h3 h4 h5)
theorem k_icmp_ge (F : Fr S0 p R s m args meth c i d n0 k0) {x y : Int32} {off : Int} {t : Nat} (hd : decode (cT i) pc = .ok (.if_icmp .ge off, 3)) (ht : (pc : Int) + off = (t : Int)) (kt : y ≤ x → K_ l S0 D dA p e R s m args below meth c Q i n0 k0 t ls st σ) (kf : ¬ y ≤ x → K_ l S0 D dA p e R s m args below meth c Q i n0 k0 (pc + 3) ls st σ) : K_ l S0 D dA p e R s m args below meth c Q i n0 k0 pc ls (.int y :: .int x :: st) σ :=
  fun H locs lsA h1 h2 h3 h4 h5 => lv_icmp_ge F.1 F.2.1 hd ht (fun h => kt h H locs lsA h1 h2 h3 h4 h5) (fun h => kf h H locs lsA h1 h2 h3 h4 h5)
theorem k_icmp_gt (F : Fr S0 p R s m args meth c i d n0 k0) {x y : Int32} {off : Int} {t : Nat} (hd : decode (cT i) pc = .ok (.if_icmp .gt off, 3)) (ht : (pc : Int) + off = (t : Int)) (kt : y < x → K_ l S0 D dA p e R s m args below meth c Q i n0 k0 t ls st σ) (kf : ¬ y < x → K_ l S0 D dA p e R s m args below meth c Q i n0 k0 (pc + 3) ls st σ) : K_ l S0 D dA p e R s m args below meth c Q i n0 k0 pc ls (.int y :: .int x :: st) σ :=
  fun H locs lsA h1 h2 h3 h4 h5 => lv_icmp_gt F.1 F.2.1 hd ht (fun h => kt h H locs lsA h1 h2 h3 h4 h5) (fun h => kf h H locs lsA h1 h2 h3 h4 h5)
theorem k_icmp_le (F : Fr S0 p R s m args meth c i d n0 k0) {x y : Int32} {off : Int} {t : Nat} (hd : decode (cT i) pc = .ok (.if_icmp .le off, 3)) (ht : (pc : Int) + off = (t : Int)) (kt : x ≤ y → K_ l S0 D dA p e R s m args below meth c Q i n0 k0 t ls st σ) (kf : ¬ x ≤ y → K_ l S0 D dA p e R s m args below meth c Q i n0 k0 (pc + 3) ls st σ) : K_ l S0 D dA p e R s m args below meth c Q i n0 k0 pc ls (.int y :: .int x :: st) σ :=
  fun H locs lsA h1 h2 h3 h4 h5 => lv_icmp_le F.1 F.2.1 hd ht (fun h => kt h H locs lsA h1 h2 h3 h4 h5) (fun h => kf h H locs lsA h1 h2 h3 h4 h5)
theorem k_acmp_eq (F : Fr S0 p R s m args meth c i d n0 k0) {x y : Nat} {off : Int} {t : Nat} (hd : decode (cT i) pc = .ok (.if_acmp .eq off, 3)) (ht : (pc : Int) + off = (t : Int)) (kt : x = y → K_ l S0 D dA p e R s m args below meth c Q i n0 k0 t ls st σ) (kf : ¬ x = y → K_ l S0 D dA p e R s m args below meth c Q i n0 k0 (pc + 3) ls st σ) : K_ l S0 D dA p e R s m args below meth c Q i n0 k0 pc ls (.ref y :: .ref x :: st) σ :=
  fun H locs lsA h1 h2 h3 h4 h5 => lv_acmp_eq (rx := some x) (ry := some y) F.1 F.2.1 hd ht (fun h => kt (by simpa using h) H locs lsA h1 h2 h3 h4 h5) (fun h => kf (by simpa using h) H locs lsA h1 h2 h3 h4 h5)
theorem k_acmp_ne (F : Fr S0 p R s m args meth c i d n0 k0) {x y : Nat} {off : Int} {t : Nat} (hd : decode (cT i) pc = .ok (.if_acmp .ne off, 3)) (ht : (pc : Int) + off = (t : Int)) (kt : ¬ x = y → K_ l S0 D dA p e R s m args below meth c Q i n0 k0 t ls st σ) (kf : x = y → K_ l S0 D dA p e R s m args below meth c Q i n0 k0 (pc + 3) ls st σ) : K_ l S0 D dA p e R s m args below meth c Q i n0 k0 pc ls (.ref y :: .ref x :: st) σ :=
  fun H locs lsA h1 h2 h3 h4 h5 => lv_acmp_ne (rx := some x) (ry := some y) F.1 F.2.1 hd ht (fun h => kt (by simpa using h) H locs lsA h1 h2 h3 h4 h5) (fun h => kf (by simpa using h) H locs lsA h1 h2 h3 h4 h5)
theorem k_ifnull (F : Fr S0 p R s m args meth c i d n0 k0) {x : Nat} {off : Int} (hd : decode (cT i) pc = .ok (.ifnull off, 3)) (k : K_ l S0 D dA p e R s m args below meth c Q i n0 k0 (pc + 3) ls st σ) : K_ l S0 D dA p e R s m args below meth c Q i n0 k0 pc ls (.ref x :: st) σ :=
  fun H locs lsA h1 h2 h3 h4 h5 => lv_ifnull F.1 F.2.1 hd (k H locs lsA h1 h2 h3 h4 h5)
theorem k_ifnullN (F : Fr S0 p R s m args meth c i d n0 k0) {off : Int} {t : Nat} (hd : decode (cT i) pc = .ok (.ifnull off, 3)) (ht : (pc : Int) + off = (t : Int)) (k : K_ l S0 D dA p e R s m args below meth c Q i n0 k0 t ls st σ) : K_ l S0 D dA p e R s m args below meth c Q i n0 k0 pc ls (.null :: st) σ :=
  fun H locs lsA h1 h2 h3 h4 h5 => lv_ifnullN F.1 F.2.1 hd ht (k H locs lsA h1 h2 h3 h4 h5)
theorem k_ifnonnull (F : Fr S0 p R s m args meth c i d n0 k0) {x : Nat} {off : Int} {t : Nat} (hd : decode (cT i) pc = .ok (.ifnonnull off, 3)) (ht : (pc : Int) + off = (t : Int)) (k : K_ l S0 D dA p e R s m args below meth c Q i n0 k0 t ls st σ) : K_ l S0 D dA p e R s m args below meth c Q i n0 k0 pc ls (.ref x :: st) σ :=
  fun H locs lsA h1 h2 h3 h4 h5 => lv_ifnonnull F.1 F.2.1 hd ht (k H locs lsA h1 h2 h3 h4 h5)
theorem k_ifnonnullN (F : Fr S0 p R s m args meth c i d n0 k0) {off : Int} (hd : decode (cT i) pc = .ok (.ifnonnull off, 3)) (k : K_ l S0 D dA p e R s m args below meth c Q i n0 k0 (pc + 3) ls st σ) : K_ l S0 D dA p e R s m args below meth c Q i n0 k0 pc ls (.null :: st) σ :=
  fun H locs lsA h1 h2 h3 h4 h5 => lv_ifnonnullN F.1 F.2.1 hd (k H locs lsA h1 h2 h3 h4 h5)
theorem k_swOut (F : Fr S0 p R s m args meth c i d n0 k0) {dflt lo hi : Int} {offs : Array Int} {len : Nat} {x : Int32} {t : Nat} (hd : decode (cT i) pc = .ok (.tableswitch dflt lo hi offs, len)) (h : x.toInt < lo ∨ hi < x.toInt) (ht : (pc : Int) + dflt = (t : Int)) (k : K_ l S0 D dA p e R s m args below meth c Q i n0 k0 t ls st σ) : K_ l S0 D dA p e R s m args below meth c Q i n0 k0 pc ls (.int x :: st) σ :=
  fun H locs lsA h1 h2 h3 h4 h5 => lv_tableOut F.1 F.2.1 hd h ht (k H locs lsA h1 h2 h3 h4 h5)
theorem k_swIn (F : Fr S0 p R s m args meth c i d n0 k0) {dflt lo hi : Int} {offs : Array Int} {len : Nat} {x : Int32} {off : Int} {t : Nat} (hd : decode (cT i) pc = .ok (.tableswitch dflt lo hi offs, len)) (h7 : ¬ x.toInt < lo) (h8 : ¬ hi < x.toInt) (ho : offs[(x.toInt - lo).toNat]? = some off) (ht : (pc : Int) + off = (t : Int)) (k : K_ l S0 D dA p e R s m args below meth c Q i n0 k0 t ls st σ) : K_ l S0 D dA p e R s m args below meth c Q i n0 k0 pc ls (.int x :: st) σ :=
  fun H locs lsA h1 h2 h3 h4 h5 => lv_tableIn F.1 F.2.1 hd h7 h8 ho ht (k H locs lsA h1 h2 h3 h4 h5)
end
