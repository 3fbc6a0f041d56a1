/-! SOUNDNESS, part 4: stores of references, arraycopy, calls, throws. -/
theorem cpy_len {l m : List Value} {sp dp n : Nat} (h1 : sp + n ≤ l.length) (h2 : dp + n ≤ m.length) : (cpy l m sp dp n).length = m.length := by
  simp [cpy]
  omega
theorem cpy_get {l m : List Value} {sp dp n : Nat} (h1 : sp + n ≤ l.length) (h2 : dp + n ≤ m.length) (j : Nat) : (cpy l m sp dp n)[j]? = if dp ≤ j ∧ j < dp + n then l[sp + (j - dp)]? else m[j]? := by
  unfold cpy
  by_cases h : j < dp
  · rw [if_neg (by omega), List.getElem?_append_left (by simp; omega), List.getElem?_take, if_pos h]
  · rw [List.getElem?_append_right (by simp; omega)]
    have e : (m.take dp).length = dp := by simp; omega
    rw [e]
    by_cases h3 : j < dp + n
    · rw [if_pos (by omega), List.getElem?_append_left (by simp; omega), List.getElem?_take, if_pos (by omega), List.getElem?_drop]
    · rw [if_neg (by omega), List.getElem?_append_right (by simp; omega), List.getElem?_drop]
      congr 1
      simp
      omega
section
variable {l : Launch} {S0 : State} {D : va_G} {dA : FieldType → ClassId} {p : Program} {e : Env} {R : Room} {s : State} {m : MethodId} {args : Array Value} {below : List Frame} {meth : Method} {c : Code} {Q : State → Prop} {i d n0 k0 : Nat}
variable {pc : Nat} {ls : Lo} {st : List Value} {σ : St}
theorem csum_eq : ∀ r : List Value, (r.map fun v => v.category).sum = csum r
  | [] => rfl
  | v :: r => by simp [csum, csum_eq r]
theorem k_aastore (F : Fr S0 p R s m args meth c i d n0 k0) (K0 : va_K D clT [] S0) {a v : Nat} {j : Int32} {σ' : St} (hd : decode (cT i) pc = .ok (.aastore, 1)) (hw : aRW σ "CloudInterviews$Board" 1 a j v = some σ') (k : K_ l S0 D dA p e R s m args below meth c Q i n0 k0 (pc + 1) ls st σ') : K_ l S0 D dA p e R s m args below meth c Q i n0 k0 pc ls (.ref v :: .int j :: .ref a :: st) σ := by
  intro H locs lsA h1 h2 h3 h4 h5
  unfold aRW at hw
  split at hw
  case h_2 => cases hw
  rename_i t li ha
  split at hw
  case isFalse => cases hw
  rename_i hcond
  obtain ⟨rfl, hrc, h0, hj⟩ := hcond
  cases hw
  obtain ⟨hB, g1, g2, g3, g4⟩ := h1.2.2.2 a _ ha
  unfold rcv at hrc
  split at hrc
  case h_2 => cases hrc
  rename_i ci fs hv
  have hci : ci = 1 := by simpa using hrc
  subst hci
  have hvat := h1.2.2.2 v _ hv
  unfold celAt at hvat
  simp only [show (1 < 100) = True by simp, if_true] at hvat
  obtain ⟨-, -, r', hr', cellV, v1, v2, v3, -⟩ := hvat
  have hK : va_K D clT [] s := va_K.moved F.alike K0
  have hcls := (hK.1 1 _ rfl).2
  cases (show clT[1]? = some r' from hr').symm.trans (rfl : clT[1]? = some (RX2, TX2, 3))
  obtain ⟨kA, comp, k1, k2, k3, -⟩ := va_RA.moved F.alike g4
  have hcomp : comp = D.1 1 := Option.some.inj (k3.symm.trans hcls.1)
  subst hcomp
  obtain ⟨kC, hkC, -⟩ := hcls.2
  exact W.aast F.1 F.2.1 g1 (fun q h => by cases h) (fun h => by cases h) k1 k2 rfl hkC ⟨h0, by rw [arrL_size]; exact hj⟩ v1 (fun q h => by rw [v3] at h; cases h) (by rw [v2]; exact hkC) (by rw [v2]; exact va_assign hcls) rfl rfl hd (arr_fin h1 h2 h3 h4 h5 ha rfl k)
/-- what the tables say of System.arraycopy -/
def AcOK (k x : Nat) : Prop := Cond.methodLink (ownT k) x arraycopyName ∈ TBg ∧ Cond.native arraycopyName ∈ TBg ∧ Cond.static arraycopyName ∈ TBg ∧ Cond.initialized "java/lang/System" ∈ TBg
theorem k_acopy (F : Fr S0 p R s m args meth c i d n0 k0) {x a b : Nat} {sp dp n : Int32} {σ' : St} (hA : AcOK (clsT i) x) (hd : decode (cT i) pc = .ok (.invokestatic x, 3)) (hcs : csum st ≤ 8) (hw : aC σ a sp b dp n = some σ') (k : K_ l S0 D dA p e R s m args below meth c Q i n0 k0 (pc + 3) ls st σ') : K_ l S0 D dA p e R s m args below meth c Q i n0 k0 pc ls (.int n :: .int dp :: .ref b :: .int sp :: .ref a :: st) σ := by
  intro H locs lsA h1 h2 h3 h4 h5
  unfold aC at hw
  obtain ⟨t, w, li, mi, ha, hb, hfl, hpr, c1, c2, c3, c4, c5, rfl⟩ : ∃ (t : FieldType) (w : Bool) (li mi : List Value), σ.1 a = some (.inl (t, w, li)) ∧ σ.1 b = some (.inl (t, true, mi)) ∧ (w = false → ∀ v ∈ (li.drop sp.toNatClampNeg).take n.toNatClampNeg, fits t v = true) ∧ t.isReference = false ∧ ¬ sp < 0 ∧ ¬ dp < 0 ∧ ¬ n < 0 ∧ sp.toNatClampNeg + n.toNatClampNeg ≤ li.length ∧ dp.toNatClampNeg + n.toNatClampNeg ≤ mi.length ∧ σ' = wset σ b (.inl (t, true, cpy li mi sp.toNatClampNeg dp.toNatClampNeg n.toNatClampNeg)) := by
    split at hw
    case h_3 => cases hw
    · rename_i t li t2 mi ha hb
      split at hw
      case isFalse => cases hw
      rename_i hcond
      obtain ⟨rfl, hpr, c1, c2, c3, c4, c5⟩ := hcond
      cases hw
      exact ⟨t, true, li, mi, ha, hb, (fun z => by cases z), hpr, c1, c2, c3, c4, c5, rfl⟩
    · rename_i t li t2 mi ha hb
      split at hw
      case isFalse => cases hw
      rename_i hcond
      obtain ⟨hfl, rfl, hpr, c1, c2, c3, c4, c5⟩ := hcond
      cases hw
      exact ⟨t, false, li, mi, ha, hb, (fun _ => hfl), hpr, c1, c2, c3, c4, c5, rfl⟩
  have nn : ∀ z : Int32, ¬ z < 0 → z.toInt = (z.toNatClampNeg : Int) := by
    intro z hz
    have hz0 : (0 : Int) ≤ z.toInt := by
      have := Int32.not_lt.mp hz
      simpa using Int32.le_iff_toInt_le.mp this
    show z.toInt = ((z.toInt.toNat : Nat) : Int)
    omega
  obtain ⟨hB, g1, g2, g3, g4⟩ := h1.2.2.2 b _ hb
  obtain ⟨cs, f1, fi, fv, fl⟩ := h1.arr ha
  have f2 : ∀ (j : Nat) (v : Value), j < n.toNatClampNeg → li[sp.toNatClampNeg + j]? = some v → fits t v = true := by
    intro j v hj hv
    cases w with
    | false => exact hfl rfl v (List.mem_of_getElem? (i := j) (by rw [List.getElem?_take, if_pos hj, List.getElem?_drop]; exact hv))
    | true => exact (h1.2.2.2 a _ ha).2.2.1 v (List.mem_of_getElem? hv)
  have fsz : cs.slots.size = li.length := by rw [← Array.length_toList, fl]
  obtain ⟨fi1, k1, hk1, cm1, hkk1⟩ := State.isArrayOf_alike F.alike fi
  have hpr2 : refKind t = false := by cases t <;> first | rfl | (cases hpr; done)
  obtain ⟨-, k0, hk0, cm0, hkk0⟩ := State.isArrayOf_alike F.alike (g3 0 (fun _ => .null))
  intro T hT X
  obtain ⟨vm', X', step⟩ := X.arraycopy F.1 F.own (F.hts _ hA.1) (F.hts _ hA.2.1) (F.hts _ hA.2.2.1) (F.hts _ hA.2.2.2) (src := a) (dst := b) (cs := cs) (cd := arrL (dA t) mi) (srcPos := sp) (destPos := dp) (n := n) (by rw [hT]; exact f1) (by rw [hT]; exact g1)
    fi1 (fun _ h => by cases h) fv (fun h => by cases h) hk1 hk0 hkk1 hkk0 (by simp [hpr2]) c1 c2 c3
    (by rw [nn sp c1, nn n c3, fsz]; omega)
    (by rw [nn dp c2, nn n c3, arrL_size]; omega)
    (fun vm₁ _ j hj => by
      have hlt : sp.toNatClampNeg + j < li.length := by omega
      have e : cs.slots.getD (sp.toNatClampNeg + j) .null = li[sp.toNatClampNeg + j] := by
        rw [Array.getD_eq_getD_getElem?, sl_get fl (List.getElem?_eq_getElem hlt)]
        rfl
      have hf := f2 j _ hj (List.getElem?_eq_getElem hlt)
      rw [e]
      refine ⟨hf, ?_⟩
      cases hh : li[sp.toNatClampNeg + j] with
      | ref z =>
        rw [hh] at hf
        cases t <;> first | (cases hf; done) | (cases hpr; done)
      | _ => exact trivial)
    (g := F0 m pc lsA (.int n :: .int dp :: .ref b :: .int sp :: .ref a :: st)) rfl (by rw [F.2.2.1]; exact h3.2.1) (rest := st) rfl (by rw [F.2.1]; exact hd) (by have := F.2.2.2.2.2.2.2.2.2.2.1; omega) (by
      have := F.2.2.2.2.2.2.2.2.2.2.2.1
      have e : nativeFrameWords "java/lang/System" "arraycopy" 5 = 7 := by decide
      rw [csum_eq, e]
      show 2 * 0 + _ + _ ≤ _
      omega)
  have e1 : copied cs (arrL (dA t) mi) sp dp n = arrL (dA t) (cpy li mi sp.toNatClampNeg dp.toNatClampNeg n.toNatClampNeg) := by
    refine (va_copiedX (fun z : Value => z) cs (dA t) (n0 := li.length) (n1 := mi.length) (fun j => li.getD j .null) (fun j => mi.getD j .null) (fun j hj => sl_get fl (by rw [List.getElem?_eq_getElem hj]; simp [hj])) c4).trans ?_
    unfold arrL
    rw [cpy_len c4 c5]
    apply arrV_congr
    intro j hj
    simp only [va_cpy, List.getD_eq_getElem?_getD, cpy_get c4 c5]
    split <;> rfl
  rw [e1] at X' step
  have hl : b < H.size := (Array.getElem?_eq_some_iff.mp g1).1
  have hheap : ((T.setVm vm').setCell b (arrL (dA t) (cpy li mi sp.toNatClampNeg dp.toNatClampNeg n.toNatClampNeg))).heap = H.setIfInBounds b (arrL (dA t) (cpy li mi sp.toNatClampNeg dp.toNatClampNeg n.toNatClampNeg)) := by rw [← hT]; rfl
  obtain ⟨t9, a1, b1⟩ := k (H.setIfInBounds b (arrL (dA t) (cpy li mi sp.toNatClampNeg dp.toNatClampNeg n.toNatClampNeg))) _ lsA
    (h1.upd hB (by simp) (fun q hq => by simp [Array.getElem?_setIfInBounds, Ne.symm hq]) ⟨hB, by simp [Array.getElem?_setIfInBounds, hl], fun w hw => by
      obtain ⟨j, hj⟩ := List.getElem?_of_mem hw
      rw [cpy_get c4 c5] at hj
      split at hj
      · rename_i hdj
        exact f2 (j - dp.toNatClampNeg) w (by omega) hj
      · exact g2 w (List.mem_of_getElem? hj), g3, g4⟩) (fun z hz => by
      rcases List.mem_append.mp hz with h | h
      · exact h2 z h
      · obtain ⟨y, -, hy⟩ := List.mem_map.mp h
        rw [← hy]; exact hB) h3 h4 h5 _ hheap X'
  exact ⟨t9, step t9 a1, b1⟩
theorem k_dstore (F : Fr S0 p R s m args meth c i d n0 k0) {n : Nat} {x : UInt64} {ls' : Lo} (hd : decode (cT i) pc = .ok (.dstore n, 2)) (ht : twoT i = true) (hn : n + 1 < ls.length) (hs : lst (twoT i) ls n (.double x) = some ls') (k : K_ l S0 D dA p e R s m args below meth c Q i n0 k0 (pc + 2) (ls'.set (n + 1) none) st σ) : K_ l S0 D dA p e R s m args below meth c Q i n0 k0 pc ls (.double x :: st) σ := by
  intro H locs lsA h1 h2 h3 h4 h5
  refine lv_dstore F.1 F.2.1 hd h3.has (h3.1 ▸ hn) rfl (fun lsA' h9 => k H locs lsA' h1 h2 ?_ h4 h5)
  have hn1 := lst_lt hs
  unfold lst at hs
  rw [if_pos hn1] at hs
  split at hs
  · cases hs
  · rename_i h8
    cases hs
    rw [ht, Bool.true_and] at h8
    refine ⟨by simp [h3.1], h9.1, h9.2.1, fun j w hj => ?_, fun h0 => by rw [ht] at h0; cases h0⟩
    rw [lg_set (by simpa using hn)] at hj
    by_cases hj1 : j = n + 1
    · rw [if_pos hj1] at hj; cases hj
    · rw [if_neg hj1, lg_set hn1] at hj
      by_cases hj2 : j = n
      · rw [if_pos hj2] at hj
        cases hj
        rw [hj2]
        exact h9.2.2 _ List.mem_cons_self
      · rw [if_neg hj2] at hj
        refine h9.2.2 (j, w) (List.mem_cons_of_mem _ (List.mem_filter.mpr ⟨prs_mem.mpr hj, ?_⟩))
        simp only [hj2, hj1, beq_iff_eq, Bool.not_eq_true', Bool.and_eq_true, Bool.not_eq_eq_eq_not, Bool.not_true]
        refine ⟨by simp [hj2], by simp [hj1], ?_⟩
        cases n with
        | zero => simp
        | succ n =>
          by_cases hk1 : j = n
          · subst hk1
            have h7 : lcat ls (j + 1) = false := by cases hh : lcat ls (j + 1) with
              | false => rfl
              | true => exact absurd hh h8
            simp only [lcat, hj] at h7
            cases w <;> first | (simp [Value.category]; done) | cases h7
          · simp [hk1]
theorem k_lstore (F : Fr S0 p R s m args meth c i d n0 k0) {n : Nat} {x : Int64} {ls' : Lo} (hd : decode (cT i) pc = .ok (.lstore n, 2)) (ht : twoT i = true) (hn : n + 1 < ls.length) (hs : lst (twoT i) ls n (.long x) = some ls') (k : K_ l S0 D dA p e R s m args below meth c Q i n0 k0 (pc + 2) (ls'.set (n + 1) none) st σ) : K_ l S0 D dA p e R s m args below meth c Q i n0 k0 pc ls (.long x :: st) σ := by
  intro H locs lsA h1 h2 h3 h4 h5
  refine lv_lstore F.1 F.2.1 hd h3.has (h3.1 ▸ hn) rfl (fun lsA' h9 => k H locs lsA' h1 h2 ?_ h4 h5)
  have hn1 := lst_lt hs
  unfold lst at hs
  rw [if_pos hn1] at hs
  split at hs
  · cases hs
  · rename_i h8
    cases hs
    rw [ht, Bool.true_and] at h8
    refine ⟨by simp [h3.1], h9.1, h9.2.1, fun j w hj => ?_, fun h0 => by rw [ht] at h0; cases h0⟩
    rw [lg_set (by simpa using hn)] at hj
    by_cases hj1 : j = n + 1
    · rw [if_pos hj1] at hj; cases hj
    · rw [if_neg hj1, lg_set hn1] at hj
      by_cases hj2 : j = n
      · rw [if_pos hj2] at hj
        cases hj
        rw [hj2]
        exact h9.2.2 _ List.mem_cons_self
      · rw [if_neg hj2] at hj
        refine h9.2.2 (j, w) (List.mem_cons_of_mem _ (List.mem_filter.mpr ⟨prs_mem.mpr hj, ?_⟩))
        simp only [hj2, hj1, beq_iff_eq, Bool.not_eq_true', Bool.and_eq_true, Bool.not_eq_eq_eq_not, Bool.not_true]
        refine ⟨by simp [hj2], by simp [hj1], ?_⟩
        cases n with
        | zero => simp
        | succ n =>
          by_cases hk1 : j = n
          · subst hk1
            have h7 : lcat ls (j + 1) = false := by cases hh : lcat ls (j + 1) with
              | false => rfl
              | true => exact absurd hh h8
            simp only [lcat, hj] at h7
            cases w <;> first | (simp [Value.category]; done) | cases h7
          · simp [hk1]
theorem k_lstore_n (F : Fr S0 p R s m args meth c i d n0 k0) {n : Nat} {q4 : Fin 4} {x : Int64} {ls' : Lo} (hd : decode (cT i) pc = .ok (.lstore_n q4, 1)) (hq4 : (q4 : Nat) = n) (ht : twoT i = true) (hn : n + 1 < ls.length) (hs : lst (twoT i) ls n (.long x) = some ls') (k : K_ l S0 D dA p e R s m args below meth c Q i n0 k0 (pc + 1) (ls'.set (n + 1) none) st σ) : K_ l S0 D dA p e R s m args below meth c Q i n0 k0 pc ls (.long x :: st) σ := by
  intro H locs lsA h1 h2 h3 h4 h5
  refine lv_lstore_n F.1 F.2.1 hd hq4 h3.has (h3.1 ▸ hn) rfl (fun lsA' h9 => k H locs lsA' h1 h2 ?_ h4 h5)
  have hn1 := lst_lt hs
  unfold lst at hs
  rw [if_pos hn1] at hs
  split at hs
  · cases hs
  · rename_i h8
    cases hs
    rw [ht, Bool.true_and] at h8
    refine ⟨by simp [h3.1], h9.1, h9.2.1, fun j w hj => ?_, fun h0 => by rw [ht] at h0; cases h0⟩
    rw [lg_set (by simpa using hn)] at hj
    by_cases hj1 : j = n + 1
    · rw [if_pos hj1] at hj; cases hj
    · rw [if_neg hj1, lg_set hn1] at hj
      by_cases hj2 : j = n
      · rw [if_pos hj2] at hj
        cases hj
        rw [hj2]
        exact h9.2.2 _ List.mem_cons_self
      · rw [if_neg hj2] at hj
        refine h9.2.2 (j, w) (List.mem_cons_of_mem _ (List.mem_filter.mpr ⟨prs_mem.mpr hj, ?_⟩))
        simp only [hj2, hj1, beq_iff_eq, Bool.not_eq_true', Bool.and_eq_true, Bool.not_eq_eq_eq_not, Bool.not_true]
        refine ⟨by simp [hj2], by simp [hj1], ?_⟩
        cases n with
        | zero => simp
        | succ n =>
          by_cases hk1 : j = n
          · subst hk1
            have h7 : lcat ls (j + 1) = false := by cases hh : lcat ls (j + 1) with
              | false => rfl
              | true => exact absurd hh h8
            simp only [lcat, hj] at h7
            cases w <;> first | (simp [Value.category]; done) | cases h7
          · simp [hk1]
/-- what the tables say of clone -/
def ClOK (k x : Nat) : Prop := Cond.methodLink (ownT k) x ⟨"[B", "clone", "()Ljava/lang/Object;"⟩ ∈ TBg ∧ Cond.sameMethod "[B" "java/lang/Object" "clone" "()Ljava/lang/Object;" ∈ TBg ∧ Cond.native ⟨"java/lang/Object", "clone", "()Ljava/lang/Object;"⟩ ∈ TBg ∧ Cond.instanceMethod ⟨"java/lang/Object", "clone", "()Ljava/lang/Object;"⟩ ∈ TBg ∧ Cond.selects "[B" ⟨"[B", "clone", "()Ljava/lang/Object;"⟩ ⟨"java/lang/Object", "clone", "()Ljava/lang/Object;"⟩ ∈ TBg
theorem k_clone (F : Fr S0 p R s m args meth c i d n0 k0) (L0 : va_Nw (.castable "[B" "java/lang/Cloneable") S0) {x a : Nat} {σ' : St} (hC : ClOK (clsT i) x) (hd : decode (cT i) pc = .ok (.invokevirtual x, 3)) (hcs : csum st ≤ 8) (hw : aK σ a = some σ') (hr1 : σ'.2.1 ≤ n0 + R.cells) (hr2 : σ'.2.2 ≤ k0 + R.slots) (k : K_ l S0 D dA p e R s m args below meth c Q i n0 k0 (pc + 3) ls (.ref σ.2.1 :: st) σ') : K_ l S0 D dA p e R s m args below meth c Q i n0 k0 pc ls (.ref a :: st) σ := by
  intro H locs lsA h1 h2 h3 h4 h5
  unfold aK at hw
  split at hw
  case h_2 => cases hw
  rename_i li ha
  cases hw
  obtain ⟨hB, g1, g2, g3, g4⟩ := h1.2.2.2 a _ ha
  have hz : H.size = σ.2.1 := h1.1
  have hr1' : σ.2.1 + 1 ≤ n0 + R.cells := hr1
  have hr2' : σ.2.2 + li.length ≤ k0 + R.slots := hr2
  have hW := F.2.2.2.2.2.2.2.2.2.1
  have hnm : s.vm.findClass "[B" = some (dA .byte) := va_nm_byte (va_RA.moved F.alike g4)
  obtain ⟨c0, t0', f1, f2, f3⟩ := Cond.castable_spec (va_Nw.use (A := args) rfl (va_Nw.warmC hW L0))
  cases hnm.symm.trans f1
  have hiso : s.isArrayOf (arrL (dA .byte) li) .byte := State.isArrayOf_alike F.alike (g3 _ _)
  obtain ⟨-, kS, hkS, compS, hkindS⟩ := hiso
  have q1 := F.2.2.2.2.2.2.2.2.2.2.1
  have q2 := F.2.2.2.2.2.2.2.2.2.2.2.1
  have q3 : (st.map fun v => v.category).sum ≤ 8 := by rw [csum_eq]; exact hcs
  intro T hT X
  obtain ⟨-, kA, hkA, comp, hkind⟩ := State.isArrayOf_alike X.warmed.alike (State.isArrayOf_alike F.alike (g3 li.length (fun j => li.getD j .null)))
  obtain ⟨vm', X', st9⟩ := X.cloneArray F.1 F.own (F.hts _ hC.1) (F.hts _ hC.2.1) (F.hts _ hC.2.2.1) (F.hts _ hC.2.2.2.1) (F.hts _ hC.2.2.2.2) (a := a) (cell := arrL (dA .byte) li) (by rw [hT]; exact g1) (fun k h => by cases h) (fun h => by cases h) hnm f2 f3
    (fun i v hv => by
      have hk' : T.vm.classes[dA .byte]? = some kA := hkA
      have hm : v ∈ li := by
        rw [← arrL_list (dA .byte) li]
        exact List.mem_of_getElem? (by rw [Array.getElem?_toList]; exact hv)
      have hk'' : T.vm.classes[(arrL (dA .byte) li).cls]? = some kA := hkA
      simpa [State.fitsSlot, State.slotType?, hk'', hkind] using g2 v hm)
    (g := F0 m pc lsA (.ref a :: st)) rfl (by rw [F.2.2.1]; exact h3.2.1) rfl (by rw [F.2.1]; exact hd) (by omega) (by show 2 * 0 + _ + 14 ≤ _; omega) (by omega) (by rw [arrL_size]; omega) (hloader := Vm.clonesLoader_of_array hkS hkindS)
  have ec : ({ cls := (arrL (dA .byte) li).cls, slots := (arrL (dA .byte) li).slots } : Cell) = arrL (dA .byte) li := rfl
  rw [ec, arrL_size] at X'
  have K := k (H.push (arrL (dA .byte) li)) locs lsA (h1.push (c := .inl (.byte, true, li)) (k := li.length) (by simp) (fun q hq => by simp [Array.getElem?_push, Nat.ne_of_lt hq]) ⟨by rw [hz]; exact h1.2.1, by simp, g2, g3, g4⟩) h2 h3 (Nat.le_succ_of_le h4) (Nat.le_trans h5 (Nat.le_add_right _ _))
  have e1 : (wall σ (.inl (.byte, true, li)) li.length).2.1 - n0 = σ.2.1 - n0 + 1 := by show σ.2.1 + 1 - n0 = _; omega
  have e2 : (wall σ (.inl (.byte, true, li)) li.length).2.2 - k0 = σ.2.2 - k0 + li.length := by show σ.2.2 + _ - k0 = _; omega
  rw [e1, e2] at K
  obtain ⟨t9, a1, b1⟩ := K ((T.setVm vm').pushCell (arrL (dA .byte) li)) (by rw [← hT]; rfl) X'
  refine ⟨t9, st9 t9 ?_, b1⟩
  rw [ec, hT, hz]
  exact a1
end
