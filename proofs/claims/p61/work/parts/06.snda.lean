/-! SOUNDNESS, part 10: a run of a method. -/
theorem hfind_ok {i pc : Nat} {E : String} {hp : Nat} : ∀ {hh : List (Nat × Nat × Nat × Nat)} {L : List (Nat × Nat × Nat × String)}, HM i hh L → hfind pc E L = some hp →
    ∃ (pre : List ExceptionTableEntry) (x : ExceptionTableEntry) (suf : List ExceptionTableEntry), tableOf hh = pre ++ x :: suf ∧ (∀ z ∈ pre, covers z pc = false ∨ (z.catchType ≠ 0 ∧ ∃ nm : String, Cond.classLink (ownT (clsT i)) z.catchType nm ∈ TBg ∧ E ≠ nm ∧ ∃ y, (y, nm) ∈ exL ∧ y ≠ 274)) ∧
      covers x pc = true ∧ x.catchType ≠ 0 ∧ Cond.classLink (ownT (clsT i)) x.catchType E ∈ TBg ∧ x.handlerPc = hp ∧ hstOK i hp
  | [], [], _, h => by cases h
  | [], _ :: _, hM, _ => hM.elim
  | _ :: _, [], hM, _ => hM.elim
  | ⟨a1, a2, a3, a4⟩ :: r, ⟨b1, b2, b3, b4⟩ :: t, hM, h => by
    obtain ⟨⟨e1, e2, e3, e4, e5, e6, e7⟩, hM'⟩ := hM
    simp only at e1 e2 e3 e4 e5 e6 e7
    subst e1 e2 e3
    unfold hfind at h
    simp only at h
    split at h
    · rename_i hc
      obtain ⟨c1, c2, c3⟩ := hc
      cases h
      subst c3
      exact ⟨[], _, tableOf r, rfl, (fun z hz => nomatch hz), by simp [covers, c1, c2], e4, e5, rfl, e7⟩
    · rename_i hc
      obtain ⟨pre, x, suf, f1, f2, f3⟩ := hfind_ok hM' h
      refine ⟨⟨a1, a2, a3, a4⟩ :: pre, x, suf, ?_, ?_, f3⟩
      · show (⟨a1, a2, a3, a4⟩ : ExceptionTableEntry) :: tableOf r = _
        rw [f1]; rfl
      · intro z hz
        rcases List.mem_cons.mp hz with rfl | hz
        · by_cases c1 : a1 ≤ pc ∧ pc < a2
          · exact Or.inr ⟨e4, b4, e5, fun h9 => hc ⟨c1.1, c1.2, h9.symm⟩, e6⟩
          · refine Or.inl ?_
            show (decide (a1 ≤ pc) && decide (pc < a2)) = false
            by_cases g1 : a1 ≤ pc
            · have : ¬ pc < a2 := fun h9 => c1 ⟨g1, h9⟩
              simp [this]
            · simp [g1]
        · exact f2 z hz
theorem hfind_no {i pc : Nat} {E : String} : ∀ {hh : List (Nat × Nat × Nat × Nat)} {L : List (Nat × Nat × Nat × String)}, HM i hh L → hfind pc E L = none →
    ∀ z ∈ tableOf hh, covers z pc = false ∨ (z.catchType ≠ 0 ∧ ∃ nm : String, Cond.classLink (ownT (clsT i)) z.catchType nm ∈ TBg ∧ E ≠ nm ∧ ∃ y, (y, nm) ∈ exL ∧ y ≠ 274)
  | [], [], _, _ => fun z hz => nomatch hz
  | [], _ :: _, hM, _ => hM.elim
  | _ :: _, [], hM, _ => hM.elim
  | ⟨a1, a2, a3, a4⟩ :: r, ⟨b1, b2, b3, b4⟩ :: t, hM, h => by
    obtain ⟨⟨e1, e2, e3, e4, e5, e6, e7⟩, hM'⟩ := hM
    simp only at e1 e2 e3 e4 e5 e6 e7
    subst e1 e2 e3
    unfold hfind at h
    simp only at h
    split at h
    · cases h
    · rename_i hc
      intro z hz
      have hz' : z ∈ (⟨a1, a2, a3, a4⟩ : ExceptionTableEntry) :: tableOf r := hz
      rcases List.mem_cons.mp hz' with rfl | hz
      · by_cases c1 : a1 ≤ pc ∧ pc < a2
        · exact Or.inr ⟨e4, b4, e5, fun h9 => hc ⟨c1.1, c1.2, h9.symm⟩, e6⟩
        · refine Or.inl ?_
          show (decide (a1 ≤ pc) && decide (pc < a2)) = false
          by_cases g1 : a1 ≤ pc
          · have : ¬ pc < a2 := fun h9 => c1 ⟨g1, h9⟩
            simp [this]
          · simp [g1]
      · exact hfind_no hM' h z hz
theorem pushR_ok {ty : Option FieldType} {nul : Bool} {v : Option Value} {r st' : List Value} (h : pushR ty nul v r = some st') : st' = v.toList ++ r := by
  unfold pushR at h
  split at h <;> first | (cases h; rfl) | (split at h <;> first | (cases h; rfl) | cases h) | cases h
theorem LR.st0 {i n : Nat} {v : Value} {ls : Lo} {lsA lsA' : Array Slot} (h : LR i ls lsA) (ht : twoT i = false) (hn : n < ls.length)
    (h2 : lv_has lsA' (entT i) ((n, v) :: (prs ls).filter (fun q => !(q.1 == n) && !(q.1 + 1 == n && q.2.category == 2)))) : LR i (ls.set n none) lsA' := by
  refine ⟨by rw [List.length_set]; exact h.1, h2.1, h2.2.1, fun k w hk => ?_, fun h0 k w hk => ?_⟩
  · rw [lg_set hn] at hk
    by_cases hkn : k = n
    · rw [if_pos hkn] at hk; cases hk
    · rw [if_neg hkn] at hk
      refine h2.2.2 (k, w) (List.mem_cons_of_mem _ (List.mem_filter.mpr ⟨prs_mem.mpr hk, ?_⟩))
      have := h.2.2.2.2 ht k w hk
      simp [hkn, this]
  · rw [lg_set hn] at hk
    by_cases hkn : k = n
    · rw [if_pos hkn] at hk; cases hk
    · rw [if_neg hkn] at hk
      exact h.2.2.2.2 h0 k w hk
theorem lg_sl1 : ∀ {as : List Value}, cat1s as = true → lg_sl as = as.map Slot.val ∧ ∀ v ∈ as, v.category = 1
  | [], _ => ⟨rfl, fun v hv => nomatch hv⟩
  | v :: r, h => by
    have hr : cat1s r = true ∧ v.category = 1 := by
      cases v <;> first | (cases h; done) | exact ⟨h, rfl⟩
    obtain ⟨h1, h2⟩ := lg_sl1 hr.1
    refine ⟨?_, fun w hw => ?_⟩
    · have : lg_sl (v :: r) = (if v.category = 2 then [Slot.val v, .second] else [Slot.val v]) ++ lg_sl r := rfl
      rw [this, h1, hr.2]
      rfl
    · rcases List.mem_cons.mp hw with rfl | hw
      · exact hr.2
      · exact h2 w hw
theorem LR_entry {j : Nat} {as : List Value} (hle : as.length ≤ entT j) (hc : cat1s as = true) : LR j (entry (entT j) as) ((lg_sl as ++ List.replicate (entT j - (lg_sl as).length) Slot.unset).toArray) := by
  obtain ⟨h1, h2⟩ := lg_sl1 hc
  have hlen : (lg_sl as).length = as.length := by rw [h1]; simp
  obtain ⟨e1, e2, -⟩ := lv_entry as (n := entT j) (by omega)
  have hget : ∀ (k : Nat) (v : Value), lg (entry (entT j) as) k = some v → as[k]? = some v := by
    intro k v hk
    unfold lg entry at hk
    by_cases hkl : k < as.length
    · rw [List.getElem?_append_left (by simpa using hkl)] at hk
      simpa [hkl] using hk
    · rw [List.getElem?_append_right (by simp; omega)] at hk
      split at hk
      · rename_i o ho
        have := List.mem_of_getElem? ho
        rw [(List.mem_replicate.mp this).2] at hk
        cases hk
      · cases hk
  refine ⟨by simp [entry]; omega, e1, e2, fun k v hk => ?_, fun _ k v hk => h2 v (List.mem_of_getElem? (hget k v hk))⟩
  have hk2 := hget k v hk
  have hkl := (List.getElem?_eq_some_iff.mp hk2).1
  rw [List.getElem?_toArray, List.getElem?_append_left (by omega), h1, List.getElem?_map, hk2]
  rfl
