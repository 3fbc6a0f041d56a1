/-! CHECKS of the tables, part 6: handlers; all together (printed by wip/whole/gen_chk5.py) -/
def plHc (i : Nat) : Nat := (cond (Nat.ble 22 i) (cond (Nat.ble 30 i) (cond (Nat.ble 112 i) (cond (Nat.beq i 112) (4131) 0) (cond (Nat.beq i 30) (4110) 0)) (cond (Nat.beq i 22) (4073) 0)) (cond (Nat.ble 16 i) (cond (Nat.beq i 16) (3091) 0) (cond (Nat.beq i 14) (3090) 0)))
def hstB (i h : Nat) : Bool := match hst i h with
  | some (_, n) => Nat.blt n (entT i)
  | none => false
theorem hstB_ok {i h : Nat} (hb : hstB i h = true) : hstOK i h := by
  unfold hstB at hb
  split at hb
  · rename_i pc' n he
    exact ⟨pc', n, he, Nat.le_of_ble_eq_true hb⟩
  · cases hb
def exNames : List String := ["java/lang/IllegalArgumentException", "java/lang/IndexOutOfBoundsException", "java/util/NoSuchElementException", "java/lang/IllegalStateException", "java/lang/UnsupportedOperationException"]
theorem exNames_ok {E : String} (h : E ∈ exNames) : ∃ x, (x, E) ∈ exL ∧ x ≠ 274 := by
  simp only [exNames, List.mem_cons, List.not_mem_nil, or_false] at h
  rcases h with rfl | rfl | rfl | rfl | rfl
  · exact ⟨97, by decide⟩
  · exact ⟨120, by decide⟩
  · exact ⟨210, by decide⟩
  · exact ⟨234, by decide⟩
  · exact ⟨349, by decide⟩
def HMB (i : Nat) : List (Nat × Nat × Nat × Nat) → List (Nat × Nat × Nat × String) → Bool
  | [], [] => true
  | a :: r, b :: t => (Nat.beq a.1 b.1 && (Nat.beq a.2.1 b.2.1 && (Nat.beq a.2.2.1 b.2.2.1 && (Nat.blt 0 a.2.2.2 && (atB (plHc a.2.2.2) (Cond.classLink (ownT (clsT i)) a.2.2.2 b.2.2.2) && (decide (b.2.2.2 ∈ exNames) && hstB i b.2.2.1)))))) && HMB i r t
  | _, _ => false
theorem HMB_ok {i : Nat} : ∀ {L : List (Nat × Nat × Nat × Nat)} {R : List (Nat × Nat × Nat × String)}, HMB i L R = true → HM i L R
  | [], [], _ => trivial
  | [], _ :: _, h => by cases h
  | _ :: _, [], h => by cases h
  | a :: r, b :: t, h => by
    unfold HMB at h
    simp only [Bool.and_eq_true] at h
    obtain ⟨⟨h1, h2, h3, h4, h5, h6, h7⟩, h8⟩ := h
    refine ⟨⟨Nat.eq_of_beq_eq_true h1, Nat.eq_of_beq_eq_true h2, Nat.eq_of_beq_eq_true h3, ?_, atB_ok h5, exNames_ok (of_decide_eq_true h6), hstB_ok h7⟩, HMB_ok h8⟩
    have : 0 < a.2.2.2 := Nat.le_of_ble_eq_true h4
    omega
theorem HM_all : allB 331 (fun i => HMB i (hhT i) (hndT i)) = true := by decide +kernel
theorem cond_lt {b : Bool} {x y : Nat} (hx : x < 100) (hy : y < 100) : cond b x y < 100 := by cases b <;> assumption
theorem tab_cls : ∀ i, clsT i < 100 := by
  intro i
  unfold clsT
  repeat' (first | exact (by decide : (0 : Nat) < 100) | exact (by decide : (1 : Nat) < 100) | apply cond_lt | decide)
theorem cond_bb {P : Prop} {b x y : Bool} (h : cond b x y = true) (hx : b = true → x = true → P) (hy : y = true → P) : P := by
  cases b
  · exact hy h
  · exact hx rfl h
theorem tab_ini : ∀ j, iniT j = true → (yT j).name = "<init>" := by
  intro j
  unfold iniT
  repeat' (first | (intro h; cases h; done) | (intro h0 h1; obtain rfl := Nat.eq_of_beq_eq_true h0; first | rfl | decide) | (intro h; refine cond_bb h ?_ ?_) | (intro _))
theorem tabOK : TabOK := by
  refine ⟨fun i pc ins len h => ?_, tab_C, tab_ini, tab_cls, tab_F, tab_K, tab_N, ?_, tab_na, tab_A, ?_, ?_, ?_, tab_T, ?_, tab_Jc, tab_Ck, tab_F6⟩
  · obtain ⟨a, b, -⟩ := chkD_ok h
    exact ⟨a, b⟩
  · intro i pc x len E h h1 h2
    obtain ⟨a, -, c⟩ := chkD_ok h
    unfold chkI at c
    simp only [h1, h2, Bool.and_eq_true] at c
    obtain ⟨c1, c2⟩ := c
    refine ⟨of_decide_eq_true c1, ?_⟩
    unfold thrB at c2
    simp only [Bool.and_eq_true] at c2
    obtain ⟨d1, d2, d3, d4⟩ := c2
    refine ⟨Nat.eq_of_beq_eq_true d1, hh_nil d2, ?_⟩
    split at d4
    · rename_i sx hs
      simp only [Bool.and_eq_true] at d4
      exact ⟨sx, of_decide_eq_true d4.1, Or.inl ⟨of_decide_eq_true d3, hs, of_decide_eq_true d4.2.1, of_decide_eq_true d4.2.2⟩⟩
    · rename_i sx hs
      simp only [Bool.and_eq_true] at d4
      exact ⟨sx, of_decide_eq_true d4.1, Or.inr ⟨of_decide_eq_true d3, hs, of_decide_eq_true d4.2.1, of_decide_eq_true d4.2.2⟩⟩
    · cases d4
  · intro i pc x len row h hr
    obtain ⟨-, -, c⟩ := chkD_ok h
    unfold chkI at c
    simp only [hr, Bool.or_eq_true] at c
    obtain ⟨kind, j, n, ci⟩ := row
    obtain ⟨-, hM⟩ := chkM_ok hr
    rcases c with c | c <;> (have hk := Nat.eq_of_beq_eq_true c; simp only at hk; subst hk) <;> rcases hM with ⟨h, h9⟩ | ⟨h, h9⟩ | ⟨h, h9⟩ | ⟨h, h9⟩ | ⟨h, h9⟩ | ⟨h, h9⟩ | ⟨h, h9⟩ | ⟨h, h9⟩ | ⟨h, h9⟩ <;> first | (cases h; done) | skip
    · exact Or.inl ⟨rfl, h9⟩
    · exact Or.inr ⟨rfl, h9⟩
  · intro i pc x len row h hr
    obtain ⟨-, -, c⟩ := chkD_ok h
    unfold chkI at c
    simp only [hr, Bool.or_eq_true] at c
    obtain ⟨kind, j, n, ci⟩ := row
    obtain ⟨-, hM⟩ := chkM_ok hr
    rcases c with c | c | c | c <;> (have hk := Nat.eq_of_beq_eq_true c; simp only at hk; subst hk) <;> rcases hM with ⟨h, h9⟩ | ⟨h, h9⟩ | ⟨h, h9⟩ | ⟨h, h9⟩ | ⟨h, h9⟩ | ⟨h, h9⟩ | ⟨h, h9⟩ | ⟨h, h9⟩ | ⟨h, h9⟩ <;> first | (cases h; done) | skip
    · exact Or.inl ⟨rfl, h9⟩
    · exact Or.inr (Or.inl ⟨rfl, h9⟩)
    · exact Or.inr (Or.inr (Or.inl ⟨rfl, h9⟩))
    · exact Or.inr (Or.inr (Or.inr ⟨rfl, h9⟩))
  · intro i pc x len row h hr
    obtain ⟨-, -, c⟩ := chkD_ok h
    unfold chkI at c
    simp only [hr, Bool.or_eq_true] at c
    obtain ⟨kind, j, n, ci⟩ := row
    obtain ⟨-, hM⟩ := chkM_ok hr
    rcases c with c | c | c <;> (have hk := Nat.eq_of_beq_eq_true c; simp only at hk; subst hk) <;> rcases hM with ⟨h, h9⟩ | ⟨h, h9⟩ | ⟨h, h9⟩ | ⟨h, h9⟩ | ⟨h, h9⟩ | ⟨h, h9⟩ | ⟨h, h9⟩ | ⟨h, h9⟩ | ⟨h, h9⟩ <;> first | (cases h; done) | skip
    · exact Or.inl ⟨rfl, h9⟩
    · exact Or.inr (Or.inl ⟨rfl, h9⟩)
    · exact Or.inr (Or.inr ⟨rfl, h9⟩)
  · intro i pc n len h
    obtain ⟨-, -, c⟩ := chkD_ok h
    cases c
theorem tabOK2 : TabOK2 := by
  refine ⟨fun k x row hr h4 => ?_, fun j h0 h1 => ?_, fun i hi => ?_, fun i h => ?_⟩
  · obtain ⟨kind, j, n, ci⟩ := row
    exact (chkM_ok hr).1 h4
  · obtain ⟨-, -, -, -, a, b, c⟩ := chkJ_ok h0 h1
    exact ⟨a, b, c⟩
  · exact HMB_ok (allB_ok HM_all i hi)
  · have := Nat.eq_of_beq_eq_true h
    subst this
    rfl
