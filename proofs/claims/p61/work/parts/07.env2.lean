-- ===== end of PART A; then your names; then what follows =====
/-! THE CLAIM OUT OF ONE WALK OF THE LAW'S BODY. Your part is whole_start (and what it stands on); all else here is the same for every law, but numbers. -/
def R_law : String := "CloudInterviewsLaw"
def lw_P (b : Addr) (xs : List Int32) (args : Array Value) (s : State) : Prop := args = #[.ref b] ∧ s.IntsAt b xs ∧ xs.length ≤ 260 ∧ (Jvm.Cond.and given_1 narrow_1).before args s = true
/-- what a walk over the start with the record d0 says of its end, said of the start itself -/
theorem lw_closed {s t : State} {o : Outcome} {d0 : Drawn} {L : List Loc} {k n : Nat} (hd0 : s.drawn.sameBut d0 lw_cs) (hv : ∃ v, o = .returned v) (hW : (s.setDrawn d0).WarmedH t.vm) (hs : (s.setDrawn d0).sameButNew ({ t with vm := s.vm } : State) L k n) : State.butDraws s t lw_cs (fun t1 => Framed s o t1 L k n) := by
  have h2 : t.drawn = d0 := congrArg State.drawn hs.1
  refine ⟨⟨hv, hW, State.sameButNew.setDrawn hs s.drawn⟩, ?_, by decide⟩
  rw [h2]
  exact hd0
def lw_Q (_ : Array Value) (s : State) (o : Outcome) (t : State) : Prop := o = .returned (some (.int 1)) ∧ State.butDraws s t lw_cs (fun t1 => Framed s o t1 [] 600312 7289666)
def lw_Z (below : List Frame) (a : Array Value) (s : State) : State → Prop := fun t => ∃ o, t.status = .running ∧ Ended t below o ∧ lw_Q a s o t
/-- the law's own end, with 1 on the stack, nothing written that was there before, its room as the claim has it; d0: the record of draws at this point (at the entry s.drawn: begin with 'refine W.base ?_' and 'have hd0 := Drawn.sameBut.refl s.drawn lw_cs') -/
theorem lw_ret {p : Program} {l : Launch} {e : Env} {s : State} {m : MethodId} {below : List Frame} {meth : Method} {c : Code} {b : Nat} {d0 : Drawn} (hd0 : s.drawn.sameBut d0 lw_cs) (hx : p.tables.exec = Jvm.exec) (hb : c.code = code) (hr : meth.sig.returnType = ret) (hlocks : meth.locks = false) {pc : Nat} {H : Heap} {ls : Array Slot} (hdg : decode code pc = .ok (.ireturn, 1)) : W p l e room_1 (s.setDrawn d0) m #[Value.ref b] below meth c H [] 600312 7289666 (lw_Z below #[Value.ref b] s) (F0 m pc ls [.int 1]) := by
  intro T hT X
  obtain ⟨fs, hret, hrun, hended, hW, hframe⟩ := X.leave (v := some (.int 1)) (hlocks := hlocks) (fun h => by rw [hr] at h; cases h)
  have hmeth' : T.vm.method? m = some meth := X.method'
  refine ⟨T.setFrames fs, ?_, .returned (some (.int 1)), hrun, hended, rfl, lw_closed hd0 ⟨_, rfl⟩ hW hframe⟩
  jvm_step X.here [X.here.top, hx, hb, hdg, hmeth', hr, ret, narrow_b1]
  (try refine ⟨rfl, ?_⟩); (try refine ⟨rfl, ?_⟩)
  first | (intro acts; rw [hret _ acts rfl rfl rfl]) | rw [hret _ _ rfl rfl rfl]
  exact Steps.refl _
/-- what holds at the law's entry: the machine, the code, the tables' words (any of lw_tbl by 'hts w (by decide +kernel)'), the script of L ints xs at the cell b, what the Statement gives of the start (any of its parts by flat_of_before) -/
def lw_At (p : Program) (s : State) (m : MethodId) (meth : Method) (c : Code) (b L : Nat) (xs : Nat → Int32) : Prop :=
  p.tables.exec = Jvm.exec ∧ c.code = code ∧ meth.sig.returnType = ret ∧ c.maxLocals = 2 ∧ s.vm.findClass R_law = some m.cls ∧ (∀ w ∈ lw_tbl, w.before #[Value.ref b] s = true) ∧ va_X b L xs s s.heap ∧ b < s.heap.size ∧ meth.locks = false ∧ (Jvm.Cond.and given_1 narrow_1).before #[Value.ref b] s = true
/-! THE ENVIRONMENT at the law's entry, part 2 -/
def FL (k : Nat) : List Cond := cond (Nat.ble 3 k) (cond (Nat.beq k 3) (flatC narrow_1_3) (flatC narrow_1_4)) (cond (Nat.beq k 1) (flatC narrow_1_1) (flatC narrow_1_2))
def NarAt (S0 : State) (args : Array Value) : Prop := (Jvm.Cond.and given_1 narrow_1).before args S0 = true
theorem FL_at {S0 : State} {args : Array Value} (h : NarAt S0 args) {k : Nat} {w : Cond} (hw : w ∈ FL k) : w.before args S0 = true := by
  have h1 := flat_of_before _ h
  have e : ∀ {b : Bool} {x y : List Cond}, w ∈ cond b x y → w ∈ x ∨ w ∈ y := by
    intro b x y h
    cases b
    · exact Or.inr h
    · exact Or.inl h
  refine h1 w ?_
  have e2 : flatC (Jvm.Cond.and given_1 narrow_1) = flatC given_1 ++ ((flatC narrow_1_1 ++ flatC narrow_1_2) ++ (flatC narrow_1_3 ++ flatC narrow_1_4)) := rfl
  rw [e2]
  simp only [List.mem_append]
  unfold FL at hw
  rcases e hw with h | h
  · rcases e h with h | h <;> simp [h]
  · rcases e h with h | h <;> simp [h]
def flB (pl : Nat) (w : Cond) : Bool := decide ((FL (pl / 1000))[pl % 1000]? = some w)
theorem flB_ok {S0 : State} {args : Array Value} (h : NarAt S0 args) {pl : Nat} {w : Cond} (hb : flB pl w = true) : w.before args S0 = true := FL_at h (List.mem_of_getElem? (of_decide_eq_true hb))
def atT (pl : Nat) (w : Cond) : Bool := decide ((chkL (pl / 1000))[pl % 1000]? = some w) && Nat.blt 1 (pl / 1000)
theorem chkL_in2 {j : Nat} {w : Cond} (hj : 1 < j) (h : w ∈ chkL j) : w ∈ lw_tbl := by
  have e : ∀ {b : Bool} {x y : List Cond}, w ∈ cond b x y → w ∈ x ∨ w ∈ y := by
    intro b x y h
    cases b
    · exact Or.inr h
    · exact Or.inl h
  have e0 : Nat.beq j 0 = false := by cases h9 : Nat.beq j 0 with
    | false => rfl
    | true => have := Nat.eq_of_beq_eq_true h9; omega
  have e1 : Nat.beq j 1 = false := by cases h9 : Nat.beq j 1 with
    | false => rfl
    | true => have := Nat.eq_of_beq_eq_true h9; omega
  unfold chkL at h
  rw [e0, e1] at h
  simp only [cond_false] at h
  simp only [lw_tbl, tables_1, List.mem_append]
  rcases e h with h | h
  · rcases e h with h | h
    · rcases e h with h | h
      · simp [h]
      · cases h
    · rcases e h with h | h <;> simp [h]
  · rcases e h with h | h
    · rcases e h with h | h
      · simp [h]
      · rcases e h with h | h <;> simp [h]
    · simp [h]
theorem atT_ok {pl : Nat} {w : Cond} (h : atT pl w = true) : w ∈ lw_tbl := by
  unfold atT at h
  rw [Bool.and_eq_true] at h
  exact chkL_in2 (Nat.le_of_ble_eq_true h.2) (List.mem_of_getElem? (of_decide_eq_true h.1))
theorem wordsAt {S0 : State} {args : Array Value} (hts : ∀ w ∈ lw_tbl, w.before args S0 = true) : WordsAt S0 args := by
  intro w hw
  rcases List.mem_append.mp hw with h | h
  · simp only [lw_xtra, List.mem_cons, List.not_mem_nil, or_false] at h
    rcases h with rfl | rfl | rfl | rfl
    · exact sel_private (by decide) (hts _ (atT_ok (pl := 2179) (w := .instantiable "java/lang/StringBuilder" 4) (by decide +kernel))) (hts _ (atT_ok (pl := 6147) (by decide +kernel))) (hts _ (atT_ok (pl := 6148) (by decide +kernel))) (hts _ (atT_ok (pl := 6178) (w := .selects "java/lang/StringBuilder" ⟨"java/lang/AbstractStringBuilder", "isLatin1", "()Z"⟩ ⟨"java/lang/AbstractStringBuilder", "isLatin1", "()Z"⟩) (by decide +kernel))) rfl
    · exact sel_private (by decide) (hts _ (atT_ok (pl := 2179) (w := .instantiable "java/lang/StringBuilder" 4) (by decide +kernel))) (hts _ (atT_ok (pl := 6151) (by decide +kernel))) (hts _ (atT_ok (pl := 6152) (by decide +kernel))) (hts _ (atT_ok (pl := 6178) (w := .selects "java/lang/StringBuilder" ⟨"java/lang/AbstractStringBuilder", "isLatin1", "()Z"⟩ ⟨"java/lang/AbstractStringBuilder", "isLatin1", "()Z"⟩) (by decide +kernel))) rfl
    · exact sel_private (by decide) (hts _ (atT_ok (pl := 2179) (w := .instantiable "java/lang/StringBuilder" 4) (by decide +kernel))) (hts _ (atT_ok (pl := 7001) (by decide +kernel))) (hts _ (atT_ok (pl := 7002) (by decide +kernel))) (hts _ (atT_ok (pl := 6178) (w := .selects "java/lang/StringBuilder" ⟨"java/lang/AbstractStringBuilder", "isLatin1", "()Z"⟩ ⟨"java/lang/AbstractStringBuilder", "isLatin1", "()Z"⟩) (by decide +kernel))) rfl
    · exact sel_private (by decide) (hts _ (atT_ok (pl := 2179) (w := .instantiable "java/lang/StringBuilder" 4) (by decide +kernel))) (hts _ (atT_ok (pl := 7005) (by decide +kernel))) (hts _ (atT_ok (pl := 7006) (by decide +kernel))) (hts _ (atT_ok (pl := 6178) (w := .selects "java/lang/StringBuilder" ⟨"java/lang/AbstractStringBuilder", "isLatin1", "()Z"⟩ ⟨"java/lang/AbstractStringBuilder", "isLatin1", "()Z"⟩) (by decide +kernel))) rfl
  · exact hts w h
def plNc (i : Nat) : Nat := (cond (Nat.ble 18 i) (cond (Nat.ble 26 i) (cond (Nat.ble 30 i) (cond (Nat.ble 32 i) (cond (Nat.ble 33 i) (cond (Nat.beq i 33) (2013) 0) (cond (Nat.beq i 32) (2030) 0)) (cond (Nat.ble 31 i) (cond (Nat.beq i 31) (2047) 0) (cond (Nat.beq i 30) (1396) 0))) (cond (Nat.ble 27 i) (cond (Nat.ble 29 i) (cond (Nat.beq i 29) (2064) 0) (cond (Nat.beq i 27) (2015) 0)) (cond (Nat.beq i 26) (2032) 0))) (cond (Nat.ble 23 i) (cond (Nat.ble 24 i) (cond (Nat.ble 25 i) (cond (Nat.beq i 25) (2048) 0) (cond (Nat.beq i 24) (1398) 0)) (cond (Nat.beq i 23) (2060) 0)) (cond (Nat.ble 19 i) (cond (Nat.ble 20 i) (cond (Nat.beq i 20) (2028) 0) (cond (Nat.beq i 19) (2045) 0)) (cond (Nat.beq i 18) (1393) 0)))) (cond (Nat.ble 9 i) (cond (Nat.ble 13 i) (cond (Nat.ble 15 i) (cond (Nat.ble 17 i) (cond (Nat.beq i 17) (2061) 0) (cond (Nat.beq i 15) (2011) 0)) (cond (Nat.beq i 13) (2046) 0)) (cond (Nat.ble 11 i) (cond (Nat.ble 12 i) (cond (Nat.beq i 12) (1394) 0) (cond (Nat.beq i 11) (2062) 0)) (cond (Nat.beq i 9) (2012) 0))) (cond (Nat.ble 5 i) (cond (Nat.ble 6 i) (cond (Nat.ble 8 i) (cond (Nat.beq i 8) (2029) 0) (cond (Nat.beq i 6) (1395) 0)) (cond (Nat.beq i 5) (2059) 0)) (cond (Nat.ble 2 i) (cond (Nat.ble 3 i) (cond (Nat.beq i 3) (2010) 0) (cond (Nat.beq i 2) (2027) 0)) (cond (Nat.beq i 1) (2044) 0)))))
def plEi (i : Nat) : Nat := (cond (Nat.ble 3 i) (cond (Nat.ble 4 i) (cond (Nat.ble 5 i) (cond (Nat.beq i 5) (4032) 0) (cond (Nat.beq i 4) (5134) 0)) (cond (Nat.beq i 3) (3218) 0)) (cond (Nat.ble 1 i) (cond (Nat.ble 2 i) (cond (Nat.beq i 2) (3236) 0) (cond (Nat.beq i 1) (4014) 0)) (cond (Nat.beq i 0) (3145) 0)))
def plEs (i : Nat) : Nat := (cond (Nat.ble 11 i) (cond (Nat.ble 17 i) (cond (Nat.ble 20 i) (cond (Nat.ble 21 i) (cond (Nat.ble 22 i) (cond (Nat.beq i 22) (2214) 0) (cond (Nat.beq i 21) (2146) 0)) (cond (Nat.beq i 20) (2111) 0)) (cond (Nat.ble 18 i) (cond (Nat.ble 19 i) (cond (Nat.beq i 19) (2075) 0) (cond (Nat.beq i 18) (2189) 0)) (cond (Nat.beq i 17) (3041) 0))) (cond (Nat.ble 14 i) (cond (Nat.ble 15 i) (cond (Nat.ble 16 i) (cond (Nat.beq i 16) (2254) 0) (cond (Nat.beq i 15) (4141) 0)) (cond (Nat.beq i 14) (4122) 0)) (cond (Nat.ble 12 i) (cond (Nat.ble 13 i) (cond (Nat.beq i 13) (4097) 0) (cond (Nat.beq i 12) (4069) 0)) (cond (Nat.beq i 11) (3339) 0)))) (cond (Nat.ble 5 i) (cond (Nat.ble 8 i) (cond (Nat.ble 9 i) (cond (Nat.ble 10 i) (cond (Nat.beq i 10) (3190) 0) (cond (Nat.beq i 9) (3069) 0)) (cond (Nat.beq i 8) (3149) 0)) (cond (Nat.ble 6 i) (cond (Nat.ble 7 i) (cond (Nat.beq i 7) (2284) 0) (cond (Nat.beq i 6) (2326) 0)) (cond (Nat.beq i 5) (2348) 0))) (cond (Nat.ble 2 i) (cond (Nat.ble 3 i) (cond (Nat.ble 4 i) (cond (Nat.beq i 4) (3118) 0) (cond (Nat.beq i 3) (3096) 0)) (cond (Nat.beq i 2) (3016) 0)) (cond (Nat.ble 1 i) (cond (Nat.beq i 1) (2387) 0) (cond (Nat.beq i 0) (3387) 0)))))
def plEt (i : Nat) : Nat := (cond (Nat.ble 11 i) (cond (Nat.ble 17 i) (cond (Nat.ble 20 i) (cond (Nat.ble 21 i) (cond (Nat.ble 22 i) (cond (Nat.beq i 22) (4040) 0) (cond (Nat.beq i 21) (4004) 0)) (cond (Nat.beq i 20) (3226) 0)) (cond (Nat.ble 18 i) (cond (Nat.ble 19 i) (cond (Nat.beq i 19) (3190) 0) (cond (Nat.beq i 18) (4022) 0)) (cond (Nat.beq i 17) (5128) 0))) (cond (Nat.ble 14 i) (cond (Nat.ble 15 i) (cond (Nat.ble 16 i) (cond (Nat.beq i 16) (4096) 0) (cond (Nat.beq i 15) (8130) 0)) (cond (Nat.beq i 14) (8118) 0)) (cond (Nat.ble 12 i) (cond (Nat.ble 13 i) (cond (Nat.beq i 13) (8096) 0) (cond (Nat.beq i 12) (8046) 0)) (cond (Nat.beq i 11) (7181) 0)))) (cond (Nat.ble 5 i) (cond (Nat.ble 8 i) (cond (Nat.ble 9 i) (cond (Nat.ble 10 i) (cond (Nat.beq i 10) (6029) 0) (cond (Nat.beq i 9) (5142) 0)) (cond (Nat.beq i 8) (6024) 0)) (cond (Nat.ble 6 i) (cond (Nat.ble 7 i) (cond (Nat.beq i 7) (4172) 0) (cond (Nat.beq i 6) (4198) 0)) (cond (Nat.beq i 5) (4215) 0))) (cond (Nat.ble 2 i) (cond (Nat.ble 3 i) (cond (Nat.ble 4 i) (cond (Nat.beq i 4) (6016) 0) (cond (Nat.beq i 3) (5189) 0)) (cond (Nat.beq i 2) (5086) 0)) (cond (Nat.ble 1 i) (cond (Nat.beq i 1) (5049) 0) (cond (Nat.beq i 0) (7223) 0)))))
def exTx (i : Nat) : String := (cond (Nat.ble 11 i) (cond (Nat.ble 17 i) (cond (Nat.ble 20 i) (cond (Nat.ble 21 i) (cond (Nat.ble 22 i) (cond (Nat.beq i 22) ("the applicant does not suit the post") "") (cond (Nat.beq i 21) ("there is no such applicant or reference") "")) (cond (Nat.beq i 20) ("the board does not allow it now") "")) (cond (Nat.ble 18 i) (cond (Nat.ble 19 i) (cond (Nat.beq i 19) ("an argument is not as it must be") "") (cond (Nat.beq i 18) ("there is no such post") "")) (cond (Nat.beq i 17) ("the applicant is waiting") ""))) (cond (Nat.ble 14 i) (cond (Nat.ble 15 i) (cond (Nat.ble 16 i) (cond (Nat.beq i 16) ("there is no such applicant") "") (cond (Nat.beq i 15) ("there is no change to undo") "")) (cond (Nat.beq i 14) ("a command fails") "")) (cond (Nat.ble 12 i) (cond (Nat.ble 13 i) (cond (Nat.beq i 13) ("the text is malformed") "") (cond (Nat.beq i 12) ("the input buffer is full") "")) (cond (Nat.beq i 11) ("there is no such character") "")))) (cond (Nat.ble 5 i) (cond (Nat.ble 8 i) (cond (Nat.ble 9 i) (cond (Nat.ble 10 i) (cond (Nat.beq i 10) ("there are no posts") "") (cond (Nat.beq i 9) ("there are no applicants") "")) (cond (Nat.beq i 8) ("the applicant will never be dismissed") "")) (cond (Nat.ble 6 i) (cond (Nat.ble 7 i) (cond (Nat.beq i 7) ("the number of days is not from 1 to 30") "") (cond (Nat.beq i 6) ("the post is filled") "")) (cond (Nat.beq i 5) ("no waiting applicant suits the post") ""))) (cond (Nat.ble 2 i) (cond (Nat.ble 3 i) (cond (Nat.ble 4 i) (cond (Nat.beq i 4) ("the applicant suits no post") "") (cond (Nat.beq i 3) ("the post is vacant") "")) (cond (Nat.beq i 2) ("there is no such rank") "")) (cond (Nat.ble 1 i) (cond (Nat.beq i 1) ("there is no such position") "") (cond (Nat.beq i 0) ("the limit is not from 0 to 50") "")))))
def plKi (i : Nat) : Nat := (cond (Nat.ble 4 i) (cond (Nat.ble 6 i) (cond (Nat.ble 7 i) (cond (Nat.beq i 7) (2179) 0) (cond (Nat.beq i 6) (4126) 0)) (cond (Nat.ble 5 i) (cond (Nat.beq i 5) (2037) 0) (cond (Nat.beq i 4) (2104) 0))) (cond (Nat.ble 2 i) (cond (Nat.ble 3 i) (cond (Nat.beq i 3) (2153) 0) (cond (Nat.beq i 2) (2212) 0)) (cond (Nat.ble 1 i) (cond (Nat.beq i 1) (2045) 0) (cond (Nat.beq i 0) (2051) 0))))
theorem chkNc : allB 6 (fun i => allB 6 fun j => Nat.beq i j || Nat.beq j 4 || flB (plNc (i * 6 + j)) (Cond.not (Cond.castable (exL.getD i (0, "")).2 (exL.getD j (0, "")).2))) = true := by decide +kernel
theorem chkEi : allB 6 (fun i => atN (plEi i) (Cond.instantiable (exL.getD i (0, "")).2 6)) = true := by decide +kernel
theorem chkEs : allB 23 (fun i => flB (plEs i) (Cond.exactly (Term.string "CloudInterviews" (exStr.getD i 0)) "java/lang/String") && atN (plEt i) (Cond.stringRef "CloudInterviews" (exStr.getD i 0) (exTx i))) = true := by decide +kernel
theorem chkKi : allB 8 (fun ci => match clT[ci]? with
  | some r => atN (plKi ci) (Cond.instantiable r.1 r.2.2)
  | none => false) = true := by decide +kernel
theorem nc_of {S0 : State} {args : Array Value} {a b : String} (h : (Cond.not (.castable a b)).before args S0 = true) : ∃ c t, S0.vm.findClass a = some c ∧ S0.vm.findClass b = some t ∧ S0.vm.assignable c t = false := by
  rcases ea : S0.vm.findClass a with _ | c
  · exact absurd h (by simp [Cond.before, Cond.holds, Cond.value, ea])
  · rcases eb : S0.vm.findClass b with _ | t
    · exact absurd h (by simp [Cond.before, Cond.holds, Cond.value, ea, eb])
    · have h1 : S0.vm.assignable c t = false := by simpa [Cond.before, Cond.holds, Cond.value, ea, eb] using h
      exact ⟨c, t, rfl, rfl, h1⟩
theorem ExEnv0 {l : Launch} (hflags : l.flags = flags0) {S0 : State} {args : Array Value} (hts : WordsAt S0 args) (hn : NarAt S0 args) : ExEnv l S0 := by
  refine ⟨?_, ?_, ?_, ?_, ?_, ?_⟩
  · unfold Launch.stackTraces
    rw [hflags]
    decide
  · exact vx_Zqof (hts _ (atN_ok (pl := 3171) (by decide +kernel))) (hts _ (atN_ok (pl := 2016) (by decide +kernel))) (flB_ok hn (pl := 1016) (by decide +kernel)) free_no
  · exact vx_Zqof (hts _ (atN_ok (pl := 3173) (by decide +kernel))) (hts _ (atN_ok (pl := 2016) (by decide +kernel))) (flB_ok hn (pl := 1017) (by decide +kernel)) free_no
  · intro q hq
    obtain ⟨i, hi⟩ := List.getElem?_of_mem hq
    have hlt : i < 6 := (List.getElem?_eq_some_iff.mp hi).1
    have h1 := hts _ (atN_ok (allB_ok chkEi i hlt))
    rw [List.getD_eq_getElem?_getD, hi] at h1
    obtain ⟨c, k, hc, -⟩ := Cond.instantiable_spec h1
    exact ⟨c, hc⟩
  · intro a ha b hb h274 hab
    obtain ⟨i, hi⟩ := List.getElem?_of_mem ha
    obtain ⟨j, hj⟩ := List.getElem?_of_mem hb
    have hi6 : i < 6 := (List.getElem?_eq_some_iff.mp hi).1
    have hj6 : j < 6 := (List.getElem?_eq_some_iff.mp hj).1
    have h1 := allB_ok (allB_ok chkNc i hi6) j hj6
    rw [Bool.or_eq_true, Bool.or_eq_true] at h1
    rcases h1 with (h1 | h1) | h1
    · have := Nat.eq_of_beq_eq_true h1
      subst this
      exact absurd (congrArg Prod.snd (Option.some.inj (hi.symm.trans hj))) hab
    · have := Nat.eq_of_beq_eq_true h1
      subst this
      cases hj
      exact absurd rfl h274
    · have h2 := flB_ok hn h1
      rw [List.getD_eq_getElem?_getD, hi, List.getD_eq_getElem?_getD, hj] at h2
      exact nc_of h2
  · intro x hx
    obtain ⟨i, hi⟩ := List.getElem?_of_mem hx
    have hlt : i < 23 := (List.getElem?_eq_some_iff.mp hi).1
    have h1 := allB_ok chkEs i hlt
    rw [Bool.and_eq_true] at h1
    have h2 := flB_ok hn h1.1
    have h3 := hts _ (atN_ok h1.2)
    rw [List.getD_eq_getElem?_getD, hi] at h2 h3
    obtain ⟨a, c, cell, k, q1, -⟩ := Cond.exactly_spec h2
    exact ⟨exTx i, a, vk_R.of h3 q1⟩
def dA0 (S0 : State) : FieldType → ClassId := fun t => (S0.vm.findClass ("[" ++ t.toString)).getD 0
theorem AO0 {S0 : State} {args : Array Value} (hts : WordsAt S0 args) : va_AO "CloudInterviews$Board" S0 := va_AO.of (hts _ (atN_ok (pl := 2151) (by decide +kernel)))
theorem ArrEnv0 {S0 : State} {args : Array Value} (T : TabOK) (hts : WordsAt S0 args) : ArrEnv S0 (dA0 S0) := by
  have hg : ∀ w ∈ TBg, w.before args S0 = true := fun w hw => hts w (List.mem_filter.mp hw).1
  obtain ⟨-, -, -, -, -, -, -, -, Ta, -⟩ := T
  have hp : ∀ ty : ArrayType, naT ty = true → ArrOfT S0 (dA0 S0 (Op.newarray.typeOf ty)) (Op.newarray.typeOf ty) ∧ va_RA S0 (dA0 S0 (Op.newarray.typeOf ty)) (Op.newarray.typeOf ty) := by
    intro ty hty
    obtain ⟨c, k, comp, h1, h2, h3⟩ := Cond.arrayClass_spec (hg _ (Ta ty hty))
    have e : dA0 S0 (Op.newarray.typeOf ty) = c := by unfold dA0; rw [h1]; rfl
    rw [e]
    refine ⟨fun n z => ⟨fun k h => (by cases h), k, h2, comp, h3⟩, ?_⟩
    cases ty <;> exact h1
  intro t ht
  rcases ht with rfl | rfl | rfl | rfl | rfl | rfl
  · exact hp .int rfl
  · exact hp .char rfl
  · exact hp .boolean rfl
  · exact hp .byte rfl
  · exact hp .long rfl
  · obtain ⟨comp, c, k, h1, -, h2, h3, h4⟩ := Cond.arrayOver_spec (AO0 hts)
    have e : dA0 S0 (.object "CloudInterviews$Board") = c := by unfold dA0; rw [h4]; rfl
    rw [e]
    exact ⟨fun n z => ⟨fun k h => (by cases h), k, h2, comp, h3⟩, k, comp, h2, h3, h1, h4⟩
theorem vaK0 {S0 : State} {args : Array Value} (T : TabOK) (hts : WordsAt S0 args) : ∃ D : va_G, va_K D clT [] S0 := by
  have hg : ∀ w ∈ TBg, w.before args S0 = true := fun w hw => hts w (List.mem_filter.mp hw).1
  have h0 : ∀ ci : Nat, ∃ q : ClassId × (Nat → Nat), ∀ r : vw_C, clT[ci]? = some r → u_Kn S0 r.1 r.2.1 r.2.2 q.1 q.2 := by
    intro ci
    cases hr : clT[ci]? with
    | none => exact ⟨(0, fun _ => 0), fun r h => by cases h⟩
    | some r =>
      have hlt : ci < 8 := (List.getElem?_eq_some_iff.mp hr).1
      have h1 := allB_ok chkKi ci hlt
      rw [hr] at h1
      obtain ⟨cC, iS, hK⟩ := u_known (N := r.2.2) hg (T.2.1 ci r hr).1 (hts _ (atN_ok h1))
      exact ⟨(cC, iS), fun r' h => by cases h; exact hK⟩
  obtain ⟨f, hf⟩ := Classical.axiomOfChoice h0
  exact ⟨(fun c => (f c).1, fun c => (f c).2), fun c q hq => hf c q hq, fun k q hk => by simp at hk⟩
theorem EnvOK0 {l : Launch} (T : TabOK) (hflags : l.flags = flags0) {S0 : State} {args : Array Value} (hts : WordsAt S0 args) (hn : NarAt S0 args) : ∃ D : va_G, EnvOK l S0 D (dA0 S0) (G0 S0) := by
  obtain ⟨D, hD⟩ := vaK0 T hts
  exact ⟨D, ⟨hD, NwOK0 hts, RoOK0 S0, AO0 hts, va_Nw.of rfl (hts _ (atN_ok (pl := 6171) (by decide +kernel)))⟩, ArrEnv0 T hts, StOK0 hts, ExEnv0 hflags hts hn⟩
/-- **from a run of the abstract machine to the law's walk** -/
theorem law_run (T : TabOK) (T2 : TabOK2) {p : Program} {e : Env} {s : State} {m : MethodId} {below : List Frame} {meth : Method} {c : Code} (l : Launch) (hflags : l.flags = flags0) {b L : Nat} {xs : Nat → Int32} (C0 : lw_At p s m meth c b L xs) {d : Nat} (hd : d ≤ 1500) {σ' : St}
    (hrun : run (G0 s) d 0 0 (entry 2 [.ref b]) [] (hRO s, s.heap.size, 0) = some (.inl (some (.int 1)), σ')) (h1 : σ'.2.1 ≤ s.heap.size + 600312) (h2 : σ'.2.2 ≤ 7289666) :
    W p l e room_1 s m #[Value.ref b] below meth c s.heap [] 0 0 (lw_Z below #[Value.ref b] s) (entryFrame m ([Value.ref b] : List Value).toArray 2) := by
  obtain ⟨c1, c2, c3, c4, c5, c6, c7, c8, c9, c10⟩ := C0
  have hts := wordsAt c6
  obtain ⟨D, E⟩ := EnvOK0 T hflags hts c10
  have M := run_sound T T2 E d 0 0 _ _ _ _ hrun
  have m1 : s.heap.size ≤ σ'.2.1 := M.1.1
  have F : Fr s p room_1 s m #[Value.ref b] meth c 0 d s.heap.size 0 :=
    ⟨c1, c2, c4, c5, fun w hw => hts w (List.mem_filter.mp hw).1, c3, c9, (fun h => by cases h), (fun h => absurd h (Nat.lt_irrefl 0)), State.WarmedH.refl s, (by show d + 8 ≤ 2048; omega), (by show 100 + 60 * d ≤ 94400; omega), rfl, Nat.le_refl _, fun _ _ => rfl⟩
  have K := M.2.2 p e room_1 s m #[Value.ref b] below meth c (lw_Z below #[Value.ref b] s) s.heap.size 0 (by decide) F h1 (by show σ'.2.2 ≤ 0 + 7289666; omega) ?_ s.heap [] _ (Rep0 s D (dA0 s)) (fun z hz => nomatch hz) (LR_entry (j := 0) (as := [.ref b]) (by show 1 ≤ 2; omega) rfl) (Nat.le_refl _) (Nat.le_refl _)
  · rw [lg_entry_eq]
    have e0 : (hRO s, s.heap.size, (0 : Nat)).2.1 - s.heap.size = 0 := Nat.sub_self _
    rw [e0] at K
    exact K
  · intro pc st H locs lsA hM hR hf hsz _ _
    obtain ⟨g1, rfl, -⟩ := hM
    refine va_forget hf (W.widen (k := 600312) (n := 7289666) (by show σ'.2.1 - s.heap.size ≤ _; omega) (by show σ'.2.2 - 0 ≤ _; omega) (W.base ?_))
    exact lw_ret (Drawn.sameBut.refl s.drawn lw_cs) c1 c2 c3 c9 g1
