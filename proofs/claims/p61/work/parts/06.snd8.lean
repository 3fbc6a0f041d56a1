/-! SOUNDNESS, part 8: one instruction. -/
def lenI : Instr → Nat
  | .aconst_null => 1
  | .aload _ => 2
  | .aload_n _ => 1
  | .iload _ => 2
  | .iload_n _ => 1
  | .fload _ => 2
  | .fload_n _ => 1
  | .dload _ => 2
  | .dload_n _ => 1
  | .istore _ => 2
  | .istore_n _ => 1
  | .astore _ => 2
  | .astore_n _ => 1
  | .fstore _ => 2
  | .fstore_n _ => 1
  | .dstore _ => 2
  | .lload _ => 2
  | .lload_n _ => 1
  | .lstore _ => 2
  | .lstore_n _ => 1
  | .ldc2_w _ => 3
  | .iconst _ => 1
  | .bipush _ => 2
  | .sipush _ => 3
  | .lconst _ => 1
  | .fconst _ => 1
  | .dconst _ => 1
  | .iinc _ _ => 3
  | .goto _ => 3
  | .ifCond _ _ => 3
  | .if_icmp _ _ => 3
  | .if_acmp _ _ => 3
  | .ifnull _ => 3
  | .ifnonnull _ => 3
  | .tableswitch _ _ _ _ => 0
  | .getfield _ => 3
  | .putfield _ => 3
  | .getstatic _ => 3
  | .ldc _ => 2
  | .ldc_w _ => 3
  | .new _ => 3
  | .newarray _ => 2
  | .anewarray _ => 3
  | .invokevirtual _ => 3
  | .invokespecial _ => 3
  | .invokestatic _ => 3
  | .checkcast _ => 3
  | _ => 1
def MxOK (k x : Nat) : Prop := Cond.methodLink (ownT k) x Lib.Math.max.name ∈ TBg ∧ Cond.static Lib.Math.max.name ∈ TBg ∧ Cond.initialized "java/lang/Math" ∈ TBg ∧ Cond.code Lib.Math.max.name Lib.Math.max.code 2 (some .int) ∈ TBg
def MnOK (k x : Nat) : Prop := Cond.methodLink (ownT k) x Lib.Math.min.name ∈ TBg ∧ Cond.static Lib.Math.min.name ∈ TBg ∧ Cond.initialized "java/lang/Math" ∈ TBg ∧ Cond.code Lib.Math.min.name Lib.Math.min.code 2 (some .int) ∈ TBg
section
variable {l : Launch} {S0 : State} {D : va_G} {dA : FieldType → ClassId} {p : Program} {e : Env} {R : Room} {s : State} {m : MethodId} {args : Array Value} {below : List Frame} {meth : Method} {c : Code} {Q : State → Prop} {i d n0 k0 : Nat}
variable {pc : Nat} {ls : Lo} {st : List Value} {σ : St}
theorem k_mmax (F : Fr S0 p R s m args meth c i d n0 k0) {x : Nat} {a b : Int32} (hO : MxOK (clsT i) x) (hd : decode (cT i) pc = .ok (.invokestatic x, 3)) (hs : csum st ≤ 8) (hr1 : σ.2.1 ≤ n0 + R.cells) (hr2 : σ.2.2 ≤ k0 + R.slots) (k : K_ l S0 D dA p e R s m args below meth c Q i n0 k0 (pc + 3) ls (.int (if a < b then b else a) :: st) σ) : K_ l S0 D dA p e R s m args below meth c Q i n0 k0 pc ls (.int b :: .int a :: st) σ := by
  intro H locs lsA h1 h2 h3 h4 h5
  have f1 := F.2.2.2.2.2.2.2.2.2.2.1
  have f2 := F.2.2.2.2.2.2.2.2.2.2.2.1
  have f3 : (st.map fun v => v.category).sum ≤ 8 := by rw [csum_eq]; exact hs
  exact va_mmax F.1 F.2.1 (F.2.2.1.trans h3.2.1.symm) F.own (F.hts _ hO.1) (F.hts _ hO.2.1) (F.hts _ hO.2.2.1) (F.hts _ hO.2.2.2) (by omega) (by omega) (by omega) (by omega) hd (k H locs lsA h1 h2 h3 h4 h5)
theorem k_mmin (F : Fr S0 p R s m args meth c i d n0 k0) {x : Nat} {a b : Int32} (hO : MnOK (clsT i) x) (hd : decode (cT i) pc = .ok (.invokestatic x, 3)) (hs : csum st ≤ 8) (hr1 : σ.2.1 ≤ n0 + R.cells) (hr2 : σ.2.2 ≤ k0 + R.slots) (k : K_ l S0 D dA p e R s m args below meth c Q i n0 k0 (pc + 3) ls (.int (if b < a then b else a) :: st) σ) : K_ l S0 D dA p e R s m args below meth c Q i n0 k0 pc ls (.int b :: .int a :: st) σ := by
  intro H locs lsA h1 h2 h3 h4 h5
  have f1 := F.2.2.2.2.2.2.2.2.2.2.1
  have f2 := F.2.2.2.2.2.2.2.2.2.2.2.1
  have f3 : (st.map fun v => v.category).sum ≤ 8 := by rw [csum_eq]; exact hs
  exact va_mmin F.1 F.2.1 (F.2.2.1.trans h3.2.1.symm) F.own (F.hts _ hO.1) (F.hts _ hO.2.1) (F.hts _ hO.2.2.1) (F.hts _ hO.2.2.2) (by omega) (by omega) (by omega) (by omega) hd (k H locs lsA h1 h2 h3 h4 h5)
end
def InvOK (i : Nat) (row : Nat × Nat × Nat × Nat) (x : Nat) : Instr → Prop
  | .invokevirtual _ => (row.1 = 0 ∧ (CFV (clsT i) x row.2.1 row.2.2.1 row.2.2.2 ∨ CFU (clsT i) x row.2.1 row.2.2.1 row.2.2.2 ∨ CFO (clsT i) x row.2.1 row.2.2.1 row.2.2.2)) ∨ (row.1 = 8 ∧ ClOK (clsT i) x)
  | .invokestatic _ => (row.1 = 1 ∧ (CFS (clsT i) x row.2.1 row.2.2.1 ∨ CFSN (clsT i) x row.2.1 row.2.2.1 ∨ CFSX (clsT i) x row.2.1 row.2.2.1)) ∨ (row.1 = 5 ∧ AcOK (clsT i) x) ∨ (row.1 = 6 ∧ MxOK (clsT i) x) ∨ (row.1 = 7 ∧ MnOK (clsT i) x)
  | .invokespecial _ => (row.1 = 2 ∧ (CFI (clsT i) x row.2.1 row.2.2.1 ∨ CFIN (clsT i) x row.2.1 row.2.2.1)) ∨ (row.1 = 3 ∧ CFSU (clsT i) x row.2.1 row.2.2.1 ∧ row.2.2.2 < clT.length ∧ row.2.2.2 < 100) ∨ (row.1 = 4 ∧ ObOK (clsT i) x)
  | _ => True
/-- what the tables hold -/
def TabOK : Prop :=
  (∀ i pc ins len, insT i pc = some (ins, len) → decode (cT i) pc = .ok (ins, len) ∧ (lenI ins = 0 ∨ lenI ins = len)) ∧
  ClsOK ∧ (∀ j, iniT j = true → (yT j).name = "<init>") ∧ (∀ i, clsT i < 100) ∧
  (∀ k x ci f ty, rfT k x = some (ci, f, ty) → FldOK k x ci f ty ∨ FldRo k x ci f) ∧
  (∀ k x v, kcT k x = some v → Cond.constant (ownT k) x v ∈ TBg) ∧
  (∀ k x ci fs, rcT k x = some (ci, fs) → NewOK k x ci fs) ∧
  (∀ i pc x len E, insT i pc = some (.new x, len) → rcT (clsT i) x = none → reT (clsT i) x = some E → (x, E) ∈ exL ∧ ThrSite i pc (x, E)) ∧
  (∀ ty, naT ty = true → Cond.arrayClass (Op.newarray.typeOf ty) ∈ TBg) ∧
  (∀ k x C, raT k x = some C → C = "CloudInterviews$Board" ∧ Cond.classLink (ownT k) x C ∈ TBg) ∧
  (∀ i pc x len row, insT i pc = some (.invokevirtual x, len) → rmT (clsT i) x = some row → InvOK i row x (.invokevirtual x)) ∧
  (∀ i pc x len row, insT i pc = some (.invokestatic x, len) → rmT (clsT i) x = some row → InvOK i row x (.invokestatic x)) ∧
  (∀ i pc x len row, insT i pc = some (.invokespecial x, len) → rmT (clsT i) x = some row → InvOK i row x (.invokespecial x)) ∧ ThrWords ∧ (∀ i pc n len, insT i pc ≠ some (.dstore_n n, len)) ∧ (∀ k x v, jcT k x = some v → Cond.constantLong (ownT k) x v ∈ TBg) ∧ (∀ k x v, ckT k x = some v → Cond.classLink (ownT k) x "[B" ∈ TBg) ∧ (∀ k x f ty, rfT k x = some (6, f, ty) → f < 2)
def hstOK (i h : Nat) : Prop := ∃ pc' n, hst i h = some (pc', n) ∧ n < entT i
def HM (i : Nat) : List (Nat × Nat × Nat × Nat) → List (Nat × Nat × Nat × String) → Prop
  | [], [] => True
  | a :: r, b :: t => (a.1 = b.1 ∧ a.2.1 = b.2.1 ∧ a.2.2.1 = b.2.2.1 ∧ a.2.2.2 ≠ 0 ∧ Cond.classLink (ownT (clsT i)) a.2.2.2 b.2.2.2 ∈ TBg ∧ (∃ x, (x, b.2.2.2) ∈ exL ∧ x ≠ 274) ∧ hstOK i b.2.2.1) ∧ HM i r t
  | _, _ => False
def TabOK2 : Prop := (∀ k x row, rmT k x = some row → row.1 < 4 → 0 < row.2.1 ∧ row.2.1 < nmT ∧ row.2.2.1 + (if row.1 = 1 then 0 else 1) ≤ entT row.2.1) ∧
  (∀ j, 0 < j → j < nmT → plainName (yT j).cls = true ∧ (yT j).cls = ownT (clsT j) ∧ True) ∧ (∀ i, i < nmT → HM i (hhT i) (hndT i)) ∧ (∀ i, twoT i = true → hhT i = [])
/-- the environment -/
def EnvOK (l : Launch) (S0 : State) (D : va_G) (dA : FieldType → ClassId) (G : Glb) : Prop := (va_K D clT [] S0 ∧ NwOK S0 ∧ RoOK S0 G ∧ va_AO "CloudInterviews$Board" S0 ∧ va_Nw (.castable "[B" "java/lang/Cloneable") S0) ∧ ArrEnv S0 dA ∧ StOK S0 G ∧ ExEnv l S0
/-- the instruction that returns v -/
def retM (i pc : Nat) (st : List Value) (v : Option Value) : Prop := match v with
  | none => decode (cT i) pc = .ok (.return_, 1) ∧ retT i = none ∧ st = []
  | some (.int x) => decode (cT i) pc = .ok (.ireturn, 1) ∧ st = [.int x] ∧ ∃ ty, retT i = some ty ∧ narrow ty (.int x) = .int x
  | some (.float x) => decode (cT i) pc = .ok (.freturn, 1) ∧ st = [.float x] ∧ retT i = some .float
  | some (.double x) => decode (cT i) pc = .ok (.dreturn, 1) ∧ st = [.double x] ∧ retT i = some .double
  | some (.long x) => decode (cT i) pc = .ok (.lreturn, 1) ∧ st = [.long x] ∧ retT i = some .long
  | some (.ref x) => decode (cT i) pc = .ok (.areturn, 1) ∧ st = [.ref x] ∧ ∃ ty, retT i = some ty ∧ ((∃ n, ty = .object n) ∨ ∃ t, ty = .array t)
  | some .null => decode (cT i) pc = .ok (.areturn, 1) ∧ st = [.null] ∧ ∃ n, retT i = some (.object n)
  | _ => False
section
variable {l : Launch} {S0 : State} {D : va_G} {dA : FieldType → ClassId} {p : Program} {e : Env} {R : Room} {s : State} {m : MethodId} {args : Array Value} {below : List Frame} {meth : Method} {c : Code} {Q : State → Prop} {i d n0 k0 : Nat}
variable {pc : Nat} {ls : Lo} {st : List Value} {σ : St}
def AOK (l : Launch) (S0 : State) (D : va_G) (dA : FieldType → ClassId) (p : Program) (e : Env) (R : Room) (s : State) (m : MethodId) (args : Array Value) (below : List Frame) (meth : Method) (c : Code) (Q : State → Prop) (i d n0 k0 pc : Nat) (ls : Lo) (st : List Value) (σ : St) (nx : Nx) : Prop := match nx with
  | .inl (pc', ls', st', σ') => (σ'.2.1 ≤ n0 + R.cells ∧ σ'.2.2 ≤ k0 + R.slots) ∧ K_ l S0 D dA p e R s m args below meth c Q i n0 k0 pc' ls' st' σ'
  | .inr (.inl (.inl v, σ')) => σ' = σ → retM i pc st v → K_ l S0 D dA p e R s m args below meth c Q i n0 k0 pc ls st σ
  | .inr (.inl (.inr E, σ')) => ∀ x, (x, E) ∈ exL → decode (cT i) pc = .ok (.new x, 3) → ThrSite i pc (x, E) → csum st ≤ 8 → σ' = wexc σ → K_ l S0 D dA p e R s m args below meth c Q i n0 k0 pc ls st σ
  | .inr (.inr (j, as, pc', ls', rest, σ')) => pc' = pc + 3 → ls' = ls → σ' = σ → 0 < j → j < nmT → as.length ≤ entT j → cat1s as = true → RunAt l S0 D dA p e R s m args below meth c d j pc as st rest σ → K_ l S0 D dA p e R s m args below meth c Q i n0 k0 pc ls st σ
theorem popN_len {n : Nat} {as r : List Value} (h : popN n st [] = some (as, r)) : as.length = n := by
  obtain ⟨xs, x1, x2, -⟩ := popN_ok h
  rw [x2, List.append_nil, x1]
theorem jmp_ok {β : Type} {off : Int} {f : Nat → Option β} {nx : β} (h : jmp pc off f = some nx) : ∃ t : Nat, (pc : Int) + off = (t : Int) ∧ f t = some nx := by
  unfold jmp at h
  split at h
  · rename_i h0
    exact ⟨_, (Int.toNat_of_nonneg h0).symm, h⟩
  · cases h
theorem sStI_ok {β : Type} {two : Bool} {n : Nat} {f : Lo → List Value → Option β} {nx : β} (h : sStI two ls n st f = some nx) : ∃ x r ls', st = .int x :: r ∧ lst two ls n (.int x) = some ls' ∧ f ls' r = some nx := by
  unfold sStI at h
  split at h
  · obtain ⟨ls', h1, h2⟩ := Option.bind_eq_some_iff.mp h
    exact ⟨_, _, ls', rfl, h1, h2⟩
  · cases h
theorem sStF_ok {β : Type} {two : Bool} {n : Nat} {f : Lo → List Value → Option β} {nx : β} (h : sStF two ls n st f = some nx) : ∃ x r ls', st = .float x :: r ∧ lst two ls n (.float x) = some ls' ∧ f ls' r = some nx := by
  unfold sStF at h
  split at h
  · obtain ⟨ls', h1, h2⟩ := Option.bind_eq_some_iff.mp h
    exact ⟨_, _, ls', rfl, h1, h2⟩
  · cases h
theorem sStA_ok {β : Type} {two : Bool} {n : Nat} {f : Lo → List Value → Option β} {nx : β} (h : sStA two ls n st f = some nx) : (∃ x r ls', st = .ref x :: r ∧ lst two ls n (.ref x) = some ls' ∧ f ls' r = some nx) ∨ (∃ r ls', st = .null :: r ∧ lst two ls n .null = some ls' ∧ f ls' r = some nx) := by
  unfold sStA at h
  split at h
  · obtain ⟨ls', h1, h2⟩ := Option.bind_eq_some_iff.mp h
    exact Or.inl ⟨_, _, ls', rfl, h1, h2⟩
  · obtain ⟨ls', h1, h2⟩ := Option.bind_eq_some_iff.mp h
    exact Or.inr ⟨_, ls', rfl, h1, h2⟩
  · cases h
theorem sStD_ok {β : Type} {two : Bool} {n : Nat} {f : Lo → List Value → Option β} {nx : β} (h : sStD two ls n st f = some nx) : ∃ x r ls', st = .double x :: r ∧ two = true ∧ n + 1 < ls.length ∧ lst two ls n (.double x) = some ls' ∧ f (ls'.set (n + 1) none) r = some nx := by
  unfold sStD at h
  split at h
  · split at h
    · rename_i hc
      obtain ⟨ls', h1, h2⟩ := Option.bind_eq_some_iff.mp h
      exact ⟨_, _, ls', rfl, hc.1, hc.2, h1, h2⟩
    · cases h
  · cases h
theorem sStJ_ok {β : Type} {two : Bool} {n : Nat} {f : Lo → List Value → Option β} {nx : β} (h : sStJ two ls n st f = some nx) : ∃ x r ls', st = .long x :: r ∧ two = true ∧ n + 1 < ls.length ∧ lst two ls n (.long x) = some ls' ∧ f (ls'.set (n + 1) none) r = some nx := by
  unfold sStJ at h
  split at h
  · split at h
    · rename_i hc
      obtain ⟨ls', h1, h2⟩ := Option.bind_eq_some_iff.mp h
      exact ⟨_, _, ls', rfl, hc.1, hc.2, h1, h2⟩
    · cases h
  · cases h
theorem op1_ok {β : Type} {g : Int32 → Value} {f : List Value → Option β} {nx : β} (h : op1 st g f = some nx) : ∃ x r, st = .int x :: r ∧ f (g x :: r) = some nx := by
  unfold op1 at h
  split at h
  · exact ⟨_, _, rfl, h⟩
  · cases h
theorem op2_ok {β : Type} {g : Int32 → Int32 → Int32} {f : List Value → Option β} {nx : β} (h : op2 st g f = some nx) : ∃ x y r, st = .int y :: .int x :: r ∧ f (.int (g x y) :: r) = some nx := by
  unfold op2 at h
  split at h
  · exact ⟨_, _, _, rfl, h⟩
  · cases h
theorem gI_ok {β : Type} {o : Option Value} {f : Int32 → Option β} {nx : β} (h : gI o f = some nx) : ∃ v, o = some (.int v) ∧ f v = some nx := by
  unfold gI at h
  split at h
  · exact ⟨_, rfl, h⟩
  · cases h
theorem gR_ok {β : Type} {o : Option Value} {f : Nat → Option β} {nx : β} (h : gR o f = some nx) : ∃ v, o = some (.ref v) ∧ f v = some nx := by
  unfold gR at h
  split at h
  · exact ⟨_, rfl, h⟩
  · cases h
theorem ble_t {ci : Nat} (h : 100 ≤ ci) : Nat.ble 100 ci = true := Nat.ble_eq_true_of_le h
theorem ble_f {ci : Nat} (h : ci < 100) : Nat.ble 100 ci = false := by
  cases h9 : Nat.ble 100 ci with
  | false => rfl
  | true => have := Nat.le_of_ble_eq_true h9; omega
theorem gS_ok {β : Type} {kd : Nat} {o : Option Value} {f : Value → Option β} {nx : β} (h : gS kd o f = some nx) : ∃ v, o = some v ∧ f v = some nx := by
  unfold gS at h
  split at h
  · unfold gI at h
    split at h
    · exact ⟨_, rfl, h⟩
    · cases h
  · unfold gR at h
    split at h
    · exact ⟨_, rfl, h⟩
    · cases h
  · unfold gN at h
    split at h
    · exact ⟨_, rfl, h⟩
    · exact ⟨_, rfl, h⟩
    · cases h
end
