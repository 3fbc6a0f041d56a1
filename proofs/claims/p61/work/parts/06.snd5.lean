/-! SOUNDNESS, part 5: calls and throws. -/
def codeW (j : Nat) : Cond := match hhT j with
  | [] => .code (yT j) (cT j) (entT j) (retT j)
  | h :: t => .codeWith (yT j) (cT j) (entT j) (retT j) (h :: t)
def rmF (d mc ms : Nat) : Room := { frames := d + 8, cells := mc, slots := ms, locals := 100 + 60 * d }
def PcF (S0 : State) (D : va_G) (dA : FieldType → ClassId) (σ : St) (as : List Value) : Array Value → State → Prop := fun v U => v = as.toArray ∧ S0.WarmedH U.vm ∧ Rep S0 D dA σ U.heap
def Ctr (l : Launch) (S0 : State) (D : va_G) (dA : FieldType → ClassId) (j d : Nat) (as : List Value) (σ : St) (Qc : Array Value → State → Outcome → State → Prop) (XC : String → State → State → Prop) (mc ms : Nat) : Prop :=
  vx_Met l (yT j) (codeW j :: TBg) (rmF d mc ms) (PcF S0 D dA σ as) Qc XC mc ms (freeB S0)
def cellC (ci : Nat) : String := if ci < 100 then (clT.getD ci ("", fun _ => ("", "", "", false), 0)).1 else roC ci
/-- what the tables say of a call's row -/
def NwOK (S0 : State) : Prop := ∀ (a : String) (i : Nat) (x : MethodName) (h : String), Cond.methodLinkNest a i x h ∈ lw_xtra ++ lw_tbl → va_Nw (.methodLinkNest a i x h) S0
def CF0 (j n : Nat) (y : MethodName) : Prop := codeW j ∈ TBg ∧ Cond.initialized (yT j).cls ∈ TBg ∧ ((yT j).cls ≠ "java/lang/invoke/MethodHandle" ∧ (yT j).cls ≠ "java/lang/invoke/VarHandle") ∧ (parseMethodDescriptor y.desc).map (fun q => q.parameters.length) = some n ∧ entT j ≤ 41
def CFV (k x j n ci : Nat) : Prop := CF0 j n (yT j) ∧ hhT j = [] ∧ Cond.methodLink (ownT k) x (yT j) ∈ TBg ∧ Cond.instanceMethod (yT j) ∈ TBg ∧ Cond.selects (cellC ci) (yT j) (yT j) ∈ TBg
def CFU (k x j n ci : Nat) : Prop := ∃ y : MethodName, CF0 j n y ∧ hhT j = [] ∧ yT j = ⟨(yT j).cls, y.name, y.desc⟩ ∧ Cond.methodLink (ownT k) x y ∈ TBg ∧ Cond.sameMethod y.cls (yT j).cls y.name y.desc ∈ TBg ∧ Cond.instanceMethod (yT j) ∈ TBg ∧ Cond.selects (cellC ci) y (yT j) ∈ TBg
/-- a method that another one overrides -/
def CFO (k x j n ci : Nat) : Prop := ∃ (y : MethodName) (jo : Nat), CF0 j n y ∧ hhT j = [] ∧ (y.cls ≠ "java/lang/invoke/MethodHandle" ∧ y.cls ≠ "java/lang/invoke/VarHandle") ∧ yT jo = y ∧ hhT jo = [] ∧ codeW jo ∈ TBg ∧ Cond.instanceMethod y ∈ TBg ∧ Cond.methodLink (ownT k) x y ∈ TBg ∧ Cond.sameMethod y.cls y.cls y.name y.desc ∈ TBg ∧ Cond.instanceMethod (yT j) ∈ TBg ∧ Cond.selects (cellC ci) y (yT j) ∈ TBg
def CFS (k x j n : Nat) : Prop := CF0 j n (yT j) ∧ hhT j = [] ∧ Cond.methodLink (ownT k) x (yT j) ∈ TBg ∧ Cond.static (yT j) ∈ TBg
def CFSN (k x j n : Nat) : Prop := CF0 j n (yT j) ∧ hhT j = [] ∧ (∃ host, Cond.methodLinkNest (ownT k) x (yT j) host ∈ lw_xtra ++ lw_tbl) ∧ Cond.static (yT j) ∈ TBg
def CFSX (k x j n : Nat) : Prop := CF0 j n (yT j) ∧ hhT j ≠ [] ∧ Cond.methodLink (ownT k) x (yT j) ∈ TBg ∧ Cond.static (yT j) ∈ TBg
def CFI (k x j n : Nat) : Prop := CF0 j n (yT j) ∧ hhT j = [] ∧ retT j = none ∧ (yT j).name = "<init>" ∧ Cond.methodLink (ownT k) x (yT j) ∈ TBg ∧ Cond.instanceMethod (yT j) ∈ TBg
def CFIN (k x j n : Nat) : Prop := CF0 j n (yT j) ∧ hhT j = [] ∧ retT j = none ∧ (yT j).name = "<init>" ∧ (∃ host, Cond.methodLinkNest (ownT k) x (yT j) host ∈ lw_xtra ++ lw_tbl) ∧ Cond.instanceMethod (yT j) ∈ TBg
def CFSU (k x j n : Nat) : Prop := CF0 j n (yT j) ∧ hhT j = [] ∧ (yT j).name ≠ "<init>" ∧ Cond.methodLink (ownT k) x (yT j) ∈ TBg ∧ Cond.sameMethod (yT j).cls (yT j).cls (yT j).name (yT j).desc ∈ TBg ∧ Cond.superclass (ownT k) (yT j).cls ∈ TBg ∧ Cond.instanceMethod (yT j) ∈ TBg
section
variable {l : Launch} {S0 : State} {D : va_G} {dA : FieldType → ClassId} {p : Program} {e : Env} {R : Room} {s : State} {m : MethodId} {args : Array Value} {below : List Frame} {meth : Method} {c : Code} {Q : State → Prop} {i d n0 k0 : Nat}
variable {pc : Nat} {ls : Lo} {st : List Value} {σ : St}
theorem popN_ok : ∀ {n : Nat} {st acc as r : List Value}, popN n st acc = some (as, r) → ∃ xs : List Value, xs.length = n ∧ as = xs ++ acc ∧ st = xs.reverse ++ r
  | 0, st, acc, as, r, h => by
    cases h
    exact ⟨[], rfl, rfl, rfl⟩
  | n + 1, v :: st, acc, as, r, h => by
    obtain ⟨xs, h1, h2, h3⟩ := popN_ok (n := n) (st := st) (acc := v :: acc) h
    exact ⟨xs ++ [v], by simp [h1], by simp [h2], by simp [h3]⟩
  | n + 1, [], acc, as, r, h => by cases h
theorem TBg_good {w : Cond} (h : w ∈ TBg) : goodWord w = true := (List.mem_filter.mp h).2
theorem Fr.keep (F : Fr S0 p R s m args meth c i d n0 k0) {j : Nat} (hj : codeW j ∈ TBg) : ∀ w ∈ codeW j :: TBg, ∀ (a' : Array Value) (U : State), s.WarmedH U.vm → w.before a' U = true := by
  intro w hw a' U hW
  have hw2 : w ∈ TBg := by
    rcases List.mem_cons.mp hw with h | h
    · rw [h]; exact hj
    · exact h
  exact word_at hW (good_of_word (TBg_good hw2)) (F.hts w hw2)
theorem codeW_nil {j : Nat} (h : hhT j = []) : codeW j = .code (yT j) (cT j) (entT j) (retT j) := by unfold codeW; rw [h]
theorem codeW_cons {j : Nat} (h : hhT j ≠ []) : codeW j = .codeWith (yT j) (cT j) (entT j) (retT j) (hhT j) := by
  unfold codeW
  cases hh : hhT j with
  | nil => exact absurd hh h
  | cons a t => rfl
theorem Fr.blind {σ : St} {as : List Value} : FrameBlind (PcF S0 D dA σ as) := fun _ _ _ _ h => h
theorem Fr.preS (F : Fr S0 p R s m args meth c i d n0 k0) {H : Heap} (hR : Rep S0 D dA σ H) (as : List Value) : PreS s H (PcF S0 D dA σ as) as :=
  ⟨Fr.blind, fun U hU hW => ⟨rfl, State.WarmedH.trans F.2.2.2.2.2.2.2.2.2.1 hW, by rw [hU]; exact hR⟩⟩
theorem rcv_cell (K0 : va_K D clT [] S0) {H : Heap} {b ci : Nat} (hR : Rep S0 D dA σ H) (h : rcv σ b ci = true) : ∃ cellB : Cell, H[b]? = some cellB ∧ cellB.vm.isStatics = false ∧ S0.vm.findClass (cellC ci) = some cellB.cls := by
  unfold rcv at h
  split at h
  case h_2 => cases h
  rename_i ci' fs hb
  have hci : ci' = ci := by simpa using h
  subst hci
  have hat := hR.2.2.2 b _ hb
  unfold celAt at hat
  simp only at hat
  unfold cellC
  split at hat
  · rename_i h0
    obtain ⟨-, -, r, hr, cell, g1, g2, g3, -⟩ := hat
    have hcls := (K0.1 ci' _ hr).2
    refine ⟨cell, g1, by rw [g3]; rfl, ?_⟩
    rw [if_pos h0, List.getD_eq_getElem?_getD, hr, g2]
    exact hcls.1
  · rename_i h0
    obtain ⟨hq, ⟨cell, g1, g2, g3⟩, -⟩ := hat
    exact ⟨cell, (hR.2.2.1 b hq).trans g1, g2, by rw [if_neg h0]; exact g3⟩
theorem rcvG_cell (K0 : va_K D clT [] S0) {G : Glb} (R0 : RoOK S0 G) {H : Heap} {b ci : Nat} (hR : Rep S0 D dA σ H) (h : rcvG G σ b ci = true) : ∃ cellB : Cell, H[b]? = some cellB ∧ cellB.vm.isStatics = false ∧ S0.vm.findClass (cellC ci) = some cellB.cls := by
  unfold rcvG at h
  by_cases h100 : 100 ≤ ci
  · rw [Nat.ble_eq_true_of_le h100] at h
    simp only [cond_true] at h
    obtain ⟨v, hv⟩ := Option.isSome_iff_exists.mp h
    obtain ⟨cell, g1, g2, g3⟩ := (R0 ci b h100).2 v hv
    refine ⟨cell, (hR.2.2.1 b (Array.getElem?_eq_some_iff.mp g1).1).trans g1, g2, ?_⟩
    unfold cellC
    rw [if_neg (by omega)]
    exact g3
  · have e : Nat.ble 100 ci = false := by
      cases h9 : Nat.ble 100 ci with
      | false => rfl
      | true => exact absurd (Nat.le_of_ble_eq_true h9) h100
    rw [e] at h
    simp only [cond_false] at h
    cases h6 : Nat.beq ci 6 with
    | false => rw [h6] at h; exact rcv_cell K0 hR h
    | true =>
      rw [h6] at h
      have hci := Nat.eq_of_beq_eq_true h6
      subst hci
      simp only [cond_true, Bool.or_eq_true] at h
      rcases h with h | h
      · obtain ⟨v, hv⟩ := Option.isSome_iff_exists.mp h
        obtain ⟨cell, g1, g2, g3⟩ := (R0 100 b (by omega)).2 v hv
        exact ⟨cell, (hR.2.2.1 b (Array.getElem?_eq_some_iff.mp g1).1).trans g1, g2, g3⟩
      · exact rcv_cell K0 hR h
theorem Fr.preV (F : Fr S0 p R s m args meth c i d n0 k0) (K0 : va_K D clT [] S0) {G : Glb} (R0 : RoOK S0 G) {H : Heap} {b ci : Nat} (hR : Rep S0 D dA σ H) (h : rcvG G σ b ci = true) (As : List Value) : PreV s H (cellC ci) b (PcF S0 D dA σ (.ref b :: As)) As := by
  obtain ⟨cell, g1, g2, g3⟩ := rcvG_cell K0 R0 hR h
  exact ⟨Fr.blind, ⟨cell, g1, g2, by rw [F.alike.findClass]; exact g3⟩, fun U hU hW => ⟨rfl, State.WarmedH.trans F.2.2.2.2.2.2.2.2.2.1 hW, by rw [hU]; exact hR⟩⟩
theorem st8 {r : List Value} (h : csum r ≤ 8) (lsA : Array Slot) (stk : List Value) : 2 * (F0 m pc lsA stk).monitorRoom + (r.map fun v => v.category).sum ≤ 8 := lv_room (by rw [csum_eq]; exact h)
theorem prm {y : MethodName} {n : Nat} (h : (parseMethodDescriptor y.desc).map (fun q => q.parameters.length) = some n) : ∀ sig, parseMethodDescriptor y.desc = some sig → n = sig.parameters.length := by
  intro sig hs
  rw [hs] at h
  exact (Option.some.inj h).symm
/-- a call of method j with the arguments as, the stack r below them -/
def RunAt (l : Launch) (S0 : State) (D : va_G) (dA : FieldType → ClassId) (p : Program) (e : Env) (R : Room) (s : State) (m : MethodId) (args : Array Value) (below : List Frame) (meth : Method) (c : Code) (d j pc : Nat) (as st r : List Value) (σ : St) : Prop :=
  ∀ (d' : Nat), d = d' + 1 → ∀ (H : Heap) (locs : List Loc) (lsA : Array Slot), Rep S0 D dA σ H → lsA.size = c.maxLocals → ∀ (Qc : Array Value → State → Outcome → State → Prop) (XC : String → State → State → Prop) (mc ms cells slots : Nat), Ctr l S0 D dA j d' as σ Qc XC mc ms → cells + mc ≤ R.cells ∧ slots + ms ≤ R.slots →
    vx_Run p l e R s m args below meth c H locs cells slots mc ms (F0 m pc lsA st) r (Qc as.toArray) XC (freeB S0)
theorem call_V (F : Fr S0 p R s m args meth c i d n0 k0) (K0 : va_K D clT [] S0) {G : Glb} (R0 : RoOK S0 G) {x j n ci b : Nat} {as r : List Value} (hd : decode (cT i) pc = .ok (.invokevirtual x, 3)) (hC : CFV (clsT i) x j n ci) (hp : popN n st [] = some (as, .ref b :: r)) (hr : rcvG G σ b ci = true) (hs : csum r ≤ 8) :
    RunAt l S0 D dA p e R s m args below meth c d j pc (.ref b :: as) st r σ := by
  intro d' hd' H locs lsA hR hsz Qc XC mc ms cells slots hM hf
  obtain ⟨⟨w1, w2, w3, w4, w5⟩, hh, w6, w7, w8⟩ := hC
  obtain ⟨xs, x1, x2, x3⟩ := popN_ok hp
  rw [List.append_nil] at x2
  subst x2
  have hc1 := codeW_nil hh
  have f1 := F.2.2.2.2.2.2.2.2.2.2.1
  have f2 := F.2.2.2.2.2.2.2.2.2.2.2.1
  exact vx_runV ⟨F.1, F.2.1, F.2.2.1, F.own, F.hts⟩ hM ⟨⟨rfl, rfl, by show d' + 8 + 1 ≤ _; omega, by show 8 + (entT j + 11) + (100 + 60 * d') ≤ _; omega, F.keep w1, by rw [hc1]; exact List.mem_cons_self, by rw [← hc1]; exact F.hts _ w1, F.hts _ w2, w3, prm w4, F.hts _ w6⟩, F.hts _ w7, F.hts _ w8⟩ (F.preV K0 R0 hR hr as) rfl x1 (hsz.trans F.2.2.1) x3 (st8 hs _ _) hd hf
theorem call_U (F : Fr S0 p R s m args meth c i d n0 k0) (K0 : va_K D clT [] S0) {G : Glb} (R0 : RoOK S0 G) {x j n ci b : Nat} {as r : List Value} (hd : decode (cT i) pc = .ok (.invokevirtual x, 3)) (hC : CFU (clsT i) x j n ci) (hp : popN n st [] = some (as, .ref b :: r)) (hr : rcvG G σ b ci = true) (hs : csum r ≤ 8) :
    RunAt l S0 D dA p e R s m args below meth c d j pc (.ref b :: as) st r σ := by
  intro d' hd' H locs lsA hR hsz Qc XC mc ms cells slots hM hf
  obtain ⟨y, ⟨w1, w2, w3, w4, w5⟩, hh, hy, w6, w9, w7, w8⟩ := hC
  obtain ⟨xs, x1, x2, x3⟩ := popN_ok hp
  rw [List.append_nil] at x2
  subst x2
  have hc1 := codeW_nil hh
  have f1 := F.2.2.2.2.2.2.2.2.2.2.1
  have f2 := F.2.2.2.2.2.2.2.2.2.2.2.1
  have hcd : (Cond.code (yT j) (cT j) (entT j) (retT j)).before args s = true := by rw [← hc1]; exact F.hts _ w1
  exact vx_runU (x := y) (y := yT j) (owner := (yT j).cls) ⟨F.1, F.2.1, F.2.2.1, F.own, F.hts⟩ hM ⟨⟨rfl, rfl, by show d' + 8 + 1 ≤ _; omega, by show 8 + (entT j + 11) + (100 + 60 * d') ≤ _; omega, F.keep w1, by rw [hc1]; exact List.mem_cons_self⟩, hcd, F.hts _ w2, w3, prm w4, F.hts _ w6, F.hts _ w9, by rw [← hy]; exact va_Decl.of (F.hts _ w7) hcd, F.hts _ w8, F.hts _ w7⟩ (F.preV K0 R0 hR hr as) rfl x1 (hsz.trans F.2.2.1) x3 (st8 hs _ _) hd hf
theorem call_O (F : Fr S0 p R s m args meth c i d n0 k0) (K0 : va_K D clT [] S0) {G : Glb} (R0 : RoOK S0 G) {x j n ci b : Nat} {as r : List Value} (hd : decode (cT i) pc = .ok (.invokevirtual x, 3)) (hC : CFO (clsT i) x j n ci) (hp : popN n st [] = some (as, .ref b :: r)) (hr : rcvG G σ b ci = true) (hs : csum r ≤ 8) :
    RunAt l S0 D dA p e R s m args below meth c d j pc (.ref b :: as) st r σ := by
  intro d' hd' H locs lsA hR hsz Qc XC mc ms cells slots hM hf
  obtain ⟨y, jo, ⟨w1, w2, w3, w4, w5⟩, hh, w33, hy, hho, wo1, wo2, w6, w9, w7, w8⟩ := hC
  obtain ⟨xs, x1, x2, x3⟩ := popN_ok hp
  rw [List.append_nil] at x2
  subst x2
  have hc1 := codeW_nil hh
  have f1 := F.2.2.2.2.2.2.2.2.2.2.1
  have f2 := F.2.2.2.2.2.2.2.2.2.2.2.1
  have hcd : (Cond.code (yT j) (cT j) (entT j) (retT j)).before args s = true := by rw [← hc1]; exact F.hts _ w1
  exact vx_runU (x := y) (y := yT j) (owner := y.cls) ⟨F.1, F.2.1, F.2.2.1, F.own, F.hts⟩ hM ⟨⟨rfl, rfl, by show d' + 8 + 1 ≤ _; omega, by show 8 + (entT j + 11) + (100 + 60 * d') ≤ _; omega, F.keep w1, by rw [hc1]; exact List.mem_cons_self⟩, hcd, F.hts _ w2, w33, prm w4, F.hts _ w6, F.hts _ w9, va_Decl.of (F.hts _ wo2) (by rw [← hy, ← codeW_nil hho]; exact F.hts _ wo1), F.hts _ w8, F.hts _ w7⟩ (F.preV K0 R0 hR hr as) rfl x1 (hsz.trans F.2.2.1) x3 (st8 hs _ _) hd hf
theorem call_S (F : Fr S0 p R s m args meth c i d n0 k0) {x j n : Nat} {as r : List Value} (hd : decode (cT i) pc = .ok (.invokestatic x, 3)) (hC : CFS (clsT i) x j n) (hp : popN n st [] = some (as, r)) (hs : csum r ≤ 8) :
    RunAt l S0 D dA p e R s m args below meth c d j pc as st r σ := by
  intro d' hd' H locs lsA hR hsz Qc XC mc ms cells slots hM hf
  obtain ⟨⟨w1, w2, w3, w4, w5⟩, hh, w6, w7⟩ := hC
  obtain ⟨xs, x1, x2, x3⟩ := popN_ok hp
  rw [List.append_nil] at x2
  subst x2
  have hc1 := codeW_nil hh
  have f1 := F.2.2.2.2.2.2.2.2.2.2.1
  have f2 := F.2.2.2.2.2.2.2.2.2.2.2.1
  exact vx_runS ⟨F.1, F.2.1, F.2.2.1, F.own, F.hts⟩ hM ⟨⟨rfl, rfl, by show d' + 8 + 1 ≤ _; omega, by show 8 + (entT j + 11) + (100 + 60 * d') ≤ _; omega, F.keep w1, by rw [hc1]; exact List.mem_cons_self, by rw [← hc1]; exact F.hts _ w1, F.hts _ w2, w3, prm w4, F.hts _ w6⟩, F.hts _ w7⟩ (F.preS hR as) rfl x1 (hsz.trans F.2.2.1) x3 (st8 hs _ _) hd hf
theorem call_SN (F : Fr S0 p R s m args meth c i d n0 k0) (N0 : NwOK S0) {x j n : Nat} {as r : List Value} (hd : decode (cT i) pc = .ok (.invokestatic x, 3)) (hC : CFSN (clsT i) x j n) (hp : popN n st [] = some (as, r)) (hs : csum r ≤ 8) :
    RunAt l S0 D dA p e R s m args below meth c d j pc as st r σ := by
  intro d' hd' H locs lsA hR hsz Qc XC mc ms cells slots hM hf
  obtain ⟨⟨w1, w2, w3, w4, w5⟩, hh, ⟨host, w6'⟩, w7⟩ := hC
  obtain ⟨xs, x1, x2, x3⟩ := popN_ok hp
  rw [List.append_nil] at x2
  subst x2
  have w6 : (Cond.methodLinkNest (ownT (clsT i)) x (yT j) host).before args s = true := va_Nw.use rfl (va_Nw.warmM F.2.2.2.2.2.2.2.2.2.1 (N0 _ _ _ _ w6'))
  have hc1 := codeW_nil hh
  have f1 := F.2.2.2.2.2.2.2.2.2.2.1
  have f2 := F.2.2.2.2.2.2.2.2.2.2.2.1
  exact vx_runSN (host := host) ⟨F.1, F.2.1, F.2.2.1, F.own, F.hts⟩ hM ⟨⟨⟨rfl, rfl, by show d' + 8 + 1 ≤ _; omega, by show 8 + (entT j + 11) + (100 + 60 * d') ≤ _; omega, F.keep w1, by rw [hc1]; exact List.mem_cons_self⟩, by rw [← hc1]; exact F.hts _ w1, F.hts _ w2, w3, prm w4, w6⟩, F.hts _ w7, trivial⟩ (F.preS hR as) rfl x1 (hsz.trans F.2.2.1) x3 (st8 hs _ _) hd hf
theorem call_SX (F : Fr S0 p R s m args meth c i d n0 k0) {x j n : Nat} {as r : List Value} (hd : decode (cT i) pc = .ok (.invokestatic x, 3)) (hC : CFSX (clsT i) x j n) (hp : popN n st [] = some (as, r)) (hs : csum r ≤ 8) :
    RunAt l S0 D dA p e R s m args below meth c d j pc as st r σ := by
  intro d' hd' H locs lsA hR hsz Qc XC mc ms cells slots hM hf
  obtain ⟨⟨w1, w2, w3, w4, w5⟩, hh, w6, w7⟩ := hC
  obtain ⟨xs, x1, x2, x3⟩ := popN_ok hp
  rw [List.append_nil] at x2
  subst x2
  have hc1 := codeW_cons hh
  have f1 := F.2.2.2.2.2.2.2.2.2.2.1
  have f2 := F.2.2.2.2.2.2.2.2.2.2.2.1
  exact vx_runSX (hh := hhT j) ⟨F.1, F.2.1, F.2.2.1, F.own, F.hts⟩ hM ⟨⟨rfl, rfl, by show d' + 8 + 1 ≤ _; omega, by show 8 + (entT j + 11) + (100 + 60 * d') ≤ _; omega, F.keep w1, by rw [hc1]; exact List.mem_cons_self⟩, by rw [← hc1]; exact F.hts _ w1, F.hts _ w2, w3, prm w4, F.hts _ w6, F.hts _ w7⟩ (F.preS hR as) rfl x1 (hsz.trans F.2.2.1) x3 (st8 hs _ _) hd hf
theorem call_I (F : Fr S0 p R s m args meth c i d n0 k0) {x j n b : Nat} {as r : List Value} (hd : decode (cT i) pc = .ok (.invokespecial x, 3)) (hC : CFI (clsT i) x j n) (hp : popN n st [] = some (as, .ref b :: r)) (hs : csum r ≤ 8) :
    RunAt l S0 D dA p e R s m args below meth c d j pc (.ref b :: as) st r σ := by
  intro d' hd' H locs lsA hR hsz Qc XC mc ms cells slots hM hf
  obtain ⟨⟨w1, w2, w3, w4, w5⟩, hh, hrt, hnm, w6, w7⟩ := hC
  obtain ⟨xs, x1, x2, x3⟩ := popN_ok hp
  rw [List.append_nil] at x2
  subst x2
  have hc1 := codeW_nil hh
  rw [hrt] at hc1
  have f1 := F.2.2.2.2.2.2.2.2.2.2.1
  have f2 := F.2.2.2.2.2.2.2.2.2.2.2.1
  exact vx_runI ⟨F.1, F.2.1, F.2.2.1, F.own, F.hts⟩ hM ⟨⟨rfl, rfl, by show d' + 8 + 1 ≤ _; omega, by show 8 + (entT j + 11) + (100 + 60 * d') ≤ _; omega, F.keep w1, by rw [hc1]; exact List.mem_cons_self, by rw [← hc1]; exact F.hts _ w1, F.hts _ w2, w3, prm w4, F.hts _ w6⟩, hnm, F.hts _ w7⟩ (F.preS hR (.ref b :: as)) rfl x1 (hsz.trans F.2.2.1) x3 (st8 hs _ _) hd hf
theorem call_IN (F : Fr S0 p R s m args meth c i d n0 k0) (N0 : NwOK S0) {x j n b : Nat} {as r : List Value} (hd : decode (cT i) pc = .ok (.invokespecial x, 3)) (hC : CFIN (clsT i) x j n) (hp : popN n st [] = some (as, .ref b :: r)) (hs : csum r ≤ 8) :
    RunAt l S0 D dA p e R s m args below meth c d j pc (.ref b :: as) st r σ := by
  intro d' hd' H locs lsA hR hsz Qc XC mc ms cells slots hM hf
  obtain ⟨⟨w1, w2, w3, w4, w5⟩, hh, hrt, hnm, ⟨host, w6'⟩, w7⟩ := hC
  obtain ⟨xs, x1, x2, x3⟩ := popN_ok hp
  rw [List.append_nil] at x2
  subst x2
  have w6 : (Cond.methodLinkNest (ownT (clsT i)) x (yT j) host).before args s = true := va_Nw.use rfl (va_Nw.warmM F.2.2.2.2.2.2.2.2.2.1 (N0 _ _ _ _ w6'))
  have hc1 := codeW_nil hh
  rw [hrt] at hc1
  have f1 := F.2.2.2.2.2.2.2.2.2.2.1
  have f2 := F.2.2.2.2.2.2.2.2.2.2.2.1
  exact vx_runIN (host := host) ⟨F.1, F.2.1, F.2.2.1, F.own, F.hts⟩ hM ⟨⟨⟨rfl, rfl, by show d' + 8 + 1 ≤ _; omega, by show 8 + (entT j + 11) + (100 + 60 * d') ≤ _; omega, F.keep w1, by rw [hc1]; exact List.mem_cons_self⟩, by rw [← hc1]; exact F.hts _ w1, F.hts _ w2, w3, prm w4, w6⟩, hnm, F.hts _ w7⟩ (F.preS hR (.ref b :: as)) rfl x1 (hsz.trans F.2.2.1) x3 (st8 hs _ _) hd hf
theorem call_SU (F : Fr S0 p R s m args meth c i d n0 k0) (K0 : va_K D clT [] S0) {G : Glb} (R0 : RoOK S0 G) {x j n ci b : Nat} {as r : List Value} (hd : decode (cT i) pc = .ok (.invokespecial x, 3)) (hC : CFSU (clsT i) x j n) (hci : ci < clT.length) (hp : popN n st [] = some (as, .ref b :: r)) (hr : rcvG G σ b ci = true) (h100 : ci < 100) (hs : csum r ≤ 8) :
    RunAt l S0 D dA p e R s m args below meth c d j pc (.ref b :: as) st r σ := by
  intro d' hd' H locs lsA hR hsz Qc XC mc ms cells slots hM hf
  obtain ⟨⟨w1, w2, w3, w4, w5⟩, hh, hnm, w6, w9, w10, w7⟩ := hC
  obtain ⟨xs, x1, x2, x3⟩ := popN_ok hp
  rw [List.append_nil] at x2
  subst x2
  have hc1 := codeW_nil hh
  have f1 := F.2.2.2.2.2.2.2.2.2.2.1
  have f2 := F.2.2.2.2.2.2.2.2.2.2.2.1
  have hK : va_K D clT [] s := va_K.moved F.alike K0
  have hcl : clT[ci]? = some clT[ci] := List.getElem?_eq_getElem hci
  have hat := (hK.1 ci _ hcl).2
  have hcc : cellC ci = clT[ci].1 := by
    unfold cellC
    rw [if_pos h100, List.getD_eq_getElem?_getD, hcl]
    rfl
  have hp9 := F.preV K0 R0 hR hr as
  rw [hcc] at hp9
  exact vx_runSU hat ⟨F.1, F.2.1, F.2.2.1, F.own, F.hts⟩ hM ⟨⟨rfl, rfl, by show d' + 8 + 1 ≤ _; omega, by show 8 + (entT j + 11) + (100 + 60 * d') ≤ _; omega, F.keep w1, by rw [hc1]; exact List.mem_cons_self⟩, F.hts _ w6, F.hts _ w9, F.hts _ w10, F.hts _ w7, F.hts _ w2, by rw [← hc1]; exact F.hts _ w1, hnm, prm w4⟩ hp9 rfl x1 (hsz.trans F.2.2.1) x3 (st8 hs _ _) hd hf
/-- Object's constructor -/
def ObOK (k x : Nat) : Prop := Cond.methodLink (ownT k) x Lib.objectInit ∈ TBg ∧ Cond.instanceMethod Lib.objectInit ∈ TBg ∧ Cond.code Lib.objectInit ⟨#[0xb1]⟩ 1 none ∈ TBg
theorem k_objinit (F : Fr S0 p R s m args meth c i d n0 k0) {x b : Nat} (hO : ObOK (clsT i) x) (hd : decode (cT i) pc = .ok (.invokespecial x, 3)) (hs : csum st ≤ 8) (k : K_ l S0 D dA p e R s m args below meth c Q i n0 k0 (pc + 3) ls st σ) : K_ l S0 D dA p e R s m args below meth c Q i n0 k0 pc ls (.ref b :: st) σ := by
  intro H locs lsA h1 h2 h3 h4 h5
  have f1 := F.2.2.2.2.2.2.2.2.2.2.1
  have f2 := F.2.2.2.2.2.2.2.2.2.2.2.1
  have f3 := st8 (m := m) (pc := pc) hs lsA (.ref b :: st)
  refine W.objInit F.1 F.2.1 F.own (F.hts _ hO.1) (F.hts _ hO.2.1) (F.hts _ hO.2.2) rfl (by rw [F.2.2.1]; exact h3.2.1) rfl hd (by omega) (by omega) ?_
  exact k H locs lsA h1 h2 h3 h4 h5
end
