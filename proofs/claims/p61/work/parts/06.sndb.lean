/-! SOUNDNESS, part 11: the theorem. -/
section
variable {l : Launch} {S0 : State} {D : va_G} {dA : FieldType → ClassId}
/-- what the frame owes at the end of the run with the result r -/
def EndOK (l : Launch) (S0 : State) (D : va_G) (dA : FieldType → ClassId) (p : Program) (e : Env) (R : Room) (s : State) (m : MethodId) (args : Array Value) (below : List Frame) (meth : Method) (c : Code) (Q : State → Prop) (i n0 k0 : Nat) (r : Out × St) : Prop := match r.1 with
  | .inl v => ∀ (pc : Nat) (st : List Value) (H : Heap) (locs : List Loc) (lsA : Array Slot), retM i pc st v → Rep S0 D dA r.2 H → (∀ z ∈ locs, freeB S0 z.base) → lsA.size = entT i → n0 ≤ r.2.2.1 → k0 ≤ r.2.2.2 → W p l e R s m args below meth c H locs (r.2.2.1 - n0) (r.2.2.2 - k0) Q (F0 m pc lsA st)
  | .inr E => (∀ (pc : Nat) (ls : Lo) (st : List Value) (σ : St) (x : Nat) (H : Heap) (locs : List Loc) (lsA : Array Slot), (x, E) ∈ exL → decode (cT i) pc = .ok (.new x, 3) → ThrSite i pc (x, E) → csum st ≤ 8 → r.2 = wexc σ → Rep S0 D dA σ H → (∀ z ∈ locs, freeB S0 z.base) → LR i ls lsA → n0 ≤ σ.2.1 → k0 ≤ σ.2.2 →
      W p l e R s m args below meth c H locs (σ.2.1 - n0) (σ.2.2 - k0) Q (F0 m pc lsA st)) ∧
    (∀ (pc : Nat) (st : List Value) (H : Heap) (locs : List Loc) (lsA : Array Slot) (a : Nat) (ce : Cell), hnd i pc E = none → (∃ x, (x, E) ∈ exL) → Rep S0 D dA r.2 H → (∀ z ∈ locs, freeB S0 z.base) → H[a]? = some ce → ce.vm = .none → s.vm.findClass E = some ce.cls → n0 ≤ r.2.2.1 → k0 ≤ r.2.2.2 →
      vx_W p l e R s m args below meth c H locs (r.2.2.1 - n0) (r.2.2.2 - k0) Q (F0 m pc lsA st) a)
def Mot (l : Launch) (S0 : State) (D : va_G) (dA : FieldType → ClassId) (d i pc : Nat) (ls : Lo) (st : List Value) (σ : St) (r : Out × St) : Prop := leS σ r.2 ∧ (∀ E, r.1 = .inr E → ∃ x, (x, E) ∈ exL) ∧
  ∀ (p : Program) (e : Env) (R : Room) (s : State) (m : MethodId) (args : Array Value) (below : List Frame) (meth : Method) (c : Code) (Q : State → Prop) (n0 k0 : Nat), i < nmT → Fr S0 p R s m args meth c i d n0 k0 → r.2.2.1 ≤ n0 + R.cells → r.2.2.2 ≤ k0 + R.slots →
    EndOK l S0 D dA p e R s m args below meth c Q i n0 k0 r → K_ l S0 D dA p e R s m args below meth c Q i n0 k0 pc ls st σ
def QcR (S0 : State) (D : va_G) (dA : FieldType → ClassId) (r : Out × St) : Array Value → State → Outcome → State → Prop := fun _ _ o t => ∃ v, r.1 = .inl v ∧ o = .returned v ∧ Rep S0 D dA r.2 t.heap
def XcR (S0 : State) (D : va_G) (dA : FieldType → ClassId) (r : Out × St) : String → State → State → Prop := fun E _ t => r.1 = .inr E ∧ Rep S0 D dA r.2 t.heap
theorem nc_at {S0 : State} {s : State} (hv : S0.vm.Alike s.vm) {a b : String} (h : va_Nc a b S0) : va_Nc a b s := by
  obtain ⟨c, t, h1, h2, h3⟩ := h
  exact ⟨c, t, by rw [hv.findClass]; exact h1, by rw [hv.findClass]; exact h2, by rw [hv.assignable]; exact h3⟩
theorem thr_pass {G : Glb} (E0 : EnvOK l S0 D dA G) {s : State} {args : Array Value} (hts : ∀ w ∈ TBg, w.before args s = true) (hv : S0.vm.Alike s.vm) {i pc : Nat} {E : String} (hE : ∃ x, (x, E) ∈ exL) {z : ExceptionTableEntry}
    (h : covers z pc = false ∨ (z.catchType ≠ 0 ∧ ∃ nm : String, Cond.classLink (ownT (clsT i)) z.catchType nm ∈ TBg ∧ E ≠ nm ∧ ∃ y, (y, nm) ∈ exL ∧ y ≠ 274)) :
    covers z pc = false ∨ (z.catchType ≠ 0 ∧ ∃ nm : String, (Cond.classLink (ownT (clsT i)) z.catchType nm).before args s = true ∧ va_Nc E nm s) := by
  rcases h with h | ⟨h0, nm, h1, h2, y, h3⟩
  · exact Or.inl h
  · obtain ⟨x, hx⟩ := hE
    exact Or.inr ⟨h0, nm, hts _ h1, nc_at hv (E0.2.2.2.2.2.2.2.1 _ hx _ h3.1 h3.2 h2)⟩
/-- the end of a method that is called by a contract -/
theorem end_met (T : TabOK) (T2 : TabOK2) {G : Glb} (E0 : EnvOK l S0 D dA G) {p : Program} {e : Env} {R : Room} {s : State} {m : MethodId} {args : Array Value} {below : List Frame} {meth : Method} {c : Code} {i d n0 k0 : Nat} (hi0 : 0 < i) (hi : i < nmT) (F : Fr S0 p R s m args meth c i d n0 k0) {r : Out × St}
    (hr1 : r.2.2.1 ≤ n0 + R.cells) (hr2 : r.2.2.2 ≤ k0 + R.slots) : EndOK l S0 D dA p e R s m args below meth c (vx_MQ below (QcR S0 D dA r) (XcR S0 D dA r) args s (r.2.2.1 - n0) (r.2.2.2 - k0) (freeB S0)) i n0 k0 r := by
  have hlocks := F.2.2.2.2.2.2.1
  have hret := F.2.2.2.2.2.1
  unfold EndOK
  rcases r with ⟨v | E, σ'⟩
  · intro pc st H locs lsA hM hR hf _ _ _
    have hq : ∀ t : State, t.heap = H → s.WarmedH t.vm → QcR S0 D dA (.inl v, σ') args s (.returned v) t := fun t ht _ => ⟨v, rfl, rfl, by rw [ht]; exact hR⟩
    unfold retM at hM
    cases v with
    | none =>
      obtain ⟨h1, h2, rfl⟩ := hM
      exact vx_ret (W.vret F.1 F.2.1 (hret.trans h2) hq hf h1 hlocks)
    | some v =>
      cases v with
      | int x =>
        obtain ⟨h1, rfl, ty, h2, h3⟩ := hM
        exact vx_ret (W.zret F.1 F.2.1 (hret.trans h2) h3 hq hf h1 hlocks)
      | float x =>
        obtain ⟨h1, rfl, h2⟩ := hM
        exact vx_ret (W.fret F.1 F.2.1 (hret.trans h2) hq hf h1 hlocks)
      | double x =>
        obtain ⟨h1, rfl, h2⟩ := hM
        exact vx_ret (W.dret F.1 F.2.1 (hret.trans h2) hq hf h1 hlocks)
      | long x =>
        obtain ⟨h1, rfl, h2⟩ := hM
        exact vx_ret (W.lret F.1 F.2.1 (hret.trans h2) hq hf h1 hlocks)
      | ref x =>
        obtain ⟨h1, rfl, ty, h2, h3⟩ := hM
        exact vx_ret (W.aret F.1 F.2.1 (hret.trans h2) h3 (Or.inr ⟨x, rfl⟩) hq hf h1 hlocks)
      | null =>
        obtain ⟨h1, rfl, n, h2⟩ := hM
        exact vx_ret (W.aret F.1 F.2.1 (hret.trans h2) (Or.inl ⟨n, rfl⟩) (Or.inl rfl) hq hf h1 hlocks)
      | _ => exact hM.elim
  · refine ⟨?_, ?_⟩
    · intro pc ls st σ x H locs lsA hx hd hS hcs hσ hR hf hL hn hk
      have hσ' : σ' = wexc σ := hσ
      subst hσ'
      have hr1' : σ.2.1 + 1 ≤ n0 + R.cells := hr1
      have hr2' : σ.2.2 + 6 ≤ k0 + R.slots := hr2
      refine w_thr F E0.2.2.2 T.2.2.2.2.2.2.2.2.2.2.2.2.2.1 hx hd hS hcs hR hf hL hn hk hr1' hr2' (fun t ht => ⟨rfl, ht⟩) ?_ ?_
      · show _ ≤ σ.2.1 + 1 - n0
        omega
      · show _ ≤ σ.2.2 + 6 - k0
        omega
    · intro pc st H locs lsA a ce hh hE hR hf hc hv hcl _ _
      have hM := T2.2.2.1 i hi
      have hfn : hfind pc E (hndT i) = none := by
        cases h9 : hfind pc E (hndT i) with
        | none => rfl
        | some hp =>
          exfalso
          obtain ⟨-, -, -, -, -, -, -, -, -, hst9⟩ := hfind_ok hM h9
          obtain ⟨pc', n, h8, -⟩ := hst9
          unfold hnd at hh
          rw [h9] at hh
          simp [h8] at hh
      have hpass := hfind_no hM hfn
      refine vx_outP F.own hlocks (fun z hz => ?_) hc hv hcl (fun t ht _ => ⟨rfl, by rw [ht]; exact hR⟩) hf (Nat.le_refl _) (Nat.le_refl _)
      rw [F.2.2.2.2.2.2.2.2.1 hi0] at hz
      exact thr_pass E0 F.hts F.alike hE (hpass z hz)
end
