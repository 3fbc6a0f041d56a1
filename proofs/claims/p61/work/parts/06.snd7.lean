/-! SOUNDNESS, part 7: the throw of the program, at its site. -/
def exNm : List MethodName := [⟨"java/lang/RuntimeException", "<init>", "(Ljava/lang/String;)V"⟩, ⟨"java/lang/Exception", "<init>", "(Ljava/lang/String;)V"⟩, ⟨"java/lang/Throwable", "<init>", "(Ljava/lang/String;)V"⟩]
def isCodeOf (y : MethodName) (w : Cond) : Bool := match w with
  | .code y' _ _ _ => decide (y' = y)
  | _ => false
theorem exNm_in : ∀ q ∈ exL, ∀ y ∈ exNm, (exWs q).any (isCodeOf y) = true ∧ Cond.instanceMethod y ∈ exWs q := by decide +kernel
section
variable {l : Launch} {S0 : State} {D : va_G} {dA : FieldType → ClassId} {p : Program} {e : Env} {R : Room} {s : State} {m : MethodId} {args : Array Value} {below : List Frame} {meth : Method} {c : Code} {Q : State → Prop} {i d n0 k0 : Nat}
variable {pc : Nat} {ls : Lo} {st : List Value} {σ : St}
theorem ex_hat (F : Fr S0 p R s m args meth c i d n0 k0) (X0 : ExEnv l S0) (TW : ThrWords) {q : Nat × String} (hq : q ∈ exL) : ∀ w ∈ exAt q, w.before args s = true := by
  have hg : ∀ w ∈ exWs q, w.before args s = true := fun w hw => F.hts w (TW q hq w hw)
  refine vx_hat (B := exBad q.2) (fun w hw => ?_) (exBad_in q hq) ?_
  · refine hg w ?_
    unfold exWs
    obtain ⟨h1, h2⟩ := List.mem_filter.mp hw
    exact List.mem_filter.mpr ⟨List.mem_cons_of_mem _ (List.mem_cons_of_mem _ h1), h2⟩
  · have hd : ∀ y ∈ exNm, (Cond.declares y).before args s = true := by
      intro y hy
      obtain ⟨h1, h2⟩ := exNm_in q hq y hy
      obtain ⟨w, hw, hw2⟩ := List.any_eq_true.mp h1
      cases w <;> first | (cases hw2; done) | skip
      rename_i y' b mm ret
      have hy' : y' = y := by simpa [isCodeOf] using hw2
      subst hy'
      exact decl_of (hg _ h2) (hg _ hw)
    obtain ⟨c0, hc0⟩ := X0.2.2.2.1 q hq
    exact vx_c (hd _ (by simp [exNm])) (vx_c (hd _ (by simp [exNm])) (vx_c (hd _ (by simp [exNm])) (vx_c (cast_self (c := c0) (by rw [F.alike.findClass]; exact hc0)) vx_n)))
/-- the site of a throw -/
def ThrSite (i pc : Nat) (q : Nat × String) : Prop := clsT i = 1 ∧ hhT i = [] ∧ ∃ sx : Nat, sx ∈ exStr ∧
  ((decode (cT i) (pc + 3) = .ok (.dup, 1) ∧ decode (cT i) (pc + 4) = .ok (.ldc sx, 2) ∧ decode (cT i) (pc + 6) = .ok (.invokespecial (q.1 + 4), 3) ∧ decode (cT i) (pc + 9) = .ok (.athrow, 1)) ∨
   (decode (cT i) (pc + 3) = .ok (.dup, 1) ∧ decode (cT i) (pc + 4) = .ok (.ldc_w sx, 3) ∧ decode (cT i) (pc + 7) = .ok (.invokespecial (q.1 + 4), 3) ∧ decode (cT i) (pc + 10) = .ok (.athrow, 1)))
set_option maxHeartbeats 4000000 in
theorem w_thr (F : Fr S0 p R s m args meth c i d n0 k0) (X0 : ExEnv l S0) (TW : ThrWords) {q : Nat × String} (hq : q ∈ exL) (hd : decode (cT i) pc = .ok (.new q.1, 3)) (hS : ThrSite i pc q) (hcs : csum st ≤ 8)
    {H : Heap} {locs : List Loc} {lsA : Array Slot} (h1 : Rep S0 D dA σ H) (h2 : ∀ z ∈ locs, freeB S0 z.base) (h3 : LR i ls lsA) (h4 : n0 ≤ σ.2.1) (h5 : k0 ≤ σ.2.2)
    {Qc : Array Value → State → Outcome → State → Prop} {XC : String → State → State → Prop} {mc ms : Nat} (hr1 : σ.2.1 + 1 ≤ n0 + R.cells) (hr2 : σ.2.2 + 6 ≤ k0 + R.slots)
    (hx : ∀ t : State, Rep S0 D dA (wexc σ) t.heap → XC q.2 s t) (hc : σ.2.1 - n0 + 1 ≤ mc) (hs : σ.2.2 - k0 + 6 ≤ ms) :
    W p l e R s m args below meth c H locs (σ.2.1 - n0) (σ.2.2 - k0) (vx_MQ below Qc XC args s mc ms (freeB S0)) (F0 m pc lsA st) := by
  have n1 : exUp.length + 4 < R.frames := by
    have hup : exUp.length = 1 := rfl
    have f1 := F.2.2.2.2.2.2.2.2.2.2.1
    rw [hup]; omega
  have n2 : (st.map fun v => v.category).sum + (13 * (exUp.length + 2) + 43) ≤ R.locals := by
    have hup : exUp.length = 1 := rfl
    have f2 := F.2.2.2.2.2.2.2.2.2.2.2.1
    have hcs' : (st.map fun v => v.category).sum ≤ 8 := by rw [csum_eq]; exact hcs
    rw [hup]; omega
  have n3 : σ.2.1 - n0 + 1 ≤ R.cells := by omega
  have n4 : σ.2.2 - k0 + 6 ≤ R.slots := by omega
  obtain ⟨hk, hh, sx, hsx, hsite⟩ := hS
  obtain ⟨tx, sa, hstr⟩ := X0.2.2.2.2.2 sx hsx
  have f1 := F.2.2.2.2.2.2.2.2.2.2.1
  have f2 := F.2.2.2.2.2.2.2.2.2.2.2.1
  obtain ⟨g1, g2, g3⟩ := F.2.2.2.2.2.2.2.2.2.2.2.2
  have hown : s.vm.findClass exOwn = some m.cls := by
    have := F.own
    rw [hk] at this
    exact this
  have hW := F.2.2.2.2.2.2.2.2.2.1
  have hz : H.size = σ.2.1 := h1.1
  have hgw : ∀ w ∈ exWs q, w.before args s = true := fun w hw => F.hts w (TW q hq w hw)
  have hSS : va_S (freeB S0) s.heap H locs := ⟨by omega, fun a ha hn => by
    have hb : a < S0.heap.size := Nat.lt_of_not_le hn
    rw [h1.2.2.1 a hb, g3 a hb], h2⟩
  have hZq : ∀ {C n dd : String}, vx_Zq C n dd (freeB S0) S0 S0.heap → vx_Zq C n dd (freeB S0) s s.heap := fun h => vx_Zq.moved F.alike (h.kept fun a ha _ => g3 a ha)
  have hkl : (Cond.classLink exOwn q.1 q.2).before args s = true := by
    refine hgw _ (List.mem_filter.mpr ⟨List.mem_cons_self, rfl⟩)
  have hin : (Cond.initialized q.2).before args s = true := by
    refine hgw _ (List.mem_filter.mpr ⟨List.mem_cons_of_mem _ List.mem_cons_self, rfl⟩)
  have hout : ∀ (n : Nat), ∀ x ∈ c.exceptionTable.toList, covers x n = false := by
    intro n x hx
    have hi0 : 0 < i := by
      rcases Nat.eq_zero_or_pos i with h | h
      · subst h; exact absurd hk (by decide)
      · exact h
    rw [F.2.2.2.2.2.2.2.2.1 hi0, hh] at hx
    cases hx
  have hcs' : (st.map fun v => v.category).sum ≤ 8 := by rw [csum_eq]; exact hcs
  have hXC : ∀ t : State, s.vm.Alike t.vm → t.heap.size = H.size + 1 → (∀ a : Nat, a < H.size → t.heap[a]? = H[a]?) → XC q.2 s t := fun t _ e1 e2 => hx t (h1.garb e1 e2)
  rcases hsite with ⟨d3, d4, d6, d9⟩ | ⟨d3, d4, d6, d9⟩
  · exact th_S (A := freeB S0) (own := exOwn) (cls := q.2) (Y1 := exRt) (names := exUp) (ik := q.1) (ic := q.1 + 4) (ix := exIx q) (bts := exBt q) F.1 F.2.1 X0.1 hown (exCtl q hq).1 (exCtl q hq).2.1 (exCtl q hq).2.2 (exDec q hq).1 (exDec q hq).2.1 (exDec q hq).2.2.1 (exDec q hq).2.2.2 hkl hin (vk_R.warm hW hstr) (ex_hat F X0 TW hq) (exGood_in q hq) (hZq X0.2.1) (hZq X0.2.2.1) hSS (h3.2.1.trans F.2.2.1.symm) hd d3 d4 d6 d9 (hout _) n1 n2 n3 n4 F.2.2.2.2.2.2.1 hXC h2 hc hs
  · exact th_W (A := freeB S0) (own := exOwn) (cls := q.2) (Y1 := exRt) (names := exUp) (ik := q.1) (ic := q.1 + 4) (ix := exIx q) (bts := exBt q) F.1 F.2.1 X0.1 hown (exCtl q hq).1 (exCtl q hq).2.1 (exCtl q hq).2.2 (exDec q hq).1 (exDec q hq).2.1 (exDec q hq).2.2.1 (exDec q hq).2.2.2 hkl hin (vk_R.warm hW hstr) (ex_hat F X0 TW hq) (exGood_in q hq) (hZq X0.2.1) (hZq X0.2.2.1) hSS (h3.2.1.trans F.2.2.1.symm) hd d3 d4 d6 d9 (hout _) n1 n2 n3 n4 F.2.2.2.2.2.2.1 hXC h2 hc hs
end
