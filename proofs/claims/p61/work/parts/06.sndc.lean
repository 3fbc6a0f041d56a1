/-! SOUNDNESS, part 12: the contract of a method from its run, and the run. -/
section
variable {l : Launch} {S0 : State} {D : va_G} {dA : FieldType → ClassId}
theorem ctr_of (T : TabOK) (T2 : TabOK2) {G : Glb} (E0 : EnvOK l S0 D dA G) {d j : Nat} {as : List Value} {σ : St} {r : Out × St} (hj0 : 0 < j) (hjm : j < nmT) (hle : as.length ≤ entT j) (hc1 : cat1s as = true) (hM : Mot l S0 D dA d j 0 (entry (entT j) as) [] σ r) :
    Ctr l S0 D dA j d as σ (QcR S0 D dA r) (XcR S0 D dA r) (r.2.2.1 - σ.2.1) (r.2.2.2 - σ.2.2) := by
  obtain ⟨hpl, hcls, -⟩ := T2.2.1 j hj0 hjm
  have key : ∀ (p : Program) (e : Env) (s : State) (m : MethodId) (args : Array Value) (below : List Frame) (meth : Method) (c : Code), p.tables.exec = Jvm.exec → c.code = cT j → c.maxLocals = entT j → s.methodNamed? (yT j) = some m → s.vm.method? m = some meth → (∀ w ∈ TBg, w.before args s = true) →
      meth.sig.returnType = retT j → meth.locks = false → c.exceptionTable.toList = tableOf (hhT j) → PcF S0 D dA σ as args s →
      W p l e (rmF d (r.2.2.1 - σ.2.1) (r.2.2.2 - σ.2.2)) s m args below meth c s.heap [] 0 0 (vx_MQ below (QcR S0 D dA r) (XcR S0 D dA r) args s (r.2.2.1 - σ.2.1) (r.2.2.2 - σ.2.2) (freeB S0)) (entryFrame m args (entT j)) := by
    intro p e s m args below meth c h1 h2 h3 h4 h5 h6 h7 h8 h9 ⟨ha, hW, hR⟩
    subst ha
    have F : Fr S0 p (rmF d (r.2.2.1 - σ.2.1) (r.2.2.2 - σ.2.2)) s m as.toArray meth c j d σ.2.1 σ.2.2 :=
      ⟨h1, h2, h3, by rw [← hcls]; exact findClass_of_methodNamed h4, h6, h7, h8, fun _ => (name_of_methodNamed h4 h5).1, fun _ => h9, hW, Nat.le_refl _, Nat.le_refl _, hR.1, hR.2.1, hR.2.2.1⟩
    have m1 : σ.2.1 ≤ r.2.2.1 := hM.1.1
    have m2 : σ.2.2 ≤ r.2.2.2 := hM.1.2
    have q1 : r.2.2.1 ≤ σ.2.1 + (rmF d (r.2.2.1 - σ.2.1) (r.2.2.2 - σ.2.2)).cells := by
      show _ ≤ σ.2.1 + (r.2.2.1 - σ.2.1)
      omega
    have q2 : r.2.2.2 ≤ σ.2.2 + (rmF d (r.2.2.1 - σ.2.1) (r.2.2.2 - σ.2.2)).slots := by
      show _ ≤ σ.2.2 + (r.2.2.2 - σ.2.2)
      omega
    have K := hM.2.2 p e _ s m as.toArray below meth c _ σ.2.1 σ.2.2 hjm F q1 q2 (end_met T T2 E0 hj0 hjm F q1 q2) s.heap [] _ hR (fun z hz => nomatch hz) (LR_entry hle hc1) (Nat.le_refl _) (Nat.le_refl _)
    rw [Nat.sub_self, Nat.sub_self] at K
    rw [lg_entry_eq]
    exact K
  unfold Ctr
  by_cases hh : hhT j = []
  · refine vx_ofW hpl (show _ = Cond.code (yT j) (cT j) (entT j) (retT j) :: TBg by rw [codeW_nil hh]) ?_
    intro p e s m args below meth c s₁ B hml ht hP
    refine key p e s m args below meth c B.exec B.bytes hml B.named B.method (fun w hw => atoms_spec B.pre w (List.mem_cons_of_mem _ hw)) B.returns B.notSynchronized ?_ hP
    rw [hh]
    cases h9 : c.exceptionTable.toList with
    | nil => rfl
    | cons x t => exact (ht x (by rw [h9]; exact List.mem_cons_self)).elim
  · refine vx_ofWH hpl (show _ = Cond.codeWith (yT j) (cT j) (entT j) (retT j) (hhT j) :: TBg by rw [codeW_cons hh]) ?_
    intro p e s m args below meth c s₁ B hml hP
    refine key p e s m args below meth c B.exec B.bytes hml B.named B.method (fun w hw => atoms_spec B.pre w (List.mem_cons_of_mem _ hw)) B.returns B.notSynchronized ?_ hP
    refine vx_table (x := yT j) B (?_ : (Cond.codeWith (yT j) (cT j) (entT j) (retT j) (hhT j)).before args s = true)
    rw [← codeW_cons hh]
    exact atoms_spec B.pre _ List.mem_cons_self
/-- **the abstract machine is sound** -/
theorem run_sound (T : TabOK) (T2 : TabOK2) {G : Glb} (E0 : EnvOK l S0 D dA G) (d i pc : Nat) (ls : Lo) (st : List Value) (σ : St) (r : Out × St) (h : run G d i pc ls st σ = some r) : Mot l S0 D dA d i pc ls st σ r := by
  refine run.partial_correctness G (fun d i pc ls st σ r => Mot l S0 D dA d i pc ls st σ r) ?_ d i pc ls st σ r h
  clear h r σ st ls pc i d
  intro f IH d i pc ls st σ r h
  obtain ⟨nx, h1, h2⟩ := Option.bind_eq_some_iff.mp h
  obtain ⟨q, hq, hs⟩ := Option.bind_eq_some_iff.mp h1
  have hm := sem_mono T hq hs
  rcases nx with ⟨pc', ls', st', σ'⟩ | ⟨o, σ'⟩ | ⟨j, as, pc', ls', rest, σ'⟩
  · simp only at h2
    have I := IH _ _ _ _ _ _ _ h2
    have hm' : leS σ σ' := hm
    refine ⟨hm'.trans I.1, I.2.1, ?_⟩
    intro p e R s m args below meth c Q n0 k0 hi F hr1 hr2 hE
    have m1 := I.1.1
    have m2 := I.1.2
    exact sem_sound T T2 E0 F hq hs ⟨⟨by omega, by omega⟩, I.2.2 p e R s m args below meth c Q n0 k0 hi F hr1 hr2 hE⟩
  · simp only at h2
    cases h2
    rcases o with v | E
    · have hm' : leS σ σ' := hm
      refine ⟨hm', (fun E h => by cases h), ?_⟩
      intro p e R s m args below meth c Q n0 k0 hi F hr1 hr2 hE
      refine sem_sound T T2 E0 F hq hs ?_
      intro hσ hret H locs lsA hR hf hL hn hk
      subst hσ
      exact hE pc st H locs lsA hret hR hf hL.2.1 hn hk
    · have hm' : leS σ σ' ∧ ∃ x, (x, E) ∈ exL := hm
      refine ⟨hm'.1, (fun E h => by cases h; exact hm'.2), ?_⟩
      intro p e R s m args below meth c Q n0 k0 hi F hr1 hr2 hE
      refine sem_sound T T2 E0 F hq hs ?_
      intro x hx hd hS hcs hσ H locs lsA hR hf hL hn hk
      exact hE.1 pc ls st σ x H locs lsA hx hd hS hcs hσ hR hf hL hn hk
  · simp only at h2
    cases d with
    | zero => cases h2
    | succ d' =>
      simp only at h2
      obtain ⟨r1, h3, h4⟩ := Option.bind_eq_some_iff.mp h2
      have I1 := IH _ _ _ _ _ _ _ h3
      have hm' : leS σ σ' := hm
      -- what comes after the call
      have after : leS r1.2 r.2 ∧ (∀ E, r.1 = .inr E → ∃ x, (x, E) ∈ exL) := by
        rcases r1 with ⟨v | E, σ1⟩
        · obtain ⟨st', h5, h6⟩ := Option.bind_eq_some_iff.mp h4
          have I2 := IH _ _ _ _ _ _ _ h6
          exact ⟨I2.1, I2.2.1⟩
        · simp only at h4
          split at h4
          · have I2 := IH _ _ _ _ _ _ _ h4
            exact ⟨I2.1, I2.2.1⟩
          · cases h4
            exact ⟨leS.rfl, I1.2.1⟩
      refine ⟨(hm'.trans I1.1).trans after.1, after.2, ?_⟩
      intro p e R s m args below meth c Q n0 k0 hi F hr1 hr2 hE
      refine sem_sound T T2 E0 F hq hs ?_
      intro hpc hls hσ hj0 hjm hle hc1 hRun H locs lsA hR hf hL hn hk
      subst hpc hls hσ
      have hCtr := ctr_of T T2 E0 hj0 hjm hle hc1 I1
      have a1 := I1.1.1
      have a2 := I1.1.2
      have a3 := after.1.1
      have a4 := after.1.2
      have hrun := hRun d' rfl H locs lsA hR (by rw [F.2.2.1]; exact hL.2.1) _ _ _ _ (σ'.2.1 - n0) (σ'.2.2 - k0) hCtr ⟨by omega, by omega⟩
      have e1 : σ'.2.1 - n0 + (r1.2.2.1 - σ'.2.1) = r1.2.2.1 - n0 := by omega
      have e2 : σ'.2.2 - k0 + (r1.2.2.2 - σ'.2.2) = r1.2.2.2 - k0 := by omega
      unfold vx_Run at hrun
      rw [e1, e2] at hrun
      have hlocs : ∀ L : List Loc, (∀ z ∈ L, freeB S0 z.base) → ∀ z ∈ locs ++ L, freeB S0 z.base := by
        intro L hLL z hz
        rcases List.mem_append.mp hz with h9 | h9
        · exact hf z h9
        · exact hLL z h9
      intro T0 hT0 X
      rcases hrun T0 hT0 X with ⟨v, st₀, t, T', L, h0, X', hL', f1, f2, ⟨v', hv1, hv2, hRt⟩, st9⟩ | ⟨a, st₀, t, T', L, E, ce, h0, X', hL', f1, f2, ⟨hE1, hRt⟩, hce, hcv, hcl, st9⟩
      · rcases r1 with ⟨o1, σ1⟩
        simp only at hv1
        subst hv1
        cases hv2
        obtain ⟨st', h5, h6⟩ := Option.bind_eq_some_iff.mp h4
        have I2 := IH _ _ _ _ _ _ _ h6
        have K := I2.2.2 p e R s m args below meth c Q n0 k0 hi F hr1 hr2 hE T'.heap (locs ++ L) lsA (by rw [f1]; exact hRt) (hlocs L hL') hL (by simp only at a1 ⊢; omega) (by simp only at a2 ⊢; omega) T' rfl X'
        obtain ⟨t2, b1, b2⟩ := K
        rw [pushR_ok h5] at b1
        exact ⟨t2, st9 t2 b1, b2⟩
      · rcases r1 with ⟨o1, σ1⟩
        simp only at hE1
        subst hE1
        have hEx := I1.2.1 E rfl
        have hM := T2.2.2.1 i hi
        simp only at h4
        cases hh : hnd i pc E with
        | none =>
          rw [hh] at h4
          cases h4
          obtain ⟨t2, b1, b2⟩ := hE.2 pc rest T'.heap (locs ++ L) lsA a ce hh hEx (by rw [f1]; exact hRt) (hlocs L hL') (by rw [f1]; exact hce) hcv hcl (by simp only at a1 ⊢; omega) (by simp only at a2 ⊢; omega) T' rfl X'
          exact ⟨t2, st9.trans b1, b2⟩
        | some hp =>
          rw [hh] at h4
          obtain ⟨hp1, g1, g2⟩ := Option.bind_eq_some_iff.mp (show (hfind pc E (hndT i)).bind (hst i) = some hp from hh)
          obtain ⟨pre, x, suf, k1, k2, k3, k4, k5, k6, pc9, n9, k7, k8⟩ := hfind_ok hM g1
          cases k7.symm.trans g2
          have hne : hhT i ≠ [] := by
            intro h9
            rw [h9] at k1
            cases pre <;> cases k1
          have htw : twoT i = false := by
            cases h9 : twoT i with
            | false => rfl
            | true => exact absurd (T2.2.2.2 i h9) hne
          have hi0 : 0 < i := by
            rcases Nat.eq_zero_or_pos i with h9 | h9
            · subst h9; exact absurd rfl hne
            · exact h9
          have I2 := IH _ _ _ _ _ _ _ h4
          have K := I2.2.2 p e R s m args below meth c Q n0 k0 hi F hr1 hr2 hE
          have hln : n9 < ls'.length := by rw [hL.1]; exact k8
          -- the store of the caught exception
          have hstore : W p l e R s m args below meth c T'.heap (locs ++ L) (σ1.2.1 - n0) (σ1.2.2 - k0) Q (F0 m x.handlerPc lsA [.ref a]) := by
            rw [k6]
            unfold hst at g2
            split at g2
            · rename_i n len hi9
              cases g2
              obtain ⟨hd9, hl9⟩ := T.1 _ _ _ _ hi9
              obtain rfl := len_of (by decide) (show 2 = 0 ∨ 2 = len from hl9)
              exact lv_astore F.1 F.2.1 hd9 hL.has k8 rfl (fun lsA' h9 => K T'.heap (locs ++ L) lsA' (by rw [f1]; exact hRt) (hlocs L hL') (hL.st0 htw hln h9) (by simp only at a1 ⊢; omega) (by simp only at a2 ⊢; omega))
            · rename_i n len hi9
              cases g2
              obtain ⟨hd9, hl9⟩ := T.1 _ _ _ _ hi9
              obtain rfl := len_of (by decide) (show 1 = 0 ∨ 1 = len from hl9)
              exact lv_astore_n F.1 F.2.1 hd9 rfl hL.has k8 rfl (fun lsA' h9 => K T'.heap (locs ++ L) lsA' (by rw [f1]; exact hRt) (hlocs L hL') (hL.st0 htw hln h9) (by simp only at a1 ⊢; omega) (by simp only at a2 ⊢; omega))
            · cases g2
          have hcatch := vx_catch (rest := rest) (pc := pc) F.own pre x suf (by rw [F.2.2.2.2.2.2.2.2.1 hi0]; exact k1) (fun z hz => thr_pass E0 F.hts F.alike hEx (k2 z hz)) k3 k4 (F.hts _ k5)
            (cast_self hcl) (by rw [f1]; exact hce : T'.heap[a]? = some ce) hcv hcl hstore
          obtain ⟨t2, b1, b2⟩ := hcatch T' rfl X'
          exact ⟨t2, st9.trans b1, b2⟩
end
