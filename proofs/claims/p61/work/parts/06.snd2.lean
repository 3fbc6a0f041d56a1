/-! SOUNDNESS, part 2: the heap. -/
theorem celAt.kept {S0 : State} {D : va_G} {dA : FieldType → ClassId} {c : Cel} {q : Nat} {H H1 : Heap} (h : celAt S0 D dA c q H) (hq : H1[q]? = H[q]?) : celAt S0 D dA c q H1 := by
  rcases c with ⟨t, w, l⟩ | ⟨ci, fs⟩
  · cases w
    · exact h
    · obtain ⟨h1, h2, h3⟩ := h
      exact ⟨h1, by rw [hq]; exact h2, h3⟩
  · unfold celAt at h ⊢
    simp only at h ⊢
    split
    · rename_i h0
      rw [if_pos h0] at h
      exact ⟨h.1, h.2.1, h.2.2.kept hq⟩
    · rename_i h0
      rw [if_neg h0] at h
      exact h
theorem celAt.lt {S0 : State} {D : va_G} {dA : FieldType → ClassId} {c : Cel} {q : Nat} {H : Heap} (h : celAt S0 D dA c q H) (hB : S0.heap.size ≤ H.size) : q < H.size := by
  rcases c with ⟨t, w, l⟩ | ⟨ci, fs⟩
  · cases w
    · exact Nat.lt_of_lt_of_le h.1 hB
    · exact (Array.getElem?_eq_some_iff.mp h.2.1).1
  · unfold celAt at h
    simp only at h
    split at h
    · exact h.2.2.lt
    · exact Nat.lt_of_lt_of_le h.1 hB
theorem Rep.upd {S0 : State} {D : va_G} {dA : FieldType → ClassId} {σ : St} {H H1 : Heap} {a : Nat} {c : Cel} (h : Rep S0 D dA σ H) (ha : S0.heap.size ≤ a) (hz : H1.size = H.size) (ho : ∀ q : Nat, q ≠ a → H1[q]? = H[q]?) (hc : celAt S0 D dA c a H1) : Rep S0 D dA (wset σ a c) H1 := by
  refine ⟨hz.trans h.1, h.2.1, fun q hq => (ho q (by omega)).trans (h.2.2.1 q hq), fun q c' hq => ?_⟩
  have hq' : (if q = a then some c else σ.1 q) = some c' := hq
  by_cases hqa : q = a
  · rw [if_pos hqa] at hq'
    cases hq'
    rw [hqa]
    exact hc
  · rw [if_neg hqa] at hq'
    exact (h.2.2.2 q c' hq').kept (ho q hqa)
theorem Rep.push {S0 : State} {D : va_G} {dA : FieldType → ClassId} {σ : St} {H H1 : Heap} {c : Cel} {k : Nat} (h : Rep S0 D dA σ H) (hz : H1.size = H.size + 1) (ho : ∀ q : Nat, q < H.size → H1[q]? = H[q]?) (hc : celAt S0 D dA c H.size H1) : Rep S0 D dA (wall σ c k) H1 := by
  obtain ⟨h1, h2, h3, h4⟩ := h
  refine ⟨by rw [hz, h1]; rfl, Nat.le_succ_of_le h2, fun q hq => (ho q (by omega)).trans (h3 q hq), fun q c' hq => ?_⟩
  have hq' : (if q = σ.2.1 then some c else σ.1 q) = some c' := hq
  by_cases hqa : q = σ.2.1
  · rw [if_pos hqa] at hq'
    cases hq'
    rw [hqa, ← h1]
    exact hc
  · rw [if_neg hqa] at hq'
    have hl := (h4 q c' hq').lt (by omega)
    exact (h4 q c' hq').kept (ho q hl)
theorem Rep.garb {S0 : State} {D : va_G} {dA : FieldType → ClassId} {σ : St} {H H1 : Heap} (h : Rep S0 D dA σ H) (hz : H1.size = H.size + 1) (ho : ∀ q : Nat, q < H.size → H1[q]? = H[q]?) : Rep S0 D dA (wexc σ) H1 := by
  obtain ⟨h1, h2, h3, h4⟩ := h
  refine ⟨by rw [hz, h1]; rfl, Nat.le_succ_of_le h2, fun q hq => (ho q (by omega)).trans (h3 q hq), fun q c' hq => ?_⟩
  have hl := (h4 q c' hq).lt (by omega)
  exact (h4 q c' hq).kept (ho q hl)
theorem Rep.arr {S0 : State} {D : va_G} {dA : FieldType → ClassId} {σ : St} {H : Heap} {a : Nat} {t : FieldType} {w : Bool} {l : List Value} (h : Rep S0 D dA σ H) (ha : σ.1 a = some (.inl (t, w, l))) : ∃ cell : Cell, H[a]? = some cell ∧ S0.isArrayOf cell t ∧ cell.vm ≠ .unknown ∧ cell.slots.toList = l := by
  have h1 := h.2.2.2 a _ ha
  cases w
  · obtain ⟨h2, cell, h3, h4⟩ := h1
    exact ⟨cell, (h.2.2.1 a h2).trans h3, h4⟩
  · obtain ⟨h2, h3, -, h5, -⟩ := h1
    exact ⟨_, h3, h5 _ _, (fun z => by cases z), arrL_list ..⟩
theorem sl_get {cell : Cell} {l : List Value} {j : Nat} {v : Value} (h : cell.slots.toList = l) (hj : l[j]? = some v) : cell.slots[j]? = some v := by
  rw [← Array.getElem?_toList, h]; exact hj
theorem sl_in {cell : Cell} {l : List Value} {j : Int32} (h : cell.slots.toList = l) (h0 : ¬ j < 0) (hj : j.toNatClampNeg < l.length) : ¬ (j < 0 ∨ cell.slots.size ≤ j.toNatClampNeg) := by
  rw [← Array.length_toList, h]
  rintro (z | z)
  · exact h0 z
  · omega
theorem fits_nar {t : FieldType} {x : Int32} (h : isIty t = true) : fits t (narrow t (.int x)) = true := by
  cases t <;> first | (cases h; done) | rfl | skip
  · exact fits_narrow_byte x
  · exact (pk_charN (q := (x.toUInt32.toUInt16).toNat) (by have := UInt16.toNat_lt x.toUInt32.toUInt16; omega)).2 ▸ (by
      have e : narrow .char (.int x) = .int (nI (x.toUInt32.toUInt16).toNat) := by
        show Value.int x.toUInt32.toUInt16.toUInt32.toInt32 = _
        congr 1
        apply Int32.toBitVec_inj.mp
        apply BitVec.eq_of_toNat_eq
        simp [nI]
        have e2 : x.toUInt32.toNat = x.toBitVec.toNat := rfl
        omega
      rw [e])
  · exact pk_fs x
  · obtain ⟨j, hj, e⟩ := pk_andE x (m := 1) 1 (by decide)
    show fits .boolean (.int (x &&& 1)) = true
    rw [e]
    rcases (show j = 0 ∨ j = 1 by omega) with rfl | rfl <;> decide
/-- what the tables say of a field's row -/
def FldOK (k x ci f : Nat) (ty : FieldType) : Prop := ∃ r : vw_C, clT[ci]? = some r ∧ ci < 100 ∧ f < r.2.2 ∧ Cond.fieldLink (ownT k) x (r.2.1 f).1 (r.2.1 f).2.1 (r.2.1 f).2.2.1 ∈ TBg ∧ tyT ci f = ty ∧
  (pfT k x = some 0 → (r.2.1 f).2.2.2 = false) ∧ (∀ z, pfT k x = some (z + 1) → (r.2.1 f).2.2.2 = true ∧ (r.2.1 f).1 = ownT k)
def FldRo (k x ci f : Nat) : Prop := 100 ≤ ci ∧ Cond.fieldLink (ownT k) x (roF ci f).1 (roF ci f).2.1 (roF ci f).2.2 ∈ TBg ∧ pfT k x = none ∧ f < 9
/-- the program's read-only objects -/
def RoOK (S0 : State) (G : Glb) : Prop := ∀ ci a, 100 ≤ ci → (∀ (f : Nat) (v : Value), f < 9 → G (roK ci f) a = some v → va_OF (roF ci f).1 (roF ci f).2.1 (roF ci f).2.2 v a (freeB S0) S0 S0.heap) ∧
  ∀ v, G (roK ci 9) a = some v → ∃ cell : Cell, S0.heap[a]? = some cell ∧ cell.vm.isStatics = false ∧ S0.vm.findClass (roC ci) = some cell.cls
def ClsOK : Prop := ∀ (ci : Nat) (r : vw_C), clT[ci]? = some r → (∀ w ∈ u_ws r.1 r.2.1 r.2.2, w ∈ TBg) ∧ (∀ k, k < r.2.2 → parseFieldDescriptor (r.2.1 k).2.2.1 = some (tyT ci k)) ∧ (∀ a, a < r.2.2 → ∀ b, b < r.2.2 → a ≠ b → (r.2.1 a).2.1 ≠ (r.2.1 b).2.1)
section
variable {l : Launch} {S0 : State} {D : va_G} {dA : FieldType → ClassId} {p : Program} {e : Env} {R : Room} {s : State} {m : MethodId} {args : Array Value} {below : List Frame} {meth : Method} {c : Code} {Q : State → Prop} {i d n0 k0 : Nat}
variable {pc : Nat} {ls : Lo} {st : List Value} {σ : St}
theorem Fr.alike (F : Fr S0 p R s m args meth c i d n0 k0) : S0.vm.Alike s.vm := F.2.2.2.2.2.2.2.2.2.1.alike
theorem Fr.hts (F : Fr S0 p R s m args meth c i d n0 k0) : ∀ w ∈ TBg, w.before args s = true := F.2.2.2.2.1
theorem Fr.own (F : Fr S0 p R s m args meth c i d n0 k0) : s.vm.findClass (ownT (clsT i)) = some m.cls := F.2.2.2.1
theorem fV_some {a ci f : Nat} {v : Value} (h : fV σ a ci f = some v) : ∃ fs, σ.1 a = some (.inr (ci, fs)) ∧ fs[f]? = some v := by
  unfold fV at h
  split at h
  · rename_i c fs hc
    split at h
    · rename_i e; subst e; exact ⟨fs, hc, h⟩
    · cases h
  · cases h
theorem k_getf (F : Fr S0 p R s m args meth c i d n0 k0) (C0 : ClsOK) (K0 : va_K D clT [] S0) {x a ci f : Nat} {v : Value} {ty : FieldType} (hd : decode (cT i) pc = .ok (.getfield x, 3)) (hF : FldOK (clsT i) x ci f ty) (hv : fV σ a ci f = some v) (k : K_ l S0 D dA p e R s m args below meth c Q i n0 k0 (pc + 3) ls (v :: st) σ) : K_ l S0 D dA p e R s m args below meth c Q i n0 k0 pc ls (.ref a :: st) σ := by
  intro H locs lsA h1 h2 h3 h4 h5
  obtain ⟨fs, ha, hv⟩ := fV_some hv
  obtain ⟨r, hc, h100, hf, hlk, -⟩ := hF
  have hat := h1.2.2.2 a _ ha
  unfold celAt at hat
  simp only [if_pos h100] at hat
  have hK : va_K D clT [] s := va_K.moved F.alike K0
  have hP : va_P D clT [(a, .inr (ci, fs))] H := fun k q hk => by
    match k, hk with
    | 0, hk => cases hk; exact hat.2.2
    | k + 1, hk => simp at hk
  exact va_get (C := r.1) (T := r.2.1) (N := r.2.2) F.1 F.2.1 F.hts (C0 ci r hc).1 F.own hK hP 0 rfl hc f hf (F.hts _ hlk) (fun _ h9 => h9) hv hd (k H locs lsA h1 h2 h3 h4 h5)
theorem k_getro (F : Fr S0 p R s m args meth c i d n0 k0) {G : Glb} (R0 : RoOK S0 G) {x a ci f : Nat} {v : Value} (hd : decode (cT i) pc = .ok (.getfield x, 3)) (hF : FldRo (clsT i) x ci f) (hv : G (roK ci f) a = some v) (k : K_ l S0 D dA p e R s m args below meth c Q i n0 k0 (pc + 3) ls (v :: st) σ) : K_ l S0 D dA p e R s m args below meth c Q i n0 k0 pc ls (.ref a :: st) σ := by
  intro H locs lsA h1 h2 h3 h4 h5
  obtain ⟨h100, hlk, -, hf9⟩ := hF
  obtain ⟨cf, kk, fi, fd, cell, g1, g2, g3, g4, g5, g6⟩ := va_OF.moved F.alike ((R0 ci a h100).1 f v hf9 hv)
  have hq : a < S0.heap.size := (Array.getElem?_eq_some_iff.mp g3).1
  exact W.getf F.1 F.2.1 F.own (F.hts _ hlk) g1 g2 ((h1.2.2.1 a hq).trans g3) g4 (v := v) g5 rfl rfl hd (k H locs lsA h1 h2 h3 h4 h5)
theorem k_putf (F : Fr S0 p R s m args meth c i d n0 k0) (C0 : ClsOK) (I0 : ∀ j, iniT j = true → (yT j).name = "<init>") (K0 : va_K D clT [] S0) {x a ci f : Nat} {v : Value} {ty : FieldType} {σ' : St} (hd : decode (cT i) pc = .ok (.putfield x, 3)) (hF : FldOK (clsT i) x ci f ty) (hfit : fits ty v = true) (hpf : pfOK i x = true) (hw : fW σ a ci f v = some σ') (k : K_ l S0 D dA p e R s m args below meth c Q i n0 k0 (pc + 3) ls st σ') : K_ l S0 D dA p e R s m args below meth c Q i n0 k0 pc ls (v :: .ref a :: st) σ := by
  intro H locs lsA h1 h2 h3 h4 h5
  obtain ⟨r, hc, h100, hf, hlk, hty, hp0, hp1⟩ := hF
  unfold fW at hw
  split at hw
  case h_2 => cases hw
  rename_i c' fs ha
  split at hw
  case isFalse => cases hw
  rename_i hcond
  obtain ⟨rfl, hlt⟩ := hcond
  cases hw
  have hat := h1.2.2.2 a _ ha
  unfold celAt at hat
  simp only [if_pos h100] at hat
  obtain ⟨hB, hlen, r', hr', cell, q1, q2, q3, q4⟩ := hat
  cases hc.symm.trans hr'
  have hK : va_K D clT [] s := va_K.moved F.alike K0
  obtain ⟨hin, htys, hnm⟩ := C0 c' r hc
  have hap := va_apart (own := ownT (clsT i)) (C := r.1) (T := r.2.1) (N := r.2.2) F.hts hin (tyT c') htys hnm hK hc
  obtain ⟨hS, hfc, kC, hkC, hkind⟩ := hK.1 c' _ hc
  obtain ⟨cf, kf, fi, fd, hi, hsl⟩ := hS f hf
  have hlay := F.hts _ (hin _ (u_in_lay hf))
  have hpd : parseFieldDescriptor (r.2.1 f).2.2.1 = some ty := by rw [htys f hf, hty]
  have hst := (u_facts hfc hkC (u_lays F.hts hin hf) hi).1
  have hn := narrow_of_fits hfit
  have fin : ∀ H' : Heap, H'[a]? = some (cell.setSlot fd.slot v) → H'.size = H.size → (∀ q, q ≠ a → H'[q]? = H[q]?) → W p l e R s m args below meth c H' (locs ++ [⟨a, fd.slot⟩]) (σ.2.1 - n0) (σ.2.2 - k0) Q (F0 m (pc + 3) lsA st) := by
    intro H' e1 e2 e3
    rw [hsl] at e1
    refine k H' _ lsA (h1.upd hB e2 e3 ?_) ?_ h3 h4 h5
    · unfold celAt
      simp only [if_pos h100]
      refine ⟨hB, by rw [List.length_set]; exact hlen, r, hc, ?_⟩
      exact t_OB.to (V := updV (vp_V fs) f v) ⟨_, e1, q2, q3, t_set q4 hap hf v⟩ (fun j _ => vp_updV_set hlt v j)
    · intro z hz
      rcases List.mem_append.mp hz with h | h
      · exact h2 z h
      · rw [List.mem_singleton.mp h]; exact hB
  unfold pfOK at hpf
  unfold u_lay at hlay
  cases hpt : pfT (clsT i) x with
  | none => rw [hpt] at hpf; cases hpf
  | some z =>
    cases z with
    | zero =>
      have hf0 := hp0 hpt
      rw [if_neg (by rw [hf0]; decide)] at hlay
      have h6 := u_store hfc hkC hkind hlay hi hpd hn hfit
      exact W.putK F.1 F.2.1 (f := fd) ⟨F.own, F.hts _ hlk, ⟨_, _, _, hi⟩, hst⟩ (by rw [q2]; exact h6) q1 q3 (by rw [hsl]; exact k2_hasslot (q4 f hf)) rfl rfl hd fin
    | succ z =>
      obtain ⟨hf1, hdecl⟩ := hp1 z hpt
      rw [hpt] at hpf
      have hin2 : meth.name = "<init>" := (F.2.2.2.2.2.2.2.1 hpf).trans (I0 i hpf)
      rw [if_pos hf1] at hlay
      have hcf : m.cls = cf := by
        obtain ⟨_, _, c2, _, _, _, -, -, hf', -, -, -, hown2, -⟩ := Cond.laysFinal_spec hlay
        have e1 : c2 = cf := by have := hi.symm.trans hf'; simp at this; exact this.1.symm
        rw [hdecl] at hown2
        rw [← e1]; exact Option.some.inj (F.own.symm.trans hown2)
      have h6 := u_fits hfc hkC hkind (Or.inr hlay) hi hpd hn hfit
      exact W.putFinK F.1 F.2.1 F.own (F.hts _ hlk) hi hst hcf hin2 (by rw [q2]; exact h6) q1 q3 (by rw [hsl]; exact k2_hasslot (q4 f hf)) rfl rfl hd fin
/-- a field of a text -/
theorem k_gets6 (F : Fr S0 p R s m args meth c i d n0 k0) (C0 : ClsOK) (K0 : va_K D clT [] S0) {G : Glb} (R0 : RoOK S0 G) {x a f : Nat} {v : Value} {ty : FieldType} (hd : decode (cT i) pc = .ok (.getfield x, 3)) (hF : FldOK (clsT i) x 6 f ty) (hf2 : f < 2) (hv : sV G σ a f = some v) (k : K_ l S0 D dA p e R s m args below meth c Q i n0 k0 (pc + 3) ls (v :: st) σ) : K_ l S0 D dA p e R s m args below meth c Q i n0 k0 pc ls (.ref a :: st) σ := by
  unfold sV at hv
  split at hv
  · intro H locs lsA h1 h2 h3 h4 h5
    obtain ⟨r, hc, h100, hf, hlk, -⟩ := hF
    cases (show clT[6]? = some r from hc).symm.trans (rfl : clT[6]? = some (RJ0, TJ0, 4))
    have e6 : ∀ g, g < 2 → ((TJ0 g).1, (TJ0 g).2.1, (TJ0 g).2.2.1) = roF 100 g := by decide
    have e7 := e6 f hf2
    have e8 : (TJ0 f).1 = (roF 100 f).1 := congrArg (fun z => z.1) e7
    have e9 : (TJ0 f).2.1 = (roF 100 f).2.1 := congrArg (fun z => z.2.1) e7
    have e10 : (TJ0 f).2.2.1 = (roF 100 f).2.2 := congrArg (fun z => z.2.2) e7
    simp only [e8, e9, e10] at hlk
    obtain ⟨cf, kk, fi, fd, cell, g1, g2, g3, g4, g5, g6⟩ := va_OF.moved F.alike ((R0 100 a (by omega)).1 f v (by omega) hv)
    have hq : a < S0.heap.size := (Array.getElem?_eq_some_iff.mp g3).1
    exact W.getf F.1 F.2.1 F.own (F.hts _ hlk) g1 g2 ((h1.2.2.1 a hq).trans g3) g4 (v := v) g5 rfl rfl hd (k H locs lsA h1 h2 h3 h4 h5)
  · exact k_getf F C0 K0 hd hF hv k
end
