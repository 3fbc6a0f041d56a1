/-! TEXTS that the law makes and reads. -/
def AS7 (l : List Int32) : Prop := ∀ i, i < l.length → ∃ c, c < 128 ∧ l.getD i 0 = nI c
/-- a text that was made: at a, its bytes at va -/
def DYN (G : Glb) (A : Nat) (W : Nat → Prop) (H : Hp) (a va : Nat) (t : List Int32) : Prop := G 2009 a = none ∧ (FR A a ∧ FR A va ∧ W a ∧ W va) ∧ (∃ h z : Int32, H a = some (.inr (6, [.ref va, .int 0, .int h, .int z]))) ∧ ∃ f : Nat → Int32, H va = some (ar .byte t.length f) ∧ ∀ i, i < t.length → f i = t.getD i 0
def TX (G : Glb) (A : Nat) (W : Nat → Prop) (H : Hp) (a : Nat) (t : List Int32) : Prop := (AS7 t ∧ t.length < 100) ∧ ((∃ u : List Nat, t = u.map nI ∧ STR G H A a u) ∨ ∃ va, DYN G A W H a va t)
/-- what is read of a text -/
def TXR (G : Glb) (A : Nat) (H : Hp) (m : Mm) (n r a va : Nat) (t : List Int32) : Prop := rcvG G (S A H m n r) a 6 = true ∧ sV G (S A H m n r) a 1 = some (.int 0) ∧ sV G (S A H m n r) a 0 = some (.ref va) ∧ aN (S A H m n r) va = some (nI t.length) ∧ (∀ i, i < t.length → aI (S A H m n r) okB va (nI i) = some (t.getD i 0)) ∧
  ∀ (w cap c : Nat) (f : Nat → Int32), w ≠ va → A ≤ w → FR A w → H w = some (ar .byte cap f) → c + t.length ≤ cap → cap < 2 ^ 31 → aC (S A H m n r) va 0 w (nI c) (nI t.length) = some (S A (hset H w (ar .byte cap (wrD f c t))) m n r)
theorem fb_all : ∀ c, c < 128 → fits .byte (.int (nI c)) = true := by decide +kernel
theorem cpy_tx {l : List Value} {t : List Int32} {cap c : Nat} {f : Nat → Int32} (h7 : AS7 t) (hl : ∀ i, i < t.length → l[i]? = some (.int (t.getD i 0))) (hll : t.length ≤ l.length) (hc : c + t.length ≤ cap) : cpy l ((List.range cap).map fun i => Value.int (vp_nar .byte (f i))) 0 c t.length = (List.range cap).map fun i => Value.int (vp_nar .byte (wrD f c t i)) := by
  apply List.ext_getElem?
  intro j
  rw [cpy_get (by omega) (by simpa using hc)]
  by_cases h : c ≤ j ∧ j < c + t.length
  · obtain ⟨x, hx, e⟩ := h7 (j - c) (by omega)
    have hj : j < cap := by omega
    rw [if_pos h, Nat.zero_add, hl (j - c) (by omega), List.getElem?_map, List.getElem?_range hj]
    show _ = some (Value.int (vp_nar .byte (wrD f c t j)))
    unfold wrD
    rw [if_pos h, e, (by_all x hx).2.1]
  · rw [if_neg h, List.getElem?_map, List.getElem?_map]
    by_cases hj : j < cap
    · rw [List.getElem?_range hj]
      show some (Value.int (vp_nar .byte (f j))) = some (Value.int (vp_nar .byte (wrD f c t j)))
      unfold wrD
      rw [if_neg h]
    · rw [List.getElem?_eq_none (by simpa using hj)]
      show (none : Option Value) = none
      rfl
section
variable {G : Glb} {A n r : Nat} {W : Nat → Prop} {H : Hp} {m : Mm}
theorem aC_tx {l : List Value} {fl : Bool} {t : List Int32} {va w cap c : Nat} {f : Nat → Int32} (h7 : AS7 t) (ht : t.length < 100) (ha : (S A H m n r).1 va = some (.inl (.byte, fl, l))) (hl : ∀ i, i < t.length → l[i]? = some (.int (t.getD i 0))) (hw : FR A w) (hc : H w = some (ar .byte cap f)) (hcc : c + t.length ≤ cap) (hcap : cap < 2 ^ 31) : aC (S A H m n r) va 0 w (nI c) (nI t.length) = some (S A (hset H w (ar .byte cap (wrD f c t))) m n r) := by
  have hll : t.length ≤ l.length := by
    rcases Nat.eq_zero_or_pos t.length with h | h
    · omega
    · have := (List.getElem?_eq_some_iff.mp (hl (t.length - 1) (by omega))).1
      omega
  have e0 : (0 : Int32).toNatClampNeg = 0 := by decide
  have hfit : ∀ v ∈ (l.drop 0).take t.length, fits .byte v = true := by
    intro v hv
    obtain ⟨i, hi⟩ := List.getElem?_of_mem hv
    rw [List.getElem?_take] at hi
    split at hi
    · rename_i hlt
      rw [List.drop_zero, hl i hlt] at hi
      cases hi
      obtain ⟨x, hx, e⟩ := h7 i hlt
      rw [e]
      exact fb_all x hx
    · cases hi
  unfold aC
  rw [ha, S_fr hw, hc]
  cases fl
  · simp only [ar]
    rw [e0, nI_clamp (by omega), nI_clamp (by omega)]
    rw [if_pos ⟨hfit, trivial, rfl, by decide, nI_pos (by omega), nI_pos (by omega), by omega, by simpa using hcc⟩, cpy_tx h7 hl hll hcc]
    exact congrArg some (S_frw hw ..)
  · simp only [ar]
    rw [e0, nI_clamp (by omega), nI_clamp (by omega)]
    rw [if_pos ⟨trivial, rfl, by decide, nI_pos (by omega), nI_pos (by omega), by omega, by simpa using hcc⟩, cpy_tx h7 hl hll hcc]
    exact congrArg some (S_frw hw ..)
theorem map_getD {u : List Nat} {i : Nat} (hi : i < u.length) : (u.map nI).getD i 0 = nI (u.getD i 0) := by
  rw [List.getD_eq_getElem?_getD, List.getD_eq_getElem?_getD, List.getElem?_map, List.getElem?_eq_getElem hi]; rfl
theorem TX_r {a : Nat} {t : List Int32} (h : TX G A W H a t) (m : Mm) (n r : Nat) : ∃ va, TXR G A H m n r a va t ∧ (va < A ∨ W va) := by
  obtain ⟨⟨h7, hlen⟩, h | ⟨va, h⟩⟩ := h
  · obtain ⟨u, rfl, hs⟩ := h
    obtain ⟨va, hv1, hv2, hv3⟩ := hs.2.2.2
    have hul : (u.map nI).length = u.length := List.length_map ..
    obtain ⟨l, l1, l2, l3⟩ := hv3
    have hl : ∀ i, i < (u.map nI).length → l[i]? = some (.int ((u.map nI).getD i 0)) := fun i hi => by rw [hul] at hi; rw [l3 i hi, map_getD hi]
    refine ⟨va, ⟨rcvG_str hs.1.1 _, by rw [sV_1 hs.1.1]; exact hs.1.2, by rw [sV_0 hs.1.1]; exact hv2, ?_, fun i hi => ?_, fun w cap c f _ _ hw hc hcc hcap => ?_⟩, Or.inl hv1⟩
    · rw [hul]; exact AK_n hv1 ⟨l, l1, l2, l3⟩
    · rw [hul] at hi
      unfold aI; rw [AK_v hv1 ⟨l, l1, l2, l3⟩ rfl hi (by rw [hul] at hlen; omega), map_getD hi]
    · exact aC_tx h7 hlen (by rw [S_lo hv1]; exact l1) hl hw hc hcc hcap
  · obtain ⟨hg, ⟨f1, f2, w1, w2⟩, ⟨hh, z, ha⟩, f, hf, hf2⟩ := h
    have hsv : ∀ k, sV G (S A H m n r) a k = fV (S A H m n r) a 6 k := fun k => by
      unfold sV
      show (match G 2009 a with
        | some _ => G (roK 100 k) a
        | none => fV (S A H m n r) a 6 k) = _
      rw [hg]
    have hv : ∀ k, fV (S A H m n r) a 6 k = [Value.ref va, .int 0, .int hh, .int z][k]? := fun k => by
      unfold fV; rw [S_fr f1, ha]; rfl
    refine ⟨va, ⟨?_, by rw [hsv, hv]; rfl, by rw [hsv, hv]; rfl, xaN f2 hf, fun i hi => ?_, fun w cap c f' _ _ hw hc hcc hcap => ?_⟩, Or.inr w2⟩
    · unfold rcvG
      show ((G 2009 a).isSome || rcv (S A H m n r) a 6) = true
      rw [xrc f1 ha, Bool.or_true]
    · obtain ⟨x, hx, e⟩ := h7 i hi
      rw [xaI f2 hf rfl hi (by omega), hf2 i hi, e, (by_all x hx).2.1]
    · refine aC_tx (fl := true) (l := (List.range t.length).map fun i => .int (vp_nar .byte (f i))) h7 hlen (by rw [S_fr f2]; exact hf) (fun i hi => ?_) hw hc hcc hcap
      obtain ⟨x, hx, e⟩ := h7 i hi
      rw [List.getElem?_map, List.getElem?_range hi, e]
      show some (Value.int (vp_nar .byte (f i))) = _
      rw [hf2 i hi, e, (by_all x hx).2.1]
theorem STR_kp {a : Nat} {u : List Nat} {H' : Hp} (h : STR G H A a u) (hk : ∀ q, q < A → H' q = H q) : STR G H' A a u := by
  obtain ⟨h1, h2, h3, va, h4, h5, h6⟩ := h
  exact ⟨h1, h2, h3, va, h4, h5, by rw [hk va h4]; exact h6⟩
theorem TX_kp {a : Nat} {t : List Int32} {H' : Hp} (h : TX G A W H a t) (hk : KP A W H H') : TX G A W H' a t := by
  obtain ⟨h7, ⟨u, e, hs⟩ | ⟨va, hg, ⟨f1, f2, w1, w2⟩, ⟨hh, z, ha⟩, f, hf, hf2⟩⟩ := h
  · exact ⟨h7, Or.inl ⟨u, e, STR_kp hs fun q hq => hk q (Or.inl hq)⟩⟩
  · exact ⟨h7, Or.inr ⟨va, hg, ⟨f1, f2, w1, w2⟩, ⟨hh, z, by rw [hk a (Or.inr w1)]; exact ha⟩, f, by rw [hk va (Or.inr w2)]; exact hf, hf2⟩⟩
theorem TX_W {a : Nat} {t : List Int32} {W' : Nat → Prop} (h : TX G A W H a t) (hW : ∀ q, W q → W' q) : TX G A W' H a t := by
  obtain ⟨h7, h | ⟨va, hg, ⟨f1, f2, w1, w2⟩, h⟩⟩ := h
  · exact ⟨h7, Or.inl h⟩
  · exact ⟨h7, Or.inr ⟨va, hg, ⟨f1, f2, hW _ w1, hW _ w2⟩, h⟩⟩
theorem TX_str {a : Nat} {u : List Nat} (h : STR G H A a u) : TX G A W H a (u.map nI) := by
  refine ⟨⟨fun i hi => ?_, by rw [List.length_map]; exact h.2.2.1⟩, Or.inl ⟨u, rfl, h⟩⟩
  rw [List.length_map] at hi
  refine ⟨u.getD i 0, h.2.1 _ ?_, map_getD hi⟩
  rw [List.getD_eq_getElem?_getD, List.getElem?_eq_getElem hi]
  exact List.getElem_mem hi
section
variable {a va : Nat} {t : List Int32}
theorem s316t (hg : GS G) (hx : TXR G A H m n r a va t) (d : Nat) : call G d 316 [.ref a] (S A H m n r) = vI 0 (S A H m n r) := by
  rw [b316_e, hg.1]
  simp only [gI_sm]
  rw [if_neg not1, hx.2.1]; rfl
theorem s316tc (hg : GS G) (hx : TXR G A H m n r a va t) (d : Nat) (K : Int32 → St → Res) : cI (call G d 316 [.ref a] (S A H m n r)) K = K 0 (S A H m n r) := congrArg (fun z => cI z K) (show call G d 316 [.ref a] (S A H m n r) = vI 0 (S A H m n r) from by apply s316t <;> assumption)
theorem s317t (hg : GS G) (hx : TXR G A H m n r a va t) (d : Nat) : call G d 317 [.ref a] (S A H m n r) = vI 1 (S A H m n r) := by
  rw [b317_e, hg.1]
  simp only [gI_sm]
  rw [if_neg not1, hx.2.1]; rfl
theorem s317tc (hg : GS G) (hx : TXR G A H m n r a va t) (d : Nat) (K : Int32 → St → Res) : cI (call G d 317 [.ref a] (S A H m n r)) K = K 1 (S A H m n r) := congrArg (fun z => cI z K) (show call G d 317 [.ref a] (S A H m n r) = vI 1 (S A H m n r) from by apply s317t <;> assumption)
theorem s314t (hg : GS G) (hx : TXR G A H m n r a va t) (d : Nat) : call G (d + 1) 314 [.ref a] (S A H m n r) = vI (nI t.length) (S A H m n r) := by
  rw [b314_e, hx.2.2.1]
  simp only [gR_sm]
  rw [hx.2.2.2.1]
  show (if rcvG G (S A H m n r) a 6 = true then _ else none) = _
  rw [if_pos hx.1, s316t hg hx]
  show some (Sum.inl (some (Value.int (nI t.length >>> ((0 : Int32) &&& 31)))), S A H m n r) = _
  rw [shr0]; rfl
theorem s314tc (hg : GS G) (hx : TXR G A H m n r a va t) (d : Nat) (K : Int32 → St → Res) : cI (call G (d + 1) 314 [.ref a] (S A H m n r)) K = K (nI t.length) (S A H m n r) := congrArg (fun z => cI z K) (show call G (d + 1) 314 [.ref a] (S A H m n r) = vI (nI t.length) (S A H m n r) from by apply s314t <;> assumption)
theorem s325t (hg : GS G) (hx : TXR G A H m n r a va t) (h7 : AS7 t) (hlen : t.length < 100) {i : Nat} (hi : i < t.length) (d : Nat) : call G (d + 2) 325 [.ref va, .int (nI i)] (S A H m n r) = vI (t.getD i 0) (S A H m n r) := by
  obtain ⟨c, hc, e⟩ := h7 i hi
  rw [b325_e, hx.2.2.2.1]
  show cV (call G (d + 1) 318 [.int (nI i), .int (nI t.length)] _) _ = _
  rw [s318 hg hi (by omega)]
  show (aI (S A H m n r) okB va (nI i)).bind _ = _
  rw [hx.2.2.2.2.1 i hi, e]
  show (if fits .char (.int (((nI c &&& 255) : Int32).toUInt32 % 65536).toInt32) = true then _ else none) = _
  rw [(asc_all _ hc).1, if_pos (asc_all _ hc).2]; rfl
theorem s325tc (hg : GS G) (hx : TXR G A H m n r a va t) (h7 : AS7 t) (hlen : t.length < 100) {i : Nat} (hi : i < t.length) (d : Nat) (K : Int32 → St → Res) : cI (call G (d + 2) 325 [.ref va, .int (nI i)] (S A H m n r)) K = K (t.getD i 0) (S A H m n r) := congrArg (fun z => cI z K) (show call G (d + 2) 325 [.ref va, .int (nI i)] (S A H m n r) = vI (t.getD i 0) (S A H m n r) from by apply s325t <;> assumption)
theorem s315t (hg : GS G) (hx : TXR G A H m n r a va t) (h7 : AS7 t) (hlen : t.length < 100) {i : Nat} (hi : i < t.length) (d : Nat) : call G (d + 3) 315 [.ref a, .int (nI i)] (S A H m n r) = vI (t.getD i 0) (S A H m n r) := by
  obtain ⟨c, hc, e⟩ := h7 i hi
  rw [b315_e, if_pos hx.1, s317t hg hx]
  simp only [vI_def, cI_ok]
  rw [if_neg not1, hx.2.2.1]
  simp only [gR_sm]
  rw [s325t hg hx h7 hlen hi]
  simp only [vI_def, cI_ok]
  rw [e, if_pos (asc_all _ hc).2]
theorem s315tc (hg : GS G) (hx : TXR G A H m n r a va t) (h7 : AS7 t) (hlen : t.length < 100) {i : Nat} (hi : i < t.length) (d : Nat) (K : Int32 → St → Res) : cI (call G (d + 3) 315 [.ref a, .int (nI i)] (S A H m n r)) K = K (t.getD i 0) (S A H m n r) := congrArg (fun z => cI z K) (show call G (d + 3) 315 [.ref a, .int (nI i)] (S A H m n r) = vI (t.getD i 0) (S A H m n r) from by apply s315t <;> assumption)
theorem s203t (hg : GS G) (hx : TXR G A H m n r a va t) {w cap c : Nat} {f : Nat → Int32} (h1 : w ≠ va) (h2 : A ≤ w) (h3 : FR A w) (h4 : H w = some (ar .byte cap f)) (h5 : c + t.length ≤ cap) (h6 : cap < 2 ^ 31) (d : Nat) : call G (d + 1) 203 [.ref a, .ref w, .int (nI c), .int 0] (S A H m n r) = vV (S A (hset H w (ar .byte cap (wrD f c t))) m n r) := by
  rw [b203_e, if_pos hx.1, s316t hg hx]
  simp only [vI_def, cI_ok]
  rw [if_pos trivial, hx.2.2.1]
  simp only [gR_sm]
  rw [hx.2.2.2.1]
  show ((aC (S A H m n r) va 0 w (nI c <<< ((0 : Int32) &&& 31)) (nI t.length)).bind _) = _
  rw [shl0, hx.2.2.2.2.2 w cap c f h1 h2 h3 h4 h5 h6]; rfl
theorem s203tc (hg : GS G) (hx : TXR G A H m n r a va t) {w cap c : Nat} {f : Nat → Int32} (h1 : w ≠ va) (h2 : A ≤ w) (h3 : FR A w) (h4 : H w = some (ar .byte cap f)) (h5 : c + t.length ≤ cap) (h6 : cap < 2 ^ 31) (d : Nat) (K : St → Res) : cV (call G (d + 1) 203 [.ref a, .ref w, .int (nI c), .int 0] (S A H m n r)) K = K (S A (hset H w (ar .byte cap (wrD f c t))) m n r) := congrArg (fun z => cV z K) (show call G (d + 1) 203 [.ref a, .ref w, .int (nI c), .int 0] (S A H m n r) = vV (S A (hset H w (ar .byte cap (wrD f c t))) m n r) from by apply s203t <;> assumption)
end
/-- a text is put behind the builder's -/
theorem s205 {b cap a : Nat} {t u : List Int32} (hgb : GB G) (hg : GS G) (hs : SB A W b H cap t n) (hx : TX G A W H a u) (_hu : u.length ≤ 60) (hl : t.length + u.length ≤ 60) (d : Nat) : ∃ H' n' r' cap', call G (d + 4) 205 [.ref b, .ref a] (S A H m n r) = vR b (S A H' m n' r') ∧ SB A W b H' cap' (t ++ u) n' ∧ KP A W H H' ∧ GR n r cap n' r' cap' := by
  obtain ⟨H1, n1, r1, c1, e1, s1, k1, p1, g1⟩ := s303 (G := G) (m := m) (r := r) hs (k := t.length + u.length) hl (by omega) d
  have hx1 := TX_kp hx p1
  obtain ⟨va, hr, hva⟩ := TX_r hx m n r
  obtain ⟨va1, hr1, hva1⟩ := TX_r hx1 m n1 r1
  have hr0 := SB_rc (m := m) (r := r) hs
  have hrc1 := SB_rc (m := m) (r := r1) s1
  obtain ⟨v0, mb0, f0, h01, h02, h03, _⟩ := hs
  obtain ⟨v, mb, f, h1, h2, h3, h4, h5, h6, h7, h8⟩ := s1
  have hne : v ≠ va1 := by
    rcases hva1 with h | h
    · have := pa_A h3.2.1; omega
    · exact Ne.symm (h3.2.2.2 _ h).2.1
  have e200 : call G (d + 1) 200 [.ref b, .ref a] (S A H1 m n1 r1) = vV (S A H1 m n1 r1) := by
    rw [b200_e, hgb]
    simp only [gI_sm]
    rw [if_neg not1, xfI (FR_b h3) h1 rfl]
    show (if rcvG G (S A H1 m n1 r1) a 6 = true then _ else none) = _
    rw [if_pos hr1.1, s316t hg hr1]
    simp only [vI_def, cI_ok]
    rw [if_pos trivial]; rfl
  have e201 : call G (d + 2) 201 [.ref b, .int (nI t.length), .ref a] (S A H1 m n1 r1) = vV (S A (hset H1 v (ar .byte c1 (wrD f t.length u))) m n1 r1) := by
    rw [b201_e, if_pos hrc1, e200]
    simp only [vV_def, cV_ok]
    rw [xfR (FR_b h3) h1 rfl]
    show ((fI (S A H1 m n1 r1) b 7 1).bind _) = _
    rw [xfI (FR_b h3) h1 rfl]
    show (if rcvG G (S A H1 m n1 r1) a 6 = true then _ else none) = _
    rw [if_pos hr1.1, s203t hg hr1 hne (pa_A h3.2.1) (FR_v h3) h2 k1 (by omega)]; rfl
  rw [b205_e, if_pos hr0, b198_e, if_pos hr.1, s314t hg hr]
  simp only [vI_def, cI_ok]
  rw [xfI (FR_b h03) h01 rfl]
  show ∃ H' n' r' cap', (cR (if rcv (S A H m n r) b 7 = true then cV (call G (d + 2) 303 [.ref b, .int (nI t.length + nI u.length)] _) _ else none) _ = _) ∧ _
  rw [if_pos hr0, nI_add, e1]
  simp only [vV_def, cV_ok]
  rw [xfI (FR_b h3) h1 rfl]
  show ∃ H' n' r' cap', (cR (if rcv (S A H1 m n1 r1) b 7 = true then cV (call G (d + 2) 201 [.ref b, .int (nI t.length), .ref a] _) _ else none) _ = _) ∧ _
  rw [if_pos hrc1, e201]
  simp only [vV_def, cV_ok]
  have h1' : hset H1 v (ar .byte c1 (wrD f t.length u)) b = some (.inr (7, [.ref v, .int 0, .int mb, .int (nI t.length)])) := by rw [hset_ne (Ne.symm (v_ne9 h3))]; exact h1
  rw [xfI (FR_b h3) h1' rfl]
  show ∃ H' n' r' cap', (cR ((fW (S A (hset H1 v (ar .byte c1 (wrD f t.length u))) m n1 r1) b 7 3 (.int (nI t.length + nI u.length))).bind _) _ = _) ∧ _
  rw [xfW (FR_b h3) h1' (by simp), nI_add]
  refine ⟨_, n1, r1, c1, rfl, ⟨v, mb, wrD f t.length u, ?_, ?_, h3, ?_, ?_, h6, h7, h8⟩, ?_, g1⟩
  · rw [hset_at, List.length_append]; rfl
  · rw [hset_ne (v_ne9 h3), hset_at]
  · rw [List.length_append]; exact k1
  · intro i hi
    rw [List.length_append] at hi
    unfold wrD
    rw [show (t ++ u).getD i 0 = ((t ++ u)[i]?).getD 0 from List.getD_eq_getElem?_getD .., List.getElem?_append]
    by_cases e : i < t.length
    · rw [if_neg (by omega), if_pos e, h5 i e, List.getD_eq_getElem?_getD]
    · rw [if_pos (by omega), if_neg e, List.getD_eq_getElem?_getD]
  · exact KP_trans p1 (KP_trans (KP_set (ou_v h3) _ _) (KP_set (ou_b h3) _ _))
/-- a part of a builder's bytes is copied -/
theorem s208 {v cap k : Nat} {f : Nat → Int32} (hv : FR A v) (hn : A + 169 ≤ n) (hvn : v ≠ n) (hc : H v = some (ar .byte cap f)) (hk : k ≤ cap) (hcap : cap ≤ 60000) (d : Nat) : ∃ f', (∀ i, i < k → f' i = f i) ∧ call G (d + 2) 208 [.ref v, .int 0, .int (nI k)] (S A H m n r) = vR n (S A (hset H n (ar .byte k f')) m (n + 1) (r + k)) := by
  rw [b208_e, if_pos rfl, xaN hv hc]
  show ∃ f', _ ∧ ((if nI k = nI cap then _ else _) = _)
  by_cases hkc : k = cap
  · subst hkc
    refine ⟨f, fun _ _ => rfl, ?_⟩
    have e1 : aK (S A H m n r) v = some (S A (hset H n (ar .byte k f)) m (n + 1) (r + k)) := by
      unfold aK
      rw [S_fr hv, hc]
      simp only [ar]
      rw [wall_S hn, List.length_map, List.length_range]
    have e2 : isBA (S A (hset H n (ar .byte k f)) m (n + 1) (r + k)) n = true := by
      unfold isBA
      rw [S_fr (Or.inl hn), hset_at]
      rfl
    rw [if_pos rfl, e1]
    show (if isBA (S A (hset H n (ar .byte k f)) m (n + 1) (r + k)) n = true then _ else none) = _
    rw [if_pos e2]; rfl
  · have hfn : FR A n := Or.inl hn
    refine ⟨cpf f (fun _ => 0) 0 0 k, fun i hi => by unfold cpf; rw [if_pos (by omega)]; rfl, ?_⟩
    rw [if_neg (fun e => hkc ((nI_eq (by omega) (by omega)).mp e)), b208_10, b209_e, b207_e, if_pos (nI_pos' (by omega))]
    have e0 : nI k - 0 = nI k := Int32.sub_zero _
    have e1 : nI cap - 0 = nI cap := Int32.sub_zero _
    simp only [cV_ok, e0]
    show cR (if nI k < 0 ∨ 65536 < (nI k).toNatClampNeg ∨ naT .byte = false then none else _) _ = _
    rw [if_neg (by
      rintro (h | h | h)
      · exact nI_pos (n := k) (by omega) h
      · rw [nI_clamp (by omega)] at h; omega
      · cases h)]
    rw [nI_clamp (by omega), rep_ar, wall_S (by omega)]
    have hc2 : hset H n (ar .byte k fun _ => 0) v = some (ar .byte cap f) := by rw [hset_ne hvn]; exact hc
    rw [xaN hv hc2]
    show cR ((aC _ v 0 n 0 (if nI k < nI cap - 0 then nI k else nI cap - 0)).bind _) _ = _
    rw [e1, if_pos (by rw [nI_ltI (by omega) (by omega)]; omega), xaC hv hfn hc2 (hset_at ..) rfl hk (Nat.le_refl _) (by omega), hset_hset]
    rfl
theorem b204_n (G : Glb) (d : Nat) (a0 : Nat) (a1 : Nat) (σ : St) : call G (d + 1) 204 [.ref a0, .ref a1, .null] σ = (if rcv σ a1 7 = true then (cR (call G d 199 [.ref a1] σ) fun v1 s1 => (if rcv s1 a1 7 = true then (cI (call G d 324 [.ref a1] s1) fun v2 s2 => (if rcv s2 a1 7 = true then (cI (call G d 309 [.ref a1] s2) fun v3 s3 => (if v3 = 0 then (gI (G 12 38) fun v4 => (if v4 = 0 then run G (d + 1) 204 79 [some (.ref a0), some (.ref a1), some .null, some (.ref v1), some (.int v2)] [] s3 else ((fI s3 a1 7 2).bind fun v5 => (if v5 = 0 then run G (d + 1) 204 79 [some (.ref a0), some (.ref a1), some .null, some (.ref v1), some (.int v2)] [] s3 else none)))) else ((fW s3 a0 6 1 (.int 0)).bind fun s4 => (cR (call G d 208 [.ref v1, .int 0, .int v2] s4) fun v6 s5 => ((fW s5 a0 6 0 (.ref v6)).bind fun s6 => some (.inl none, s6)))))) else none)) else none)) else none) := (blk_eq G 204 (nst [79]) rfl 55 (d + 1) 0 _ [] σ).trans rfl
/-- the builder's text as a text of its own -/
theorem s206 {b cap : Nat} {t : List Int32} (hgb : GB G) (hgn : ∀ a, A ≤ a → G 2009 a = none) (hs : SB A W b H cap t n) (h7 : AS7 t) (ht : t.length < 100) (d : Nat) : ∃ H', call G (d + 5) 206 [.ref b] (S A H m n r) = vR n (S A H' m (n + 2) (r + 4 + t.length)) ∧ TX G A (fun q => q = n ∨ q = n + 1) H' n t ∧ ∀ q, q < n → H' q = H q := by
  obtain ⟨v, mb, f, h1, h2, h3, h4, h5, h6, h7', h8⟩ := hs
  have hbn : b ≠ n := pa_ne h3.1 h6
  have hvn : v ≠ n := pa_ne h3.2.1 h6
  have hvn1 : v ≠ n + 1 := pa_ne (pa_up h3.2.1 (Nat.le_succ n)) (by omega)
  have hfn : FR A n := Or.inl h6
  have k1 : hset H n (.inr (6, [.null, .int 0, .int 0, .int 0])) b = some (.inr (7, [.ref v, .int 0, .int mb, .int (nI t.length)])) := by rw [hset_ne hbn]; exact h1
  have k2 : hset H n (.inr (6, [.null, .int 0, .int 0, .int 0])) v = some (ar .byte cap f) := by rw [hset_ne hvn]; exact h2
  have e199 : call G (d + 2) 199 [.ref b] (S A (hset H n (.inr (6, [.null, .int 0, .int 0, .int 0]))) m (n + 1) (r + 4)) = vR v (S A (hset H n (.inr (6, [.null, .int 0, .int 0, .int 0]))) m (n + 1) (r + 4)) := by
    rw [b199_e, xfR (FR_b h3) k1 rfl]; rfl
  have e324 : call G (d + 2) 324 [.ref b] (S A (hset H n (.inr (6, [.null, .int 0, .int 0, .int 0]))) m (n + 1) (r + 4)) = vI (nI t.length) (S A (hset H n (.inr (6, [.null, .int 0, .int 0, .int 0]))) m (n + 1) (r + 4)) := by
    rw [b324_e, if_pos (xrc (FR_b h3) k1), b302_e, xfI (FR_b h3) k1 rfl]; rfl
  have e309 : call G (d + 2) 309 [.ref b] (S A (hset H n (.inr (6, [.null, .int 0, .int 0, .int 0]))) m (n + 1) (r + 4)) = vI 1 (S A (hset H n (.inr (6, [.null, .int 0, .int 0, .int 0]))) m (n + 1) (r + 4)) := by
    rw [b309_e, hgb]
    simp only [gI_sm]
    rw [if_neg not1, xfI (FR_b h3) k1 rfl]; rfl
  have k3 : hset (hset H n (.inr (6, [.null, .int 0, .int 0, .int 0]))) n (.inr (6, [.null, .int 0, .int 0, .int 0])) v = some (ar .byte cap f) := by rw [hset_ne hvn]; exact k2
  obtain ⟨f', hf', e208⟩ := s208 (G := G) (m := m) (r := r + 4) (n := n + 1) (H := hset (hset H n (.inr (6, [.null, .int 0, .int 0, .int 0]))) n (.inr (6, [.null, .int 0, .int 0, .int 0]))) (FR_v h3) (by omega) hvn1 k3 h4 (by omega) d
  have k4 : hset (hset (hset H n (.inr (6, [.null, .int 0, .int 0, .int 0]))) n (.inr (6, [.null, .int 0, .int 0, .int 0]))) (n + 1) (ar .byte t.length f') n = some (.inr (6, [.null, .int 0, .int 0, .int 0])) := by
    rw [hset_ne (by omega), hset_at]
  refine ⟨hset (hset (hset (hset H n (.inr (6, [.null, .int 0, .int 0, .int 0]))) n (.inr (6, [.null, .int 0, .int 0, .int 0]))) (n + 1) (ar .byte t.length f')) n (.inr (6, [.ref (n + 1), .int 0, .int 0, .int 0])), ?_, ?_, ?_⟩
  · rw [b206_e, wall_S h6]
    show cV (call G (d + 4) 202 [.ref n, .ref b] _) _ = _
    rw [b202_e, b204_n, if_pos (xrc (FR_b h3) k1), e199]
    simp only [vR_def, cR_ok]
    rw [if_pos (xrc (FR_b h3) k1), e324]
    simp only [vI_def, cI_ok]
    rw [if_pos (xrc (FR_b h3) k1), e309]
    simp only [vI_def, cI_ok]
    rw [if_neg not1, xfW hfn (hset_at ..) (by simp)]
    show cV (cV (cR (call G (d + 2) 208 [.ref v, .int 0, .int (nI t.length)] (S A (hset (hset H n (.inr (6, [.null, .int 0, .int 0, .int 0]))) n (.inr (6, [.null, .int 0, .int 0, .int 0]))) m (n + 1) (r + 4))) _) _) _ = _
    rw [e208]
    simp only [vR_def, cR_ok]
    rw [xfW hfn k4 (by simp)]
    rfl
  · refine ⟨⟨h7, ht⟩, Or.inr ⟨n + 1, hgn n (by omega), ⟨hfn, Or.inl (by omega), Or.inl rfl, Or.inr rfl⟩, ⟨0, 0, hset_at ..⟩, f', ?_, fun i hi => ?_⟩⟩
    · rw [hset_ne (by omega), hset_at]
    · rw [hf' i hi, h5 i hi]
  · intro q hq
    rw [hset_ne (by omega), hset_ne (by omega), hset_ne (by omega), hset_ne (by omega)]
/-- a new builder -/
theorem s319s (hgb : GB G) (hn : A + 169 ≤ n) (hW : ∀ q, W q → q < n) (d : Nat) : ∃ H', call G (d + 1) 319 [.ref n] (wall (S A H m n r) (.inr (7, [.null, .int 0, .int 0, .int 0])) 4) = vV (S A H' m (n + 2) (r + 20)) ∧ SB A W n H' 16 [] (n + 2) ∧ ∀ q, q < n → H' q = H q := by
  have hfn : FR A n := Or.inl hn
  have k0 : hset (hset H n (.inr (7, [.null, .int 0, .int 0, .int 0]))) (n + 1) (ar .byte 16 fun _ => 0) n = some (.inr (7, [.null, .int 0, .int 0, .int 0])) := by rw [hset_ne (by omega), hset_at]
  refine ⟨hset (hset (hset (hset H n (.inr (7, [.null, .int 0, .int 0, .int 0]))) (n + 1) (ar .byte 16 fun _ => 0)) n (.inr (7, [.ref (n + 1), .int 0, .int 0, .int 0]))) n (.inr (7, [.ref (n + 1), .int 0, .int 0, .int 0])), ?_, ?_, ?_⟩
  · rw [wall_S hn, b319_e, b301_e, hgb]
    simp only [gI_sm]
    rw [if_neg not1, if_neg (by decide), show (16 : Int32).toNatClampNeg = 16 from by decide, rep_ar, wall_S (by omega)]
    show cV ((fW (S A (hset (hset H n (.inr (7, [.null, .int 0, .int 0, .int 0]))) (n + 1) (ar .byte 16 fun _ => 0)) m (n + 1 + 1) (r + 4 + 16)) n 7 0 (.ref (n + 1))).bind _) _ = _
    rw [xfW hfn k0 (by simp)]
    show cV ((fW (S A (hset (hset (hset H n (.inr (7, [.null, .int 0, .int 0, .int 0]))) (n + 1) (ar .byte 16 fun _ => 0)) n (.inr (7, [.ref (n + 1), .int 0, .int 0, .int 0]))) m (n + 1 + 1) (r + 4 + 16)) n 7 1 (.int 0)).bind _) _ = _
    rw [xfW hfn (hset_at ..) (by simp)]
    rfl
  · refine ⟨n + 1, 0, fun _ => 0, hset_at .., ?_, ⟨Or.inr (Or.inr ⟨hn, by omega⟩), Or.inr (Or.inr ⟨by omega, by omega⟩), by omega, fun q hq => ?_⟩, Nat.zero_le _, fun i hi => absurd hi (by simp), by omega, by omega, by omega⟩
    · rw [hset_ne (by omega), hset_ne (by omega), hset_at]
    · have := hW q hq; omega
  · intro q hq
    rw [hset_ne (by omega), hset_ne (by omega), hset_ne (by omega), hset_ne (by omega)]
end
