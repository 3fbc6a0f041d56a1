/-! THE STRING BUILDER over the picture: a text and its room. -/
theorem neg_toInt {v : Nat} (h : v < 2 ^ 31) : (-nI v).toInt = -(v : Int) := by
  rw [Int32.toInt_neg, nI_toInt h, Int.bmod_def]; omega
theorem neg_div100 {v : Nat} (h : v < 2 ^ 31) : (-nI v) / 100 = -nI (v / 100) := by
  apply Int32.toInt_inj.mp
  rw [Int32.toInt_div, neg_toInt h, neg_toInt (by omega)]
  have : (100 : Int32).toInt = 100 := by decide
  rw [this, Int.bmod_def]
  have : (-(v : Int)).tdiv 100 = -((v / 100 : Nat) : Int) := by
    rw [Int.neg_tdiv]; congr 1
  rw [this]; omega
theorem neg_rem {v : Nat} (h : v < 2 ^ 31) : (-nI (v / 100)) * 100 - (-nI v) = nI (v % 100) := by
  have e : (-nI (v / 100)) * 100 - (-nI v) = nI v - nI (v / 100) * 100 := by grind
  have e2 : nI (v / 100) * 100 = nI (v / 100 * 100) := by unfold nI; rw [Int32.ofNat_mul]; rfl
  rw [e, e2, nI_sub (Nat.div_mul_le_self v 100)]
  congr 1; omega
theorem neg_le {a b : Nat} (ha : a < 2 ^ 31) (hb : b < 2 ^ 31) : (-nI a ≤ -nI b) ↔ b ≤ a := by
  rw [Int32.le_iff_toInt_le, neg_toInt ha, neg_toInt hb]; omega
theorem neg_lt {a b : Nat} (ha : a < 2 ^ 31) (hb : b < 2 ^ 31) : (-nI a < -nI b) ↔ b < a := by
  rw [Int32.lt_iff_toInt_lt, neg_toInt ha, neg_toInt hb]; omega
theorem neg_neg' (a : Nat) : -(-nI a) = nI a := by grind
/-- what is kept: what stood before the class, and W -/
def OU (A : Nat) (W : Nat → Prop) (q : Nat) : Prop := q < A ∨ W q
def KP (A : Nat) (W : Nat → Prop) (H H' : Hp) : Prop := ∀ q, OU A W q → H' q = H q
/-- a place for a builder or for its bytes -/
def PA (A q n : Nat) : Prop := q = ad A 11 9 ∨ q = ad A 11 10 ∨ A + 169 ≤ q ∧ q < n
/-- the builder at b holds the text t in cap bytes -/
def SB (A : Nat) (W : Nat → Prop) (b : Nat) (H : Hp) (cap : Nat) (t : List Int32) (n : Nat) : Prop := ∃ (v : Nat) (mb : Int32) (f : Nat → Int32), H b = some (.inr (7, [.ref v, .int 0, .int mb, .int (nI t.length)])) ∧ H v = some (ar .byte cap f) ∧ (PA A b n ∧ PA A v n ∧ v ≠ b ∧ ∀ q, W q → q ≠ b ∧ q ≠ v ∧ q < n) ∧ t.length ≤ cap ∧ (∀ i, i < t.length → f i = t.getD i 0) ∧ A + 169 ≤ n ∧ 16 ≤ cap ∧ cap ≤ 120
/-- how much room a step may take, beside the builder's own growth -/
def GR (n r cap n' r' cap' : Nat) : Prop := n ≤ n' ∧ r ≤ r' ∧ cap ≤ cap' ∧ n' + cap ≤ n + cap' ∧ r' + 2 * cap ≤ r + 2 * cap'
theorem GR_refl (n r cap : Nat) : GR n r cap n r cap := ⟨Nat.le_refl _, Nat.le_refl _, Nat.le_refl _, Nat.le_refl _, Nat.le_refl _⟩
theorem GR_trans {n r c n1 r1 c1 n2 r2 c2 : Nat} (h : GR n r c n1 r1 c1) (h' : GR n1 r1 c1 n2 r2 c2) : GR n r c n2 r2 c2 := by
  obtain ⟨a1, a2, a3, a4, a5⟩ := h
  obtain ⟨b1, b2, b3, b4, b5⟩ := h'
  exact ⟨by omega, by omega, by omega, by omega, by omega⟩
theorem KP_refl (A : Nat) (W : Nat → Prop) (H : Hp) : KP A W H H := fun _ _ => rfl
theorem KP_trans {A : Nat} {W : Nat → Prop} {H H1 H2 : Hp} (h : KP A W H H1) (h' : KP A W H1 H2) : KP A W H H2 := fun q hq => (h' q hq).trans (h q hq)
theorem ad_9 (A : Nat) : ad A 11 9 = A + 51 := by unfold ad pos; simp
theorem ad_10 (A : Nat) : ad A 11 10 = A + 52 := by unfold ad pos; simp
theorem KP_set {A q : Nat} {W : Nat → Prop} (hq : ¬ OU A W q) (H : Hp) (c : Cel) : KP A W H (hset H q c) := fun x hx => hset_ne (fun e => hq (e ▸ hx))
theorem pa_ne {A q n : Nat} (h : PA A q n) (hn : A + 169 ≤ n) : q ≠ n := by
  unfold PA at h; rw [ad_9, ad_10] at h; omega
theorem pa_up {A q n n' : Nat} (h : PA A q n) (hn : n ≤ n') : PA A q n' := by
  unfold PA at h ⊢; omega
theorem pa_A {A q n : Nat} (h : PA A q n) : A ≤ q := by
  unfold PA at h; rw [ad_9, ad_10] at h; omega
section
variable {A b v n : Nat} {W : Nat → Prop}
theorem ou_b (h3 : PA A b n ∧ PA A v n ∧ v ≠ b ∧ ∀ q, W q → q ≠ b ∧ q ≠ v ∧ q < n) : ¬ OU A W b := by
  rintro (h | h)
  · have := pa_A h3.1; omega
  · exact (h3.2.2.2 b h).1 rfl
theorem ou_v (h3 : PA A b n ∧ PA A v n ∧ v ≠ b ∧ ∀ q, W q → q ≠ b ∧ q ≠ v ∧ q < n) : ¬ OU A W v := by
  rintro (h | h)
  · have := pa_A h3.2.1; omega
  · exact (h3.2.2.2 v h).2.1 rfl
theorem ou_n (h3 : PA A b n ∧ PA A v n ∧ v ≠ b ∧ ∀ q, W q → q ≠ b ∧ q ≠ v ∧ q < n) (h6 : A + 169 ≤ n) : ¬ OU A W n := by
  rintro (h | h)
  · omega
  · exact Nat.lt_irrefl _ (h3.2.2.2 n h).2.2
theorem pa_FR {A q n : Nat} (h : PA A q n) : FR A q := by
  rcases h with h | h | h
  · exact Or.inr (Or.inl h)
  · exact Or.inr (Or.inr h)
  · exact Or.inl h.1
theorem FR_b (h3 : PA A b n ∧ PA A v n ∧ v ≠ b ∧ ∀ q, W q → q ≠ b ∧ q ≠ v ∧ q < n) : FR A b := pa_FR h3.1
theorem FR_v (h3 : PA A b n ∧ PA A v n ∧ v ≠ b ∧ ∀ q, W q → q ≠ b ∧ q ≠ v ∧ q < n) : FR A v := pa_FR h3.2.1
theorem v_ne9 (h3 : PA A b n ∧ PA A v n ∧ v ≠ b ∧ ∀ q, W q → q ≠ b ∧ q ≠ v ∧ q < n) : v ≠ b := h3.2.2.1
end
section
variable {A n r q : Nat} {H : Hp} {m : Mm}
theorem xfI {ci k : Nat} {fs : List Value} (h : FR A q) (hc : H q = some (.inr (ci, fs))) {x : Int32} (hk : fs[k]? = some (.int x)) : fI (S A H m n r) q ci k = some x := by
  unfold fI fV; rw [S_fr h, hc]; simp only [if_true, hk]
theorem xfR {ci k : Nat} {fs : List Value} (h : FR A q) (hc : H q = some (.inr (ci, fs))) {x : Nat} (hk : fs[k]? = some (.ref x)) : fR (S A H m n r) q ci k = some x := by
  unfold fR fV; rw [S_fr h, hc]; simp only [if_true, hk]
theorem xfW {ci k : Nat} {fs : List Value} (h : FR A q) (hc : H q = some (.inr (ci, fs))) (hk : k < fs.length) (v : Value) : fW (S A H m n r) q ci k v = some (S A (hset H q (.inr (ci, fs.set k v))) m n r) := by
  unfold fW; rw [S_fr h, hc]; simp only [true_and, if_pos hk]; rw [S_frw h]
theorem xrc {ci : Nat} {fs : List Value} (h : FR A q) (hc : H q = some (.inr (ci, fs))) : rcv (S A H m n r) q ci = true := by
  unfold rcv; rw [S_fr h, hc]; simp
theorem xaC {a b : Nat} (ha : FR A a) (hb : FR A b) {t : FieldType} {la lb k : Nat} {F F' : Nat → Int32} (h1 : H a = some (ar t la F)) (h2 : H b = some (ar t lb F')) (ht : t.isReference = false) (k1 : k ≤ la) (k2 : k ≤ lb) (hk : k < 2 ^ 31) : aC (S A H m n r) a 0 b 0 (nI k) = some (S A (hset H b (ar t lb (cpf F F' 0 0 k))) m n r) := by
  unfold aC; rw [S_fr ha, S_fr hb, h1, h2]
  simp only [ar]
  have e0 : (0 : Int32).toNatClampNeg = 0 := by decide
  rw [e0, nI_clamp hk]
  rw [if_pos ⟨trivial, ht, by decide, by decide, nI_pos hk, by simp only [List.length_map, List.length_range]; omega, by simp only [List.length_map, List.length_range]; omega⟩, cpy_ar t la lb 0 0 k _ _ (by omega) (by omega)]
  exact congrArg some (S_frw hb ..)
end
theorem rep_ar (k : Nat) : (Sum.inl (FieldType.byte, true, List.replicate k (Value.int 0)) : Cel) = ar .byte k (fun _ => 0) := by
  unfold ar; congr 3
  apply List.ext_getElem?
  intro i
  rw [List.getElem?_replicate, List.getElem?_map]
  by_cases h : i < k
  · simp [h]; rfl
  · simp [h]
def GB (G : Glb) : Prop := G 8 18 = some (.int 1)
theorem shr0 (x : Int32) : x >>> ((0 : Int32) &&& 31) = x := by
  have : ((0 : Int32) &&& 31) = 0 := by decide
  rw [this]; exact Int32.shiftRight_zero
theorem shl0 (x : Int32) : x <<< ((0 : Int32) &&& 31) = x := by
  have : ((0 : Int32) &&& 31) = 0 := by decide
  rw [this]; exact Int32.shiftLeft_zero
section
variable {G : Glb} {A n r cap b : Nat} {W : Nat → Prop} {H : Hp} {m : Mm} {t : List Int32}
theorem s328 {v : Nat} {f : Nat → Int32} (hv : FR A v) (hn : A + 169 ≤ n) (hvn : v ≠ n) (hc : H v = some (ar .byte cap f)) {k : Nat} (hk : cap < k) (hk2 : k ≤ 65536) (d : Nat) : call G d 328 [.ref v, .int (nI k)] (S A H m n r) = vR n (S A (hset H n (ar .byte k (cpf f (fun _ => 0) 0 0 cap))) m (n + 1) (r + k)) := by
  have hfn : FR A n := Or.inl (by omega)
  rw [b328_e, xaN hv hc]
  show (if nI k = nI cap then _ else _) = _
  rw [if_neg (fun e => by rw [nI_eq (by omega) (by omega)] at e; omega)]
  rw [if_neg (by
    rintro (h | h | h)
    · exact nI_pos (n := k) (by omega) h
    · rw [nI_clamp (by omega)] at h; omega
    · cases h)]
  rw [nI_clamp (by omega), rep_ar, wall_S (by omega)]
  have hc2 : hset H n (ar .byte k fun _ => 0) v = some (ar .byte cap f) := by rw [hset_ne hvn]; exact hc
  rw [xaN hv hc2]
  have em : (if nI k < nI cap then nI k else nI cap) = nI cap := if_neg (by rw [nI_ltI (by omega) (by omega)]; omega)
  show ((aC _ v 0 n 0 (if nI k < nI cap then nI k else nI cap)).bind _) = _
  rw [em, xaC hv hfn hc2 (hset_at ..) rfl (Nat.le_refl _) (by omega) (by omega), hset_hset]
  rfl
theorem s328c {v : Nat} {f : Nat → Int32} (hv : FR A v) (hn : A + 169 ≤ n) (hvn : v ≠ n) (hc : H v = some (ar .byte cap f)) {k : Nat} (hk : cap < k) (hk2 : k ≤ 65536) (d : Nat) (K : Nat → St → Res) : cR (call G d 328 [.ref v, .int (nI k)] (S A H m n r)) K = K n (S A (hset H n (ar .byte k (cpf f (fun _ => 0) 0 0 cap))) m (n + 1) (r + k)) := congrArg (fun z => cR z K) (show call G d 328 [.ref v, .int (nI k)] (S A H m n r) = vR n (S A (hset H n (ar .byte k (cpf f (fun _ => 0) 0 0 cap))) m (n + 1) (r + k)) from by apply s328 <;> assumption)
theorem s329 {a b c : Nat} (h : a + max b c ≤ 2147483639) (h0 : 0 < a + max b c) (d : Nat) (σ : St) : call G d 329 [.int (nI a), .int (nI b), .int (nI c)] σ = vI (nI (a + max b c)) σ := by
  have em : (if nI b < nI c then nI c else nI b) = nI (max b c) := by
    by_cases hc : b < c
    · rw [if_pos ((nI_ltI (by omega) (by omega)).mpr hc), Nat.max_eq_right (by omega)]
    · rw [if_neg (fun e => hc ((nI_ltI (by omega) (by omega)).mp e)), Nat.max_eq_left (by omega)]
  rw [b329_e, em, nI_add]
  rw [if_neg (nI_nle h0 (by omega)), if_neg (by rw [show (2147483639 : Int32) = nI 2147483639 from rfl, nI_ltI (by omega) (by omega)]; omega)]
  rfl
/-- room for k bytes -/
theorem s329c {a b c : Nat} (h : a + max b c ≤ 2147483639) (h0 : 0 < a + max b c) (d : Nat) (σ : St) (K : Int32 → St → Res) : cI (call G d 329 [.int (nI a), .int (nI b), .int (nI c)] σ) K = K (nI (a + max b c)) σ := congrArg (fun z => cI z K) (show call G d 329 [.int (nI a), .int (nI b), .int (nI c)] σ = vI (nI (a + max b c)) σ from by apply s329 <;> assumption)
theorem s303 (hs : SB A W b H cap t n) {k : Nat} (hk : k ≤ 60) (_hk16 : k ≤ 60) (d : Nat) : ∃ H' n' r' cap', call G (d + 2) 303 [.ref b, .int (nI k)] (S A H m n r) = vV (S A H' m n' r') ∧ SB A W b H' cap' t n' ∧ k ≤ cap' ∧ KP A W H H' ∧ GR n r cap n' r' cap' := by
  obtain ⟨v, mb, f, h1, h2, h3, h4, h5, h6, h7, h8⟩ := hs
  have hv := FR_v h3
  rw [b303_e, xfR (FR_b h3) h1 rfl]
  show ∃ H' n' r' cap', ((aN (S A H m n r) v).bind _ = _) ∧ _
  rw [xaN hv h2]
  show ∃ H' n' r' cap', ((fI (S A H m n r) b 7 1).bind _ = _) ∧ _
  rw [xfI (FR_b h3) h1 rfl]
  show ∃ H' n' r' cap', ((if (nI k - (nI cap >>> ((0 : Int32) &&& 31))) ≤ 0 then _ else _) = _) ∧ _
  rw [shr0]
  by_cases hc : k ≤ cap
  · have e : nI k - nI cap ≤ 0 := by
      rw [Int32.le_iff_toInt_le, Int32.toInt_sub, nI_toInt (by omega), nI_toInt (by omega), Int.bmod_def]
      have : (0 : Int32).toInt = 0 := by decide
      omega
    rw [if_pos e]
    exact ⟨H, n, r, cap, rfl, ⟨v, mb, f, h1, h2, h3, h4, h5, h6, h7, h8⟩, hc, KP_refl _ _ _, GR_refl _ _ _⟩
  · obtain ⟨N, hN1, hN2, hN3, hN4⟩ : ∃ N, N = max k (2 * cap + 2) ∧ 2 * cap + 2 ≤ N ∧ k ≤ N ∧ N ≤ 120 := ⟨_, rfl, Nat.le_max_right _ _, Nat.le_max_left _ _, by omega⟩
    have e : ¬ nI k - nI cap ≤ 0 := by
      rw [nI_sub (by omega)]; exact nI_nle (by omega) (by omega)
    rw [if_neg e]
    have hne : v ≠ n := pa_ne h3.2.1 h6
    have e304 : call G (d + 1) 304 [.ref b, .int (nI k)] (S A H m n r) = vI (nI (N)) (S A H m n r) := by
      rw [b304_e, xfR (FR_b h3) h1 rfl]
      show ((aN (S A H m n r) v).bind _ = _)
      rw [xaN hv h2]
      show ((fI (S A H m n r) b 7 1).bind _ = _)
      rw [xfI (FR_b h3) h1 rfl]
      show cI (call G d 329 [.int (nI cap), .int ((nI k <<< ((0 : Int32) &&& 31)) - nI cap), .int (nI cap + ((2 : Int32) <<< ((0 : Int32) &&& 31)))] _) _ = _
      rw [shl0, shl0, nI_sub (by omega), show nI cap + 2 = nI (cap + 2) from nI_add cap 2, s329 (by omega) (by omega)]
      have em : cap + max (k - cap) (cap + 2) = N := by omega
      rw [em]
      show (if nI (N) = 2147483647 then none else (fI (S A H m n r) b 7 1).bind _) = _
      rw [if_neg (by rw [show (2147483647 : Int32) = nI 2147483647 from rfl, nI_eq (by omega) (by omega)]; omega), xfI (FR_b h3) h1 rfl]
      show some (Sum.inl (some (Value.int (nI (N) >>> ((0 : Int32) &&& 31)))), _) = _
      rw [shr0]; rfl
    show ∃ H' n' r' cap', ((if rcv (S A H m n r) b 7 = true then _ else none) = _) ∧ _
    rw [if_pos (xrc (FR_b h3) h1), e304]
    show ∃ H' n' r' cap', ((fI (S A H m n r) b 7 1).bind _ = _) ∧ _
    rw [xfI (FR_b h3) h1 rfl]
    show ∃ H' n' r' cap', (cR (call G (d + 1) 328 [.ref v, .int (nI (N) <<< ((0 : Int32) &&& 31))] _) _ = _) ∧ _
    rw [shl0, s328 hv h6 hne h2 (by omega) (by omega)]
    have h1' : hset H n (ar .byte (N) (cpf f (fun _ => 0) 0 0 cap)) b = some (.inr (7, [.ref v, .int 0, .int mb, .int (nI t.length)])) := by
      rw [hset_ne (pa_ne h3.1 h6)]; exact h1
    show ∃ H' n' r' cap', ((fW _ b 7 0 (.ref n)).bind _ = _) ∧ _
    rw [xfW (FR_b h3) h1' (by simp)]
    refine ⟨_, n + 1, r + (N), N, rfl, ⟨n, mb, cpf f (fun _ => 0) 0 0 cap, hset_at .., ?_, ⟨pa_up h3.1 (by omega), Or.inr (Or.inr ⟨h6, by omega⟩), Ne.symm (pa_ne h3.1 h6), fun q hq => ⟨(h3.2.2.2 q hq).1, Nat.ne_of_lt (h3.2.2.2 q hq).2.2, by have := (h3.2.2.2 q hq).2.2; omega⟩⟩, by omega, ?_, by omega, by omega, by omega⟩, by omega, ?_, ⟨by omega, by omega, by omega, by omega, by omega⟩⟩
    · rw [hset_ne (Ne.symm (pa_ne h3.1 h6)), hset_at]
    · intro i hi
      unfold cpf
      rw [if_pos (by omega)]
      exact h5 i hi
    · exact KP_trans (KP_set (ou_n h3 h6) _ _) (KP_set (ou_b h3) _ _)
theorem s309 (hg : GB G) (hs : SB A W b H cap t n) (d : Nat) : call G d 309 [.ref b] (S A H m n r) = vI 1 (S A H m n r) := by
  obtain ⟨v, mb, f, h1, h2, h3, h4, h5, h6, h7, h8⟩ := hs
  rw [b309_e, hg]
  simp only [gI_sm]
  rw [if_neg not1, xfI (FR_b h3) h1 rfl]; rfl
theorem s309c (hg : GB G) (hs : SB A W b H cap t n) (d : Nat) (K : Int32 → St → Res) : cI (call G d 309 [.ref b] (S A H m n r)) K = K 1 (S A H m n r) := congrArg (fun z => cI z K) (show call G d 309 [.ref b] (S A H m n r) = vI 1 (S A H m n r) from by apply s309 <;> assumption)
theorem s324 (hs : SB A W b H cap t n) (d : Nat) : call G (d + 1) 324 [.ref b] (S A H m n r) = vI (nI t.length) (S A H m n r) := by
  obtain ⟨v, mb, f, h1, h2, h3, h4, h5, h6, h7, h8⟩ := hs
  rw [b324_e, if_pos (xrc (FR_b h3) h1), b302_e, xfI (FR_b h3) h1 rfl]; rfl
theorem s324c (hs : SB A W b H cap t n) (d : Nat) (K : Int32 → St → Res) : cI (call G (d + 1) 324 [.ref b] (S A H m n r)) K = K (nI t.length) (S A H m n r) := congrArg (fun z => cI z K) (show call G (d + 1) 324 [.ref b] (S A H m n r) = vI (nI t.length) (S A H m n r) from by apply s324 <;> assumption)
theorem SB_rc (hs : SB A W b H cap t n) : rcv (S A H m n r) b 7 = true := by
  obtain ⟨v, mb, f, h1, h2, h3, h4, h5, h6, h7, h8⟩ := hs
  exact xrc (FR_b h3) h1
/-- the text is emptied -/
theorem s323 (hs : SB A W b H cap t n) (d : Nat) : ∃ H', call G (d + 4) 323 [.ref b, .int 0] (S A H m n r) = vV (S A H' m n r) ∧ SB A W b H' cap [] n ∧ KP A W H H' := by
  obtain ⟨H1, n1, r1, c1, e1, s1, k1, p1, g1⟩ := s303 (G := G) (m := m) (r := r) hs (k := 0) (by omega) (by omega) d
  have hs0 := hs
  obtain ⟨v, mb, f, h1, h2, h3, h4, h5, h6, h7, h8⟩ := hs
  have e303 : call G (d + 2) 303 [.ref b, .int 0] (S A H m n r) = vV (S A H m n r) := by
    rw [b303_e, xfR (FR_b h3) h1 rfl]
    show ((aN (S A H m n r) v).bind _ = _)
    rw [xaN (FR_v h3) h2]
    show ((fI (S A H m n r) b 7 1).bind _ = _)
    rw [xfI (FR_b h3) h1 rfl]
    show ((if ((0 : Int32) - (nI cap >>> ((0 : Int32) &&& 31))) ≤ 0 then _ else _) = _)
    rw [shr0, if_pos (by
      rw [Int32.le_iff_toInt_le, Int32.toInt_sub, nI_toInt (by omega), Int.bmod_def]
      have : (0 : Int32).toInt = 0 := by decide
      omega)]
    rfl
  have fin : ∀ (H : Hp) mb, H b = some (.inr (7, [.ref v, .int 0, .int mb, .int (nI t.length)])) → H v = some (ar .byte cap f) → run G (d + 3) 305 76 [some (.ref b), some (.int 0)] [] (S A H m n r) = vV (S A (hset H b (.inr (7, [.ref v, .int 0, .int mb, .int 0]))) m n r) := by
    intro H mb h1 h2
    rw [b305_76, xfW (FR_b h3) h1 (by simp)]; rfl
  have hsb : ∀ (H : Hp) mb, H v = some (ar .byte cap f) → SB A W b (hset H b (.inr (7, [.ref v, .int 0, .int mb, .int 0]))) cap [] n := by
    intro H mb h2
    refine ⟨v, mb, f, hset_at .., ?_, h3, Nat.zero_le _, fun i hi => absurd hi (by simp), h6, h7, h8⟩
    rw [hset_ne (v_ne9 h3)]; exact h2
  rw [b323_e, if_pos (xrc (FR_b h3) h1), b305_e, if_pos (by decide), if_pos (xrc (FR_b h3) h1), e303]
  show ∃ H', (cV ((fI (S A H m n r) b 7 3).bind _) _ = _) ∧ _
  rw [xfI (FR_b h3) h1 rfl]
  show ∃ H', (cV (if (0 : Int32) ≤ nI t.length then _ else _) _ = _) ∧ _
  rw [if_pos (nI_pos' (by omega))]
  show ∃ H', (cV (if nI t.length ≤ 0 then _ else _) _ = _) ∧ _
  by_cases hl : nI t.length ≤ 0
  · rw [if_pos hl, fin H mb h1 h2]
    exact ⟨_, rfl, hsb _ _ h2, KP_set (ou_b h3) _ _⟩
  · rw [if_neg hl, xfW (FR_b h3) h1 (by simp)]
    show ∃ H', (cV (run G (d + 3) 305 76 [some (.ref b), some (.int 0)] [] (S A (hset H b (.inr (7, [.ref v, .int 0, .int 1, .int (nI t.length)]))) m n r)) _ = _) ∧ _
    rw [fin _ 1 (hset_at ..) (by rw [hset_ne (v_ne9 h3)]; exact h2), hset_hset]
    exact ⟨_, rfl, hsb _ _ h2, KP_set (ou_b h3) _ _⟩
theorem by_all : ∀ c, c < 128 → (nI c).toInt8.toInt32 = nI c ∧ vp_nar .byte (nI c) = nI c ∧ ¬ (255 : Int32) < nI c := by decide +kernel
/-- a letter is put behind the text -/
theorem s320 (hg : GB G) (hs : SB A W b H cap t n) (hl : t.length + 1 ≤ 60) {c : Nat} (hc : c < 128) (d : Nat) : ∃ H' n' r' cap', call G (d + 4) 320 [.ref b, .int (nI c)] (S A H m n r) = vR b (S A H' m n' r') ∧ SB A W b H' cap' (t ++ [nI c]) n' ∧ KP A W H H' ∧ GR n r cap n' r' cap' := by
  obtain ⟨H1, n1, r1, c1, e1, s1, k1, p1, g1⟩ := s303 (G := G) (m := m) (r := r) hs (k := t.length + 1) hl (by omega) d
  have hr0 := SB_rc (m := m) (r := r) hs
  have hr1 := SB_rc (m := m) (r := r1) s1
  have e309 := s309 (G := G) (m := m) (r := r1) hg s1 (d + 2)
  obtain ⟨v0, mb0, f0, h01, h02, h03, _⟩ := hs
  obtain ⟨v, mb, f, h1, h2, h3, h4, h5, h6, h7, h8⟩ := s1
  obtain ⟨y1, y2, y3⟩ := by_all c hc
  rw [b320_e, if_pos hr0, b307_e, xfI (FR_b h03) h01 rfl]
  show ∃ H' n' r' cap', (cR (if rcv (S A H m n r) b 7 = true then cV (call G (d + 2) 303 [.ref b, .int (nI t.length + 1)] _) _ else none) _ = _) ∧ _
  rw [if_pos hr0, nI_1, e1]
  show ∃ H' n' r' cap', (cR (if rcv (S A H1 m n1 r1) b 7 = true then cI (call G (d + 2) 309 [.ref b] _) _ else none) _ = _) ∧ _
  rw [if_pos hr1, e309]
  simp only [vI_def, cI_ok]
  rw [if_neg not1, b326_e, if_neg y3]
  simp only [cI_ok]
  rw [if_neg not1, xfR (FR_b h3) h1 rfl]
  show ∃ H' n' r' cap', (cR ((fI (S A H1 m n1 r1) b 7 3).bind _) _ = _) ∧ _
  rw [xfI (FR_b h3) h1 rfl]
  show ∃ H' n' r' cap', (cR ((fW (S A H1 m n1 r1) b 7 3 (.int (nI t.length + 1))).bind _) _ = _) ∧ _
  rw [xfW (FR_b h3) h1 (by simp), nI_1]
  show ∃ H' n' r' cap', (cR ((aW (S A (hset H1 b (.inr (7, [.ref v, .int 0, .int mb, .int (nI (t.length + 1))]))) m n1 r1) okB v (nI t.length) (.int (nI c).toInt8.toInt32)).bind _) _ = _) ∧ _
  have h2' : hset H1 b (.inr (7, [.ref v, .int 0, .int mb, .int (nI (t.length + 1))])) v = some (ar .byte c1 f) := by rw [hset_ne (v_ne9 h3)]; exact h2
  rw [y1, xaW (FR_v h3) h2' rfl (by omega) (by omega) rfl]
  refine ⟨_, n1, r1, c1, rfl, ⟨v, mb, _, ?_, hset_at .., h3, ?_, ?_, h6, h7, h8⟩, ?_, g1⟩
  · rw [hset_ne (Ne.symm (v_ne9 h3)), hset_at, List.length_append, List.length_singleton]
  · rw [List.length_append, List.length_singleton]; omega
  · intro i hi
    rw [List.length_append, List.length_singleton] at hi
    rw [List.getD_eq_getElem?_getD, List.getElem?_append]
    by_cases e : i < t.length
    · rw [if_pos e, if_neg (by omega), h5 i e, List.getD_eq_getElem?_getD]
    · have : i = t.length := by omega
      subst this
      rw [if_neg e, if_pos rfl, Nat.sub_self]; rfl
  · exact KP_trans p1 (KP_trans (KP_set (ou_b h3) _ _) (KP_set (ou_v h3) _ _))
theorem s322 (hg : GB G) (hgs : GS G) (hs : SB A W b H cap t n) {i : Nat} (hi : i < t.length) {c : Nat} (hc : c < 128) (hti : t.getD i 0 = nI c) (d : Nat) : call G (d + 4) 322 [.ref b, .int (nI i)] (S A H m n r) = vI (nI c) (S A H m n r) := by
  have hr0 := SB_rc (m := m) (r := r) hs
  obtain ⟨v, mb, f, h1, h2, h3, h4, h5, h6, h7, h8⟩ := hs
  obtain ⟨y1, y2, y3⟩ := by_all c hc
  rw [b322_e, if_pos hr0, b306_e, xfI (FR_b h3) h1 rfl]
  show cI ((fR (S A H m n r) b 7 0).bind _) _ = _
  rw [xfR (FR_b h3) h1 rfl]
  show cI ((fI (S A H m n r) b 7 3).bind _) _ = _
  rw [xfI (FR_b h3) h1 rfl]
  show cI ((aN (S A H m n r) v).bind _) _ = _
  rw [xaN (FR_v h3) h2]
  show cI (cV (call G (d + 2) 318 [.int (nI i), .int (if (nI cap >>> ((0 : Int32) &&& 31)) < nI t.length then (nI cap >>> ((0 : Int32) &&& 31)) else nI t.length)] _) _) _ = _
  rw [shr0, if_neg (by rw [nI_ltI (by omega) (by omega)]; omega), s318 hgs hi (by omega)]
  simp only [vV_def, cV_ok]
  rw [if_pos trivial, xaI (FR_v h3) h2 rfl (by omega) (by omega), h5 i hi, hti, y2]
  show cI (if fits .char (.int (((nI c &&& 255) : Int32).toUInt32 % 65536).toInt32) = true then _ else none) _ = _
  rw [(asc_all c hc).1, if_pos (asc_all c hc).2]
  show (if fits .char (.int (nI c)) = true then _ else none) = _
  rw [if_pos (asc_all c hc).2]; rfl
theorem s322c (hg : GB G) (hgs : GS G) (hs : SB A W b H cap t n) {i : Nat} (hi : i < t.length) {c : Nat} (hc : c < 128) (hti : t.getD i 0 = nI c) (d : Nat) (K : Int32 → St → Res) : cI (call G (d + 4) 322 [.ref b, .int (nI i)] (S A H m n r)) K = K (nI c) (S A H m n r) := congrArg (fun z => cI z K) (show call G (d + 4) 322 [.ref b, .int (nI i)] (S A H m n r) = vI (nI c) (S A H m n r) from by apply s322 <;> assumption)
end
