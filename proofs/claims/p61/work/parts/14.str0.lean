/-! STRINGS that the program reads: texts of plain letters. -/
theorem S_lo {A q : Nat} (h : q < A) (H : Hp) (m : Mm) (n r : Nat) : (S A H m n r).1 q = H q := by
  show (if A ≤ q ∧ q < A + 169 then _ else _) = _
  rw [if_neg (by omega)]
/-- an array that is only read: its first N values, its length as the machine says it -/
def AK (o : Option Cel) (ty : FieldType) (fl : Bool) (N : Nat) (f : Nat → Value) : Prop := ∃ l, o = some (.inl (ty, fl, l)) ∧ Int32.ofNat l.length = nI N ∧ ∀ i, i < N → l[i]? = some (f i)
theorem AK_n {A q n r N : Nat} {H : Hp} {m : Mm} {ty : FieldType} {fl : Bool} {f : Nat → Value} (hq : q < A) (h : AK (H q) ty fl N f) : aN (S A H m n r) q = some (nI N) := by
  obtain ⟨l, h1, h2, _⟩ := h
  unfold aN; rw [S_lo hq, h1]; exact congrArg some h2
theorem AK_v {A q n r N i : Nat} {H : Hp} {m : Mm} {ty : FieldType} {fl : Bool} {f : Nat → Value} {ok : FieldType → Bool} (hq : q < A) (h : AK (H q) ty fl N f) (ho : ok ty = true) (hi : i < N) (hN : N < 2 ^ 31) : aV (S A H m n r) ok q (nI i) = some (f i) := by
  obtain ⟨l, h1, _, h3⟩ := h
  unfold aV aL; rw [S_lo hq, h1]
  simp only [ho, if_true, Option.bind_some]
  rw [if_neg (nI_pos (by omega)), nI_clamp (by omega)]
  exact h3 i hi
/-- a string at a with these letters -/
def STR (G : Glb) (H : Hp) (A a : Nat) (t : List Nat) : Prop := ((G 2009 a).isSome = true ∧ G 2001 a = some (.int 0)) ∧ (∀ c, c ∈ t → c < 128) ∧ t.length < 100 ∧ ∃ va, va < A ∧ G 2000 a = some (.ref va) ∧ AK (H va) .byte false t.length (fun i => .int (nI (t.getD i 0)))
/-- the statics that strings ask for -/
def GS (G : Glb) : Prop := G 12 38 = some (.int 1) ∧ (G 12 1053 = some .null ∨ ∃ v, G 12 1053 = some (.ref v))
theorem b330_n (G : Glb) (d : Nat) (x0 x1 : Int32) (σ : St) : call G d 330 [.int x0, .int x1, .null] σ = (if x0 < 0 then run G d 330 9 [some (.int x0), some (.int x1), some .null] [] σ else (if x0 < x1 then some (.inl (some (.int x0)), σ) else run G d 330 9 [some (.int x0), some (.int x1), some .null] [] σ)) := (blk_eq G 330 (nst [9]) rfl 30 d 0 _ [] σ).trans rfl
theorem asc_all : ∀ c, c < 128 → (((nI c &&& 255) : Int32).toUInt32 % 65536).toInt32 = nI c ∧ fits .char (.int (nI c)) = true := by decide +kernel
theorem rcvG_str {G : Glb} {a : Nat} (h : (G 2009 a).isSome = true) (σ : St) : rcvG G σ a 6 = true := by
  unfold rcvG
  show ((G 2009 a).isSome || rcv σ a 6) = true
  rw [h]; rfl
theorem sV_str {G : Glb} {a : Nat} (h : (G 2009 a).isSome = true) (σ : St) (f : Nat) : sV G σ a f = G (roK 100 f) a := by
  unfold sV
  show (match G 2009 a with
    | some _ => G (roK 100 f) a
    | none => fV σ a 6 f) = _
  cases e : G 2009 a with
  | none => rw [e] at h; cases h
  | some v => rfl
theorem sV_0 {G : Glb} {a : Nat} (h : (G 2009 a).isSome = true) (σ : St) : sV G σ a 0 = G 2000 a := sV_str h σ 0
theorem sV_1 {G : Glb} {a : Nat} (h : (G 2009 a).isSome = true) (σ : St) : sV G σ a 1 = G 2001 a := sV_str h σ 1
section
variable {G : Glb} {A n r a : Nat} {H : Hp} {m : Mm} {t : List Nat}
theorem s318 (hg : GS G) {i L : Nat} (hi : i < L) (hL : L < 2 ^ 31) (d : Nat) (σ : St) : call G (d + 1) 318 [.int (nI i), .int (nI L)] σ = vV σ := by
  have h0 : ¬ nI i < 0 := nI_pos (by omega)
  have h1 : nI i < nI L := (nI_ltI (by omega) hL).mpr hi
  rw [b318_e]
  rcases hg.2 with h | ⟨v, h⟩
  · rw [h]
    show cI (call G d 330 [.int (nI i), .int (nI L), .null] σ) _ = _
    rw [b330_n, if_neg h0, if_pos h1]; rfl
  · rw [h]
    show cI (call G d 330 [.int (nI i), .int (nI L), .ref v] σ) _ = _
    rw [b330_e, if_neg h0, if_pos h1]; rfl
theorem s318c (hg : GS G) {i L : Nat} (hi : i < L) (hL : L < 2 ^ 31) (d : Nat) (σ : St) (K : St → Res) : cV (call G (d + 1) 318 [.int (nI i), .int (nI L)] σ) K = K σ := congrArg (fun z => cV z K) (show call G (d + 1) 318 [.int (nI i), .int (nI L)] σ = vV σ from by apply s318 <;> assumption)
theorem s316 (hg : GS G) (hs : STR G H A a t) (d : Nat) (σ : St) : call G d 316 [.ref a] σ = vI 0 σ := by
  rw [b316_e, hg.1]
  simp only [gI_sm]
  rw [if_neg not1, sV_1 hs.1.1, hs.1.2]; rfl
theorem s316c (hg : GS G) (hs : STR G H A a t) (d : Nat) (σ : St) (K : Int32 → St → Res) : cI (call G d 316 [.ref a] σ) K = K 0 σ := congrArg (fun z => cI z K) (show call G d 316 [.ref a] σ = vI 0 σ from by apply s316 <;> assumption)
theorem s317 (hg : GS G) (hs : STR G H A a t) (d : Nat) (σ : St) : call G d 317 [.ref a] σ = vI 1 σ := by
  rw [b317_e, hg.1]
  simp only [gI_sm]
  rw [if_neg not1, sV_1 hs.1.1, hs.1.2]; rfl
theorem s317c (hg : GS G) (hs : STR G H A a t) (d : Nat) (σ : St) (K : Int32 → St → Res) : cI (call G d 317 [.ref a] σ) K = K 1 σ := congrArg (fun z => cI z K) (show call G d 317 [.ref a] σ = vI 1 σ from by apply s317 <;> assumption)
theorem s314 (hg : GS G) (hs : STR G H A a t) (d : Nat) : call G (d + 1) 314 [.ref a] (S A H m n r) = vI (nI t.length) (S A H m n r) := by
  obtain ⟨va, hv1, hv2, hv3⟩ := hs.2.2.2
  rw [b314_e, sV_0 hs.1.1, hv2]
  show (aN (S A H m n r) va).bind _ = _
  have e : aN (S A H m n r) va = some (nI t.length) := by
    exact AK_n hv1 hv3
  rw [e]
  show (if rcvG G (S A H m n r) a 6 = true then _ else none) = _
  rw [if_pos (rcvG_str hs.1.1 _), s316 hg hs]
  show some (Sum.inl (some (Value.int (nI t.length >>> ((0 : Int32) &&& 31)))), S A H m n r) = _
  have e2 : nI t.length >>> ((0 : Int32) &&& 31) = nI t.length := by
    have : ((0 : Int32) &&& 31) = 0 := by decide
    rw [this]; exact Int32.shiftRight_zero
  rw [e2]; rfl
theorem s314c (hg : GS G) (hs : STR G H A a t) (d : Nat) (K : Int32 → St → Res) : cI (call G (d + 1) 314 [.ref a] (S A H m n r)) K = K (nI t.length) (S A H m n r) := congrArg (fun z => cI z K) (show call G (d + 1) 314 [.ref a] (S A H m n r) = vI (nI t.length) (S A H m n r) from by apply s314 <;> assumption)
theorem s325 (hg : GS G) {va : Nat} (hv1 : va < A) (hv3 : AK (H va) .byte false t.length (fun i => .int (nI (t.getD i 0)))) (ht : ∀ c, c ∈ t → c < 128) (hl : t.length < 100) {i : Nat} (hi : i < t.length) (d : Nat) : call G (d + 2) 325 [.ref va, .int (nI i)] (S A H m n r) = vI (nI (t.getD i 0)) (S A H m n r) := by
  have hc : t.getD i 0 < 128 := by
    rw [List.getD_eq_getElem?_getD, List.getElem?_eq_getElem hi]; exact ht _ (List.getElem_mem hi)
  rw [b325_e]
  have e : aN (S A H m n r) va = some (nI t.length) := by
    exact AK_n hv1 hv3
  have e2 : aI (S A H m n r) okB va (nI i) = some (nI (t.getD i 0)) := by
    unfold aI; rw [AK_v hv1 hv3 rfl hi (by omega)]
  rw [e]
  show cV (call G (d + 1) 318 [.int (nI i), .int (nI t.length)] _) _ = _
  rw [s318 hg hi (by omega)]
  show (aI (S A H m n r) okB va (nI i)).bind _ = _
  rw [e2]
  show (if fits .char (.int (((nI (t.getD i 0) &&& 255) : Int32).toUInt32 % 65536).toInt32) = true then _ else none) = _
  rw [(asc_all _ hc).1, if_pos (asc_all _ hc).2]; rfl
theorem s325c (hg : GS G) {va : Nat} (hv1 : va < A) (hv3 : AK (H va) .byte false t.length (fun i => .int (nI (t.getD i 0)))) (ht : ∀ c, c ∈ t → c < 128) (hl : t.length < 100) {i : Nat} (hi : i < t.length) (d : Nat) (K : Int32 → St → Res) : cI (call G (d + 2) 325 [.ref va, .int (nI i)] (S A H m n r)) K = K (nI (t.getD i 0)) (S A H m n r) := congrArg (fun z => cI z K) (show call G (d + 2) 325 [.ref va, .int (nI i)] (S A H m n r) = vI (nI (t.getD i 0)) (S A H m n r) from by apply s325 <;> assumption)
theorem s315 (hg : GS G) (hs : STR G H A a t) {i : Nat} (hi : i < t.length) (d : Nat) : call G (d + 3) 315 [.ref a, .int (nI i)] (S A H m n r) = vI (nI (t.getD i 0)) (S A H m n r) := by
  obtain ⟨va, hv1, hv2, hv3⟩ := hs.2.2.2
  have hc : t.getD i 0 < 128 := by
    rw [List.getD_eq_getElem?_getD, List.getElem?_eq_getElem hi]; exact hs.2.1 _ (List.getElem_mem hi)
  rw [b315_e, if_pos (rcvG_str hs.1.1 _), s317 hg hs]
  simp only [vI, cI_ok, sV_0 hs.1.1, hv2, gR_sm]
  rw [if_neg not1, s325 hg hv1 hv3 hs.2.1 hs.2.2.1 hi]
  simp only [vI, cI_ok]
  rw [if_pos (asc_all _ hc).2]
theorem s315c (hg : GS G) (hs : STR G H A a t) {i : Nat} (hi : i < t.length) (d : Nat) (K : Int32 → St → Res) : cI (call G (d + 3) 315 [.ref a, .int (nI i)] (S A H m n r)) K = K (nI (t.getD i 0)) (S A H m n r) := congrArg (fun z => cI z K) (show call G (d + 3) 315 [.ref a, .int (nI i)] (S A H m n r) = vI (nI (t.getD i 0)) (S A H m n r) from by apply s315 <;> assumption)
end
