/-! THE LAW'S SUM of a board. -/
def smR (B : Bd) (i : Nat) : Nat → Int64 → Int64
  | 0, h => h
  | j + 1, h => (2 * smR B i j h) + (bI (rfB B i j) : Int32).toInt64
def smA (B : Bd) (k : Nat) : Nat → Int64 → Int64
  | 0, h => h
  | i + 1, h => smR B i k (((41 * (((37 * (((31 * smA B k i h) + ((1000 * chr (B 3 i)) : Int32).toInt64) + (B 4 i : Int32).toInt64)) + ((100 * B 5 i) : Int32).toInt64) + (B 6 i : Int32).toInt64)) + ((20 * B 2 i) : Int32).toInt64) + (ownI B i : Int32).toInt64)
def smP (B : Bd) : Nat → Int64 → Int64
  | 0, h => h
  | q + 1, h => ((47 * (((43 * smP B q h) + ((1000 * chr (B 10 q)) : Int32).toInt64) + (B 11 q : Int32).toInt64)) + ((100 * B 12 q) : Int32).toInt64) + (B 13 q : Int32).toInt64
def smB (B : Bd) (k p : Nat) : Int64 := smP B p (smA B k k (7 + (B 0 2 : Int32).toInt64))
theorem smB_EB {B B' : Bd} (h : EB B B') {k p : Nat} (hk : k ≤ 10) (hp : p ≤ 6) : smB B k p = smB B' k p := by
  obtain ⟨⟨h1, _, _, _⟩, h2, h3⟩ := h
  have eR : ∀ i j y, i < 10 → j ≤ 10 → smR B i j y = smR B' i j y := by
    intro i j y hi
    induction j with
    | zero => intro _; rfl
    | succ j ih =>
      intro hj
      have er : rfB B i j = rfB B' i j := by unfold rfB; rw [h2 8 j (by omega) (by omega) (by omega)]
      rw [smR, smR, ih (by omega), er]
  have eA : ∀ i y, i ≤ k → smA B k i y = smA B' k i y := by
    intro i y
    induction i with
    | zero => intro _; rfl
    | succ i ih =>
      intro hi
      have eo : ownI B i = ownI B' i := by unfold ownI waB; rw [h2 7 i (by omega) (by omega) (by omega)]
      rw [smA, smA, ih (by omega), eo, h2 2 i (by omega) (by omega) (by omega), h2 3 i (by omega) (by omega) (by omega), h2 4 i (by omega) (by omega) (by omega), h2 5 i (by omega) (by omega) (by omega), h2 6 i (by omega) (by omega) (by omega), eR i k _ (by omega) hk]
  have eP : ∀ q y, q ≤ p → smP B q y = smP B' q y := by
    intro q y
    induction q with
    | zero => intro _; rfl
    | succ q ih =>
      intro hq
      rw [smP, smP, ih (by omega), h3 10 q (by omega) (by omega) (by omega), h3 11 q (by omega) (by omega) (by omega), h3 12 q (by omega) (by omega) (by omega), h3 13 q (by omega) (by omega) (by omega)]
  unfold smB
  rw [h1, eA k _ (Nat.le_refl k), eP p _ (Nat.le_refl p)]
/-- the sum of a board by what it says of itself -/
def sumB (B : Bd) : Int64 := smB B (nt (B 1 0)) (nt (B 9 0))
theorem sumB_of {B : Bd} {k p : Nat} (hn : B 1 0 = nI k) (hk : k ≤ 10) (hp : B 9 0 = nI p) (hq : p ≤ 6) : sumB B = smB B k p := by
  unfold sumB; rw [hn, hp, nt_nI (by omega), nt_nI (by omega)]
theorem sumB_EB {B B' : Bd} (h : EB B B') {k p : Nat} (hn : B 1 0 = nI k) (hk : k ≤ 10) (hp : B 9 0 = nI p) (hq : p ≤ 6) : sumB B = sumB B' := by
  rw [sumB_of hn hk hp hq, sumB_of (h.1.2.1.symm.trans hn) hk (h.1.2.2.2.symm.trans hp) hq]
  exact smB_EB h hk hq
section
variable {G : Glb} {A n r k p : Nat} {H : Hp} {m : Mm}
theorem cJ_of {R : Res} {x : Int64} {σ : St} (h : R = some (.inl (some (.long x)), σ)) (K : Int64 → St → Res) : cJ R K = K x σ := by rw [h]; rfl
theorem s196_r (hf : ∀ i, i < k → fx (m 0) k (m 0 2 i) = some i) (hn : m 0 1 0 = nI k) (hk : k ≤ 10) {i : Nat} (hi : i < k) (d : Nat) (h0 : Int64) : ∀ t j, j + t = k → run G (d + 6) 196 102 [some (.ref (ad A 11 0)), some (.long (smR (m 0) i j h0)), none, some (.int (nI i)), some (.int (m 0 2 i)), some (.int (nI j))] [] (S A H m n r) = run G (d + 6) 196 12 [some (.ref (ad A 11 0)), some (.long (smR (m 0) i k h0)), none, some (.int (nI (i + 1))), some (.int (m 0 2 i)), some (.int (nI k))] [] (S A H m n r) := by
  intro t
  induction t with
  | zero =>
    intro j hj
    have : j = k := by omega
    subst this
    rw [b196_102, if_pos rcX0, cI_of (s48 hn hk (d + 5)), if_pos (Int32.le_refl _), nI_1]
  | succ t ih =>
    intro j hj
    rw [b196_102, if_pos rcX0, cI_of (s48 hn hk (d + 5)), if_neg (by rw [nI_leI (by omega) (by omega)]; omega), cI_of (s5 (i := j) (by omega) hn hk (d + 3)), cI_of (s15 hi (j := j) (by omega) hf hn hk (d + 2)), nI_1]
    exact ih (j + 1) (by omega)
theorem s196_a (hf : ∀ i, i < k → fx (m 0) k (m 0 2 i) = some i) (hn : m 0 1 0 = nI k) (hk : k ≤ 10) (d : Nat) (h0 : Int64) : ∀ t i, i + t = k → ∀ n r o4 o5, ∃ n' r' o4' o5', n ≤ n' ∧ n' ≤ n + t ∧ r' ≤ r + 6 * t ∧ run G (d + 6) 196 12 [some (.ref (ad A 11 0)), some (.long (smA (m 0) k i h0)), none, some (.int (nI i)), o4, o5] [] (S A H m n r) = run G (d + 6) 196 145 [some (.ref (ad A 11 0)), some (.long (smA (m 0) k k h0)), none, some (.int 0), o4', o5'] [] (S A H m n' r') := by
  intro t
  induction t with
  | zero =>
    intro i hi n r o4 o5
    have : i = k := by omega
    subst this
    refine ⟨n, r, o4, o5, Nat.le_refl _, Nat.le_refl _, Nat.le_refl _, ?_⟩
    rw [b196_12, if_pos rcX0, cI_of (s48 hn hk (d + 5)), if_pos (Int32.le_refl _)]
  | succ t ih =>
    intro i hi n r o4 o5
    have hik : i < k := by omega
    obtain ⟨n1, r1, a1, a2, a3, e1⟩ := s10_own (G := G) (A := A) (H := H) hf hn hk hik (d + 1) n r
    obtain ⟨n2, r2, p4, p5, b1, b2, b3, e2⟩ := ih (i + 1) (by omega) n1 r1 (some (.int (m 0 2 i))) (some (.int (nI k)))
    have er := s196_r (G := G) (A := A) (n := n1) (r := r1) (H := H) hf hn hk hik d (((41 * (((37 * (((31 * smA (m 0) k i h0) + ((1000 * chr (m 0 3 i)) : Int32).toInt64) + (m 0 4 i : Int32).toInt64)) + ((100 * m 0 5 i) : Int32).toInt64) + (m 0 6 i : Int32).toInt64)) + ((20 * m 0 2 i) : Int32).toInt64) + (ownI (m 0) i : Int32).toInt64) k 0 (by omega)
    have e00 : nI 0 = 0 := rfl
    rw [e00] at er
    refine ⟨n2, r2, p4, p5, by omega, by omega, by omega, ?_⟩
    rw [b196_12, if_pos rcX0, cI_of (s48 hn hk (d + 5)), if_neg (by rw [nI_leI (by omega) (by omega)]; omega), cI_of (s5 hik hn hk (d + 3)), if_pos rcX0, cI_of (s51i hik hf hn hk (d + 3)), if_pos rcX0, cI_of (s52i hik hf hn hk (d + 3)), if_pos rcX0, cI_of (s53i hik hf hn hk (d + 3)), if_pos rcX0, cI_of (s54i hik hf hn hk (d + 3)), cI_of e1]
    exact er.trans e2
theorem s196_p (hp : m 0 9 0 = nI p) (hq : p ≤ 6) (d : Nat) (h0 : Int64) (o4 o5 : Option Value) : ∀ t q, q + t = p → run G (d + 6) 196 145 [some (.ref (ad A 11 0)), some (.long (smP (m 0) q h0)), none, some (.int (nI q)), o4, o5] [] (S A H m n r) = some (.inl (some (.long (smP (m 0) p h0))), (S A H m n r)) := by
  intro t
  induction t with
  | zero =>
    intro q hqq
    have : q = p := by omega
    subst this
    rw [b196_145, if_pos rcX0, cI_of (s66 hp hq (d + 5)), if_pos (Int32.le_refl _)]
  | succ t ih =>
    intro q hqq
    rw [b196_145, if_pos rcX0, cI_of (s66 hp hq (d + 5)), if_neg (by rw [nI_leI (by omega) (by omega)]; omega), if_pos rcX0, cI_of (s68 (q := q) (by omega) hp hq (d + 2)), if_pos rcX0, cI_of (s69 (q := q) (by omega) hp hq (d + 2)), if_pos rcX0, cI_of (s70 (q := q) (by omega) hp hq (d + 2)), if_pos rcX0, cI_of (s71 (q := q) (by omega) hp hq (d + 2)), nI_1]
    exact ih (q + 1) (by omega)
theorem s196 (hf : ∀ i, i < k → fx (m 0) k (m 0 2 i) = some i) (hn : m 0 1 0 = nI k) (hk : k ≤ 10) (hp : m 0 9 0 = nI p) (hq : p ≤ 6) (d n r : Nat) : ∃ n' r', n ≤ n' ∧ n' ≤ n + 10 ∧ r' ≤ r + 60 ∧ call G (d + 6) 196 [.ref (ad A 11 0)] (S A H m n r) = some (.inl (some (.long (sumB (m 0)))), S A H m n' r') := by
  obtain ⟨n1, r1, o4, o5, a1, a2, a3, e1⟩ := s196_a (G := G) (A := A) (H := H) hf hn hk d (7 + (m 0 0 2 : Int32).toInt64) k 0 (by omega) n r none none
  have e2 := s196_p (G := G) (A := A) (n := n1) (r := r1) (H := H) hp hq d (smA (m 0) k k (7 + (m 0 0 2 : Int32).toInt64)) o4 o5 p 0 (by omega)
  have e00 : nI 0 = 0 := rfl
  rw [e00] at e1 e2
  refine ⟨n1, r1, a1, by omega, by omega, ?_⟩
  rw [b196_e, if_pos rcX0, cI_of (s86 (d + 5)), sumB_of hn hk hp hq]
  exact e1.trans e2
end
