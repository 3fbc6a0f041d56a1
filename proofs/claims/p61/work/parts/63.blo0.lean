/-! THE LAW'S BLOCKING PAIRS. -/
def ownI (B : Bd) (i : Nat) : Int32 := if waB B i = true then -13 else B 7 i
def byI (B : Bd) (k q : Nat) : Int32 := match fh B k (nI q) with
  | none => -13
  | some f => B 2 f
def lbB (B : Bd) (k : Nat) (v : Bool) (i q : Nat) : Bool := ibB B k i q && (!v || (waB B i && vqB B k q))
def lbS (B : Bd) (k p : Nat) (v : Bool) : Nat → Nat
  | 0 => 0
  | i + 1 => lbS B k p v i + cnt (lbB B k v i) p
theorem lbS_f (B : Bd) (k p : Nat) : ∀ n, lbS B k p false n = bpS B k p n := by
  intro n
  induction n with
  | zero => rfl
  | succ n ih =>
    show lbS B k p false n + cnt (lbB B k false n) p = bpS B k p n + cnt (ibB B k n) p
    rw [ih]
    congr 1
    exact cnt_cg fun q _ => by unfold lbB; simp
section
variable {G : Glb} {A n r k p : Nat} {H : Hp} {m : Mm}
theorem own_lt (hv : PV (m 0) k p) (hq : p ≤ 6) {i : Nat} (hi : i < k) : ownI (m 0) i < 0 ↔ waB (m 0) i = true := by
  unfold ownI
  cases hw : waB (m 0) i with
  | true => rw [if_pos rfl]; exact ⟨fun _ => rfl, fun _ => by decide⟩
  | false =>
    rw [if_neg (by decide)]
    constructor
    · intro h
      exfalso
      rcases hv i hi with e | ⟨q, hqp, e⟩
      · unfold waB at hw; rw [e] at hw; exact absurd hw (by decide)
      · rw [e] at h; exact nI_pos (by omega) h
    · intro h; cases h
theorem own_of {i : Nat} (h : waB (m 0) i = false) : ownI (m 0) i = m 0 7 i := by unfold ownI; rw [h]; rfl
theorem by_lt (h0 : ∀ i, i < k → ¬ m 0 2 i < 0) (q : Nat) : byI (m 0) k q < 0 ↔ vqB (m 0) k q = true := by
  unfold byI vqB
  cases hf : fh (m 0) k (nI q) with
  | none => exact ⟨fun _ => rfl, fun _ => by show (-13 : Int32) < 0; decide⟩
  | some f => exact ⟨fun h => absurd h (h0 f (fst_some hf).1), fun h => by cases h⟩
theorem s24_by (hn : m 0 1 0 = nI k) (hk : k ≤ 10) (hp : m 0 9 0 = nI p) (hq : p ≤ 6) (hid : ∀ i, i < k → ¬ m 0 2 i = -1) {q : Nat} (hqp : q < p) (d n r : Nat) : ∃ n' r', n ≤ n' ∧ n' ≤ n + 1 ∧ r' ≤ r + 6 * (n' - n) ∧ call G (d + 4) 24 [.ref (ad A 11 0), .int (nI q)] (S A H m n r) = vI (byI (m 0) k q) (S A H m n' r') := by
  unfold byI
  cases hf : fh (m 0) k (nI q) with
  | none => exact ⟨n + 1, r + 6, by omega, by omega, by omega, s24e hqp hf hn hk hp hq d⟩
  | some f => exact ⟨n, r, by omega, by omega, by omega, s24 hqp hf hn hk hp hq hid d⟩
theorem s10_own (hf : ∀ i, i < k → fx (m 0) k (m 0 2 i) = some i) (hn : m 0 1 0 = nI k) (hk : k ≤ 10) {i : Nat} (hi : i < k) (d n r : Nat) : ∃ n' r', n ≤ n' ∧ n' ≤ n + 1 ∧ r' ≤ r + 6 * (n' - n) ∧ call G (d + 4) 10 [.ref (ad A 11 0), .int (m 0 2 i)] (S A H m n r) = vI (ownI (m 0) i) (S A H m n' r') := by
  unfold ownI
  cases hw : waB (m 0) i with
  | true => exact ⟨n + 1, r + 6, by omega, by omega, by omega, s10w hi hw hf hn hk d⟩
  | false => exact ⟨n, r, by omega, by omega, by omega, s10 hi hw hf hn hk d⟩
/-- the turn of a pair -/
theorem blo_1 (hf : ∀ i, i < k → fx (m 0) k (m 0 2 i) = some i) (ho : ∀ i j, i < k → j < k → (m 0 2 j ≤ m 0 2 i ↔ j ≤ i)) (hn : m 0 1 0 = nI k) (hk : k ≤ 10) (hp : m 0 9 0 = nI p) (hq : p ≤ 6) (hv : PV (m 0) k p) (hid : ∀ i, i < k → ¬ m 0 2 i = -1) (h0 : ∀ i, i < k → ¬ m 0 2 i < 0) {i q : Nat} (hi : i < k) (hqp : q < p) (v : Bool) (c d : Nat) (o7 o8 o9 : Option Value) : ∃ n' r' o7' o8' o9', n ≤ n' ∧ n' ≤ n + 1 ∧ r' ≤ r + 6 ∧ run G (d + 6) 191 30 [some (.ref (ad A 11 0)), some (.int (bI v)), some (.int (nI c)), some (.int (nI i)), some (.int (m 0 2 i)), some (.int (ownI (m 0) i)), some (.int (nI q)), o7, o8, o9] [] (S A H m n r) = run G (d + 6) 191 30 [some (.ref (ad A 11 0)), some (.int (bI v)), some (.int (nI (c + if lbB (m 0) k v i q = true then 1 else 0))), some (.int (nI i)), some (.int (m 0 2 i)), some (.int (ownI (m 0) i)), some (.int (nI (q + 1))), o7', o8', o9'] [] (S A H m n' r') := by
  obtain ⟨n1, r1, a1, a2, a3, e24⟩ := s24_by (G := G) (A := A) (H := H) hn hk hp hq hid hqp (d + 1) n r
  have hle : ¬ p ≤ q := by omega
  have hol := own_lt (m := m) hv hq hi
  have hbl := by_lt (m := m) (k := k) h0 q
  have ge : ∀ {x : Int32}, (0 ≤ x) ↔ ¬ x < 0 := fun {x} => Int32.not_lt.symm
  have t121 : ∀ (w : Bool) o8 o9, w = ibB (m 0) k i q → run G (d + 6) 191 121 [some (.ref (ad A 11 0)), some (.int (bI v)), some (.int (nI c)), some (.int (nI i)), some (.int (m 0 2 i)), some (.int (ownI (m 0) i)), some (.int (nI q)), some (.int (byI (m 0) k q)), o8, o9] [.int (bI w)] (S A H m n1 r1) = run G (d + 6) 191 30 [some (.ref (ad A 11 0)), some (.int (bI v)), some (.int (nI (c + if lbB (m 0) k v i q = true then 1 else 0))), some (.int (nI i)), some (.int (m 0 2 i)), some (.int (ownI (m 0) i)), some (.int (nI (q + 1))), some (.int (byI (m 0) k q)), o8, some (.int (bI w))] [] (S A H m n1 r1) := by
    intro w o8 o9 hw
    rw [b191_121]
    unfold lbB
    rw [← hw]
    cases w with
    | false =>
      rw [bI_f, if_pos rfl, b191_147, b191_148, Int32.add_zero, nI_1]
      rfl
    | true =>
      rw [bI_t, if_neg not1]
      cases v with
      | false =>
        rw [bI_f, if_pos rfl, b191_143, b191_148, nI_1, nI_1]
        rfl
      | true =>
        rw [bI_t, if_neg not1]
        cases hwi : waB (m 0) i with
        | false =>
          rw [if_pos (ge.mpr (fun z => by rw [hol.mp z] at hwi; cases hwi)), b191_147, b191_148, Int32.add_zero, nI_1]
          rfl
        | true =>
          rw [if_neg (fun z => (ge.mp z) (hol.mpr hwi))]
          cases hvq : vqB (m 0) k q with
          | false =>
            rw [if_pos (ge.mpr (fun z => by rw [hbl.mp z] at hvq; cases hvq)), b191_147, b191_148, Int32.add_zero, nI_1]
            rfl
          | true =>
            rw [if_neg (fun z => (ge.mp z) (hbl.mpr hvq)), b191_143, b191_148, nI_1, nI_1]
            rfl
  have t75 : ∀ (w : Bool) o8 o9, w = (!(m 0 7 i == nI q) && (waB (m 0) i || poB (m 0) q (qB (m 0) i))) → run G (d + 6) 191 75 [some (.ref (ad A 11 0)), some (.int (bI v)), some (.int (nI c)), some (.int (nI i)), some (.int (m 0 2 i)), some (.int (ownI (m 0) i)), some (.int (nI q)), some (.int (byI (m 0) k q)), o8, o9] [.int (bI w)] (S A H m n1 r1) = run G (d + 6) 191 30 [some (.ref (ad A 11 0)), some (.int (bI v)), some (.int (nI (c + if lbB (m 0) k v i q = true then 1 else 0))), some (.int (nI i)), some (.int (m 0 2 i)), some (.int (ownI (m 0) i)), some (.int (nI (q + 1))), some (.int (byI (m 0) k q)), some (.int (bI w)), some (.int (bI (ibB (m 0) k i q)))] [] (S A H m n1 r1) := by
    intro w o8 o9 hw
    have t0 : ibB (m 0) k i q = false → run G (d + 6) 191 120 [some (.ref (ad A 11 0)), some (.int (bI v)), some (.int (nI c)), some (.int (nI i)), some (.int (m 0 2 i)), some (.int (ownI (m 0) i)), some (.int (nI q)), some (.int (byI (m 0) k q)), some (.int (bI w)), o9] [] (S A H m n1 r1) = run G (d + 6) 191 30 [some (.ref (ad A 11 0)), some (.int (bI v)), some (.int (nI (c + if lbB (m 0) k v i q = true then 1 else 0))), some (.int (nI i)), some (.int (m 0 2 i)), some (.int (ownI (m 0) i)), some (.int (nI (q + 1))), some (.int (byI (m 0) k q)), some (.int (bI w)), some (.int (bI (ibB (m 0) k i q)))] [] (S A H m n1 r1) := by
      intro hz
      rw [b191_120]
      exact (t121 false _ _ hz.symm).trans (by rw [hz])
    have t1 : ibB (m 0) k i q = true → run G (d + 6) 191 116 [some (.ref (ad A 11 0)), some (.int (bI v)), some (.int (nI c)), some (.int (nI i)), some (.int (m 0 2 i)), some (.int (ownI (m 0) i)), some (.int (nI q)), some (.int (byI (m 0) k q)), some (.int (bI w)), o9] [] (S A H m n1 r1) = run G (d + 6) 191 30 [some (.ref (ad A 11 0)), some (.int (bI v)), some (.int (nI (c + if lbB (m 0) k v i q = true then 1 else 0))), some (.int (nI i)), some (.int (m 0 2 i)), some (.int (ownI (m 0) i)), some (.int (nI (q + 1))), some (.int (byI (m 0) k q)), some (.int (bI w)), some (.int (bI (ibB (m 0) k i q)))] [] (S A H m n1 r1) := by
      intro hz
      rw [b191_116]
      exact (t121 true _ _ hz.symm).trans (by rw [hz])
    have ei : ibB (m 0) k i q = (ftB (m 0) i q && (w && wtB (m 0) k q i)) := by
      rw [hw]; unfold ibB
      cases (m 0 7 i == nI q) <;> cases ftB (m 0) i q <;> cases (waB (m 0) i || poB (m 0) q (qB (m 0) i)) <;> cases wtB (m 0) k q i <;> rfl
    rw [b191_75, cI_of (s42 hi hqp hf hn hk hp hq (d + 1))]
    cases hft : ftB (m 0) i q with
    | false => rw [bI_f, if_pos rfl]; exact t0 (by rw [ei, hft]; rfl)
    | true =>
      rw [bI_t, if_neg not1]
      cases w with
      | false => rw [bI_f, if_pos rfl]; exact t0 (by rw [ei]; simp)
      | true =>
        rw [bI_t, if_neg not1]
        cases hfh : fh (m 0) k (nI q) with
        | none =>
          rw [if_pos (hbl.mpr (by unfold vqB; rw [hfh]; rfl))]
          exact t1 (by rw [ei, hft]; unfold wtB; rw [hfh]; rfl)
        | some f =>
          have hfk := (fst_some hfh).1
          have e7 : m 0 7 f = nI q := by have := (fst_some hfh).2.1; simpa using this
          have eby : byI (m 0) k q = m 0 2 f := by unfold byI; rw [hfh]
          rw [if_neg (by rw [eby]; exact h0 f hfk)]
          have hfi : f ≠ i := by
            intro e
            rw [e] at e7
            rw [e7] at hw
            simp at hw
          rw [if_neg (by
            rw [eby]
            intro e
            have h1 := hf f hfk
            rw [e, hf i hi] at h1
            exact hfi (Option.some.inj h1).symm)]
          have e43 := s43 (G := G) (A := A) (n := n1) (r := r1) (H := H) hi hfk hf ho hn hk (d + 2)
          rw [← eby] at e43
          rw [cI_of (e43)]
          have ew : wtB (m 0) k q i = orB (m 0) i f := by unfold wtB; rw [hfh]
          cases hor : orB (m 0) i f with
          | false => rw [bI_f, if_pos rfl]; exact t0 (by rw [ei, hft, ew, hor]; rfl)
          | true => rw [bI_t, if_neg not1]; exact t1 (by rw [ei, hft, ew, hor]; rfl)
  rw [b191_30, if_pos rcX0, cI_of (s66 hp hq (d + 5))]
  rw [if_neg (by rw [nI_leI (by omega) (by omega)]; exact hle), cI_of (e24)]
  refine ⟨n1, r1, some (.int (byI (m 0) k q)), some (.int (bI (!(m 0 7 i == nI q) && (waB (m 0) i || poB (m 0) q (qB (m 0) i))))), some (.int (bI (ibB (m 0) k i q))), a1, a2, by omega, ?_⟩
  cases hwi : waB (m 0) i with
  | true =>
    rw [if_pos (hol.mpr hwi), b191_70]
    have e7 : m 0 7 i = -1 := by unfold waB at hwi; simpa using hwi
    have en : (m 0 7 i == nI q) = false := by
      rw [e7]
      have : ¬ (-1 : Int32) = nI q := by
        intro e
        have h9 := nI_pos (n := q) (by omega)
        rw [← e] at h9
        exact h9 (by decide)
      simpa using this
    exact (t75 true o8 o9 (by rw [hwi, en]; rfl)).trans (by rw [en]; rfl)
  | false =>
    rw [if_neg (fun z => by rw [hol.mp z] at hwi; cases hwi)]
    obtain ⟨u, hup, e7⟩ : ∃ u, u < p ∧ m 0 7 i = nI u := by
      rcases hv i hi with h | h
      · unfold waB at hwi; rw [h] at hwi; exact absurd hwi (by decide)
      · exact h
    have eq : qB (m 0) i = u := by unfold qB; rw [e7]; exact nI_clamp (by omega)
    have eo : ownI (m 0) i = nI u := (own_of hwi).trans e7
    by_cases huq : u = q
    · subst huq
      have en : (m 0 7 i == nI u) = true := by simpa using e7
      rw [if_pos eo, b191_74]
      exact (t75 false o8 o9 (by rw [en]; rfl)).trans (by rw [en]; rfl)
    · have hne : ¬ nI u = nI q := by rw [nI_eq (by omega) (by omega)]; exact huq
      have en : (m 0 7 i == nI q) = false := by rw [e7]; simpa using hne
      have e97 := s97 (G := G) (A := A) (n := n1) (r := r1) (H := H) hqp hup hp hq (d + 1)
      rw [if_neg (by rw [eo]; exact hne)]
      have e97' : call G (d + 5) 97 [.ref (ad A 11 0), .int (nI q), .int (ownI (m 0) i)] (S A H m n1 r1) = vI (bI (poB (m 0) q u)) (S A H m n1 r1) := by rw [eo]; exact e97
      rw [cI_of (e97')]
      rw [eq]
      have hw := t75 (poB (m 0) q u) o8 o9 (by rw [hwi, en, eq]; rfl)
      cases hpo : poB (m 0) q u with
      | true =>
        rw [hpo] at hw
        rw [bI_t, if_neg not1, b191_70, en]
        exact hw
      | false =>
        rw [hpo] at hw
        rw [bI_f, if_pos rfl, b191_74, en]
        exact hw
theorem blo_in (hf : ∀ i, i < k → fx (m 0) k (m 0 2 i) = some i) (ho : ∀ i j, i < k → j < k → (m 0 2 j ≤ m 0 2 i ↔ j ≤ i)) (hn : m 0 1 0 = nI k) (hk : k ≤ 10) (hp : m 0 9 0 = nI p) (hq : p ≤ 6) (hv : PV (m 0) k p) (hid : ∀ i, i < k → ¬ m 0 2 i = -1) (h0 : ∀ i, i < k → ¬ m 0 2 i < 0) {i : Nat} (hi : i < k) (v : Bool) (c d : Nat) : ∀ t q, q + t = p → ∀ n r o7 o8 o9, ∃ n' r' o7' o8' o9', n ≤ n' ∧ n' ≤ n + t ∧ r' ≤ r + 6 * t ∧ run G (d + 6) 191 30 [some (.ref (ad A 11 0)), some (.int (bI v)), some (.int (nI (c + cnt (lbB (m 0) k v i) q))), some (.int (nI i)), some (.int (m 0 2 i)), some (.int (ownI (m 0) i)), some (.int (nI q)), o7, o8, o9] [] (S A H m n r) = run G (d + 6) 191 30 [some (.ref (ad A 11 0)), some (.int (bI v)), some (.int (nI (c + cnt (lbB (m 0) k v i) p))), some (.int (nI i)), some (.int (m 0 2 i)), some (.int (ownI (m 0) i)), some (.int (nI p)), o7', o8', o9'] [] (S A H m n' r') := by
  intro t
  induction t with
  | zero =>
    intro q hqq n r o7 o8 o9
    have : q = p := by omega
    subst this
    exact ⟨n, r, o7, o8, o9, Nat.le_refl _, Nat.le_refl _, Nat.le_refl _, rfl⟩
  | succ t ih =>
    intro q hqq n r o7 o8 o9
    obtain ⟨n1, r1, p7, p8, p9, a1, a2, a3, e1⟩ := blo_1 (G := G) (A := A) (n := n) (r := r) (H := H) hf ho hn hk hp hq hv hid h0 hi (q := q) (by omega) v (c + cnt (lbB (m 0) k v i) q) d o7 o8 o9
    obtain ⟨n2, r2, q7, q8, q9, b1, b2, b3, e2⟩ := ih (q + 1) (by omega) n1 r1 p7 p8 p9
    have ec : c + cnt (lbB (m 0) k v i) q + (if lbB (m 0) k v i q = true then 1 else 0) = c + cnt (lbB (m 0) k v i) (q + 1) := Nat.add_assoc _ _ _
    rw [ec] at e1
    exact ⟨n2, r2, q7, q8, q9, by omega, by omega, by omega, e1.trans e2⟩
theorem blo_o (hf : ∀ i, i < k → fx (m 0) k (m 0 2 i) = some i) (ho : ∀ i j, i < k → j < k → (m 0 2 j ≤ m 0 2 i ↔ j ≤ i)) (hn : m 0 1 0 = nI k) (hk : k ≤ 10) (hp : m 0 9 0 = nI p) (hq : p ≤ 6) (hv : PV (m 0) k p) (hid : ∀ i, i < k → ¬ m 0 2 i = -1) (h0 : ∀ i, i < k → ¬ m 0 2 i < 0) (v : Bool) (d : Nat) : ∀ t i, i + t = k → ∀ n r o4 o5 o6 o7 o8 o9, ∃ n' r' o4' o5' o6' o7' o8' o9', n ≤ n' ∧ n' ≤ n + 7 * t ∧ r' ≤ r + 42 * t ∧ run G (d + 6) 191 4 [some (.ref (ad A 11 0)), some (.int (bI v)), some (.int (nI (lbS (m 0) k p v i))), some (.int (nI i)), o4, o5, o6, o7, o8, o9] [] (S A H m n r) = run G (d + 6) 191 4 [some (.ref (ad A 11 0)), some (.int (bI v)), some (.int (nI (lbS (m 0) k p v k))), some (.int (nI k)), o4', o5', o6', o7', o8', o9'] [] (S A H m n' r') := by
  intro t
  induction t with
  | zero =>
    intro i hi n r o4 o5 o6 o7 o8 o9
    have : i = k := by omega
    subst this
    exact ⟨n, r, o4, o5, o6, o7, o8, o9, Nat.le_refl _, Nat.le_refl _, Nat.le_refl _, rfl⟩
  | succ t ih =>
    intro i hi n r o4 o5 o6 o7 o8 o9
    have hik : i < k := by omega
    have hle : ¬ k ≤ i := by omega
    obtain ⟨n1, r1, a1, a2, a3, e1⟩ := s10_own (G := G) (A := A) (H := H) hf hn hk hik (d + 1) n r
    obtain ⟨n2, r2, p7, p8, p9, b1, b2, b3, e2⟩ := blo_in (G := G) (A := A) (H := H) hf ho hn hk hp hq hv hid h0 hik v (lbS (m 0) k p v i) d p 0 (by omega) n1 r1 o7 o8 o9
    obtain ⟨n3, r3, q4, q5, q6, q7, q8, q9, c1, c2, c3, e3⟩ := ih (i + 1) (by omega) n2 r2 (some (.int (m 0 2 i))) (some (.int (ownI (m 0) i))) (some (.int (nI p))) p7 p8 p9
    refine ⟨n3, r3, q4, q5, q6, q7, q8, q9, by omega, by omega, by omega, ?_⟩
    rw [← e3, b191_4]
    rw [if_pos rcX0, cI_of (s48 hn hk (d + 5))]
    rw [if_neg (by rw [nI_leI (by omega) (by omega)]; exact hle), cI_of (s5 hik hn hk (d + 3))]
    rw [cI_of (e1)]
    have e20 : cnt (lbB (m 0) k v i) 0 = 0 := rfl
    have e21 : nI 0 = 0 := rfl
    simp only [e20, Nat.add_zero, e21] at e2
    rw [e2, b191_30, if_pos rcX0, cI_of (s66 hp hq (d + 5))]
    rw [if_pos (Int32.le_refl _), nI_1]
    rfl
theorem s191 (hf : ∀ i, i < k → fx (m 0) k (m 0 2 i) = some i) (ho : ∀ i j, i < k → j < k → (m 0 2 j ≤ m 0 2 i ↔ j ≤ i)) (hn : m 0 1 0 = nI k) (hk : k ≤ 10) (hp : m 0 9 0 = nI p) (hq : p ≤ 6) (hv : PV (m 0) k p) (hid : ∀ i, i < k → ¬ m 0 2 i = -1) (h0 : ∀ i, i < k → ¬ m 0 2 i < 0) (v : Bool) (d n r : Nat) : GO A H m n r 70 (nI (lbS (m 0) k p v k)) (call G (d + 6) 191 [.ref (ad A 11 0), .int (bI v)] (S A H m n r)) := by
  obtain ⟨n1, r1, o4, o5, o6, o7, o8, o9, a1, a2, a3, e1⟩ := blo_o (G := G) (A := A) (H := H) hf ho hn hk hp hq hv hid h0 v d k 0 (by omega) n r none none none none none none
  have e00 : nI (lbS (m 0) k p v 0) = 0 := rfl
  have e02 : nI 0 = 0 := rfl
  rw [e00, e02] at e1
  rw [b191_e, e1, b191_4, if_pos rcX0, cI_of (s48 hn hk (d + 5))]
  rw [if_pos (Int32.le_refl _)]
  exact GO.end_ (by omega) (by omega) (by omega)
end
