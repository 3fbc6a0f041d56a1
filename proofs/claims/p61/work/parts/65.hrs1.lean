/-! THE LAW'S THIRD CHECK: hires. -/
def eX (k : Nat) : Nat → Nat → Nat
  | 0, _ => 0
  | u + 1, c => eX k u c + k + c * eX k u (c - 1)
theorem eX_mono {k k' : Nat} (hk : k ≤ k') : ∀ u c c', c ≤ c' → eX k u c ≤ eX k' u c' := by
  intro u
  induction u with
  | zero => intro c c' _; exact Nat.le_refl _
  | succ u ih =>
    intro c c' h
    have h1 := ih c c' h
    have h2 := ih (c - 1) (c' - 1) (by omega)
    have h3 := Nat.mul_le_mul h h2
    show eX k u c + k + c * eX k u (c - 1) ≤ eX k' u c' + k' + c' * eX k' u (c' - 1)
    omega
theorem eX_u (k c : Nat) : ∀ u t, u ≤ t → eX k u c ≤ eX k t c := by
  intro u t
  induction t with
  | zero => intro h; have : u = 0 := by omega
            subst this; exact Nat.le_refl _
  | succ t ih =>
    intro h
    by_cases e : u = t + 1
    · subst e; exact Nat.le_refl _
    · have := ih (by omega)
      show _ ≤ eX k t c + k + c * eX k t (c - 1)
      omega
theorem eX_9 {k u c : Nat} (hk : k ≤ 9) (hc : c ≤ k) (hu : u ≤ 6) : eX k u c ≤ 381645 := by
  refine Nat.le_trans (eX_u k c u 6 hu) (Nat.le_trans (eX_mono hk 6 c 9 (by omega)) ?_)
  decide +kernel
-- the facts of a board that can be reached
section
variable {B : Bd} {s : Nat → Int32} {k p : Nat} {g : Nat → Nat}
theorem CF_0 (h : CP B s k p g) : ∀ i, i < k → ¬ B 2 i < 0 := by
  intro i hi
  obtain ⟨x, hx, e⟩ := CP_id h hi
  rw [e]; exact nI_pos (by omega)
theorem CF_id (h : CP B s k p g) : ∀ i, i < k → ¬ B 2 i = -1 := by
  intro i hi e
  exact CF_0 h i hi (by rw [e]; decide)
theorem CF_as (h : CP B s k p g) {i j : Nat} (hi : i < k) (hj : j < k) : B 2 i = B 2 j → i = j := by
  intro e
  have h1 := CP_as h hi hj
  have h2 := CP_as h hj hi
  rw [e] at h1 h2
  have n1 : ¬ i < j := fun z => by have := h1.mpr z; omega
  have n2 : ¬ j < i := fun z => by have := h2.mpr z; omega
  omega
theorem CF_f (h : CP B s k p g) : ∀ i, i < k → fx B k (B 2 i) = some i := by
  intro i hi
  unfold fx
  exact fst_u hi (by simp) fun j hj e => CF_as h hj hi (by simpa using e)
theorem CF_o (h : CP B s k p g) : ∀ i j, i < k → j < k → (B 2 j ≤ B 2 i ↔ j ≤ i) := by
  intro i j hi hj
  have h1 := CP_as h hi hj
  obtain ⟨x, hx, ex⟩ := CP_id h hi
  obtain ⟨y, hy, ey⟩ := CP_id h hj
  rw [ex, ey, nt_nI (by omega), nt_nI (by omega)] at h1
  rw [ex, ey, nI_leI (by omega) (by omega)]
  omega
theorem CF_n (h : CP B s k p g) : B 1 0 = nI k := h.1.1.1
theorem CF_p (h : CP B s k p g) : B 9 0 = nI p := h.1.1.2.2.1
end
section
variable {G : Glb} {A n r k p : Nat} {H : Hp} {m : Mm}
theorem most_lp (hf : ∀ i, i < k → fx (m 0) k (m 0 2 i) = some i) (hn : m 0 1 0 = nI k) (hk : k ≤ 10) (hp : m 0 9 0 = nI p) (hq : p ≤ 6) {u V q : Nat} (hqu : q + (u + 1) = p) (hV : V < 1024) (hvq : vqB (m 0) k q = true) (e X b0 : Nat) (hb0 : b0 ≤ 10) (hrec : ∀ j, j < k → V.testBit j = true → ∀ n r, ∃ n' r', n ≤ n' ∧ n' ≤ n + X ∧ r' ≤ r + 6 * (n' - n) ∧ call G (e + 6) 190 [.ref (ad A 11 0), .int (nI q + 1), .int (nI (clN j V))] (S A H m n r) = vI (nI (lm (m 0) k p u (clN j V))) (S A H m n' r')) : ∀ t j, j + t = k → ∀ n r o5, ∃ n' r', n ≤ n' ∧ n' + cnt V.testBit j * X ≤ n + t + cnt V.testBit k * X ∧ r' ≤ r + 6 * (n' - n) ∧ run G (e + 7) 190 22 [some (.ref (ad A 11 0)), some (.int (nI q)), some (.int (nI V)), some (.int (nI (lmL (fun j => lm (m 0) k p u (clN j V)) (lmE (m 0) q V) (u + 1) j b0))), some (.int (nI j)), o5] [] (S A H m n r) = vI (nI (lmL (fun j => lm (m 0) k p u (clN j V)) (lmE (m 0) q V) (u + 1) k b0)) (S A H m n' r') := by
  intro t
  induction t with
  | zero =>
    intro j hj n r o5
    have : j = k := by omega
    subst this
    refine ⟨n, r, Nat.le_refl _, by omega, by omega, ?_⟩
    rw [b190_22, if_pos rcX0, cI_of (s48 hn hk (e + 6))]
    rw [if_pos (Int32.le_refl _)]; rfl
  | succ t ih =>
    intro j hj n r o5
    have hjk : j < k := by omega
    have hle : ¬ k ≤ j := by omega
    have hfh : fh (m 0) k (nI q) = none := by unfold vqB at hvq; exact Option.isNone_iff_eq_none.mp hvq
    obtain ⟨b, hb⟩ : ∃ b, b = lmL (fun j => lm (m 0) k p u (clN j V)) (lmE (m 0) q V) (u + 1) j b0 := ⟨_, rfl⟩
    have hbl : b ≤ 10 + u := by
      rw [hb]
      rcases lmL_ex (fun j => lm (m 0) k p u (clN j V)) (lmE (m 0) q V) (u + 1) b0 j with h | ⟨i, _, _, h⟩
      · rw [h]; omega
      · rw [h]; have := lm_le (B := m 0) (k := k) (p := p) u (clN i V); omega
    have nx : ∀ (b' n1 r1 : Nat) o5, b' = lmL (fun j => lm (m 0) k p u (clN j V)) (lmE (m 0) q V) (u + 1) (j + 1) b0 → n + 1 ≤ n1 → n1 + cnt V.testBit j * X ≤ n + 1 + cnt V.testBit (j + 1) * X → r1 ≤ r + 6 * (n1 - n) → ∃ n' r', n ≤ n' ∧ n' + cnt V.testBit j * X ≤ n + (t + 1) + cnt V.testBit k * X ∧ r' ≤ r + 6 * (n' - n) ∧ run G (e + 7) 190 110 [some (.ref (ad A 11 0)), some (.int (nI q)), some (.int (nI V)), some (.int (nI b)), some (.int (nI j)), o5] [.int (nI b')] (S A H m n1 r1) = vI (nI (lmL (fun j => lm (m 0) k p u (clN j V)) (lmE (m 0) q V) (u + 1) k b0)) (S A H m n' r') := by
      intro b' n1 r1 o5 hb' g1 g2 g3
      obtain ⟨n2, r2, c1, c2, c3, c4⟩ := ih (j + 1) (by omega) n1 r1 o5
      refine ⟨n2, r2, by omega, by omega, by omega, ?_⟩
      rw [b190_110, nI_1, hb']
      exact c4
    have es : lmL (fun j => lm (m 0) k p u (clN j V)) (lmE (m 0) q V) (u + 1) (j + 1) b0 = if lmE (m 0) q V j = true ∧ b < u + 1 then max b (1 + lm (m 0) k p u (clN j V)) else b := by rw [hb]; rfl
    have ecn : cnt V.testBit (j + 1) = cnt V.testBit j + (if V.testBit j = true then 1 else 0) := rfl
    have hcn : cnt V.testBit j * X ≤ cnt V.testBit (j + 1) * X := Nat.mul_le_mul_right X (by omega)
    have bsh := bt_shr V hV j (by omega)
    rw [← hb, b190_22, if_pos rcX0, cI_of (s48 hn hk (e + 6))]
    rw [if_neg (by rw [nI_leI (by omega) (by omega)]; exact hle), cI_of (s24e (by omega) hfh hn hk hp hq (e + 2))]
    rw [if_neg (show ¬ (0 : Int32) ≤ -13 by decide)]
    have no : lmE (m 0) q V j = true ∧ b < u + 1 → False → True := fun _ _ => trivial
    have t77 : (lmE (m 0) q V j = true ∧ b < u + 1 → False) → ∃ n' r', n ≤ n' ∧ n' + cnt V.testBit j * X ≤ n + (t + 1) + cnt V.testBit k * X ∧ r' ≤ r + 6 * (n' - n) ∧ run G (e + 7) 190 77 [some (.ref (ad A 11 0)), some (.int (nI q)), some (.int (nI V)), some (.int (nI b)), some (.int (nI j)), o5] [] (S A H m (n + 1) (r + 6)) = vI (nI (lmL (fun j => lm (m 0) k p u (clN j V)) (lmE (m 0) q V) (u + 1) k b0)) (S A H m n' r') := by
      intro hn'
      obtain ⟨n2, r2, c1, c2, c3, c4⟩ := nx b (n + 1) (r + 6) (some (.int 0)) (by rw [es, if_neg hn']) (by omega) (by omega) (by omega)
      refine ⟨n2, r2, c1, c2, c3, ?_⟩
      rw [b190_77, b190_78, if_pos rfl]
      exact c4
    cases hbt : V.testBit j with
    | false =>
      rw [hbt] at bsh
      rw [if_neg (by simpa using bsh)]
      exact t77 (fun z => by unfold lmE at z; rw [hbt] at z; cases z.1)
    | true =>
      rw [hbt] at bsh
      rw [if_pos (by simpa using bsh), cI_of (s5 hjk hn hk (e + 4))]
      rw [cI_of (s42 hjk (by omega) hf hn hk hp hq (e + 2))]
      cases hft : ftB (m 0) j q with
      | false =>
        rw [bI_f, if_pos rfl]
        exact t77 (fun z => by unfold lmE at z; rw [hft, Bool.and_false] at z; cases z.1)
      | true =>
        have hE : lmE (m 0) q V j = true := by unfold lmE; rw [hbt, hft]; rfl
        rw [bI_t, if_neg not1, if_pos rcX0, cI_of (s66 hp hq (e + 6))]
        have esub : nI p - nI q = nI (u + 1) := by rw [nI_sub (by omega), show p - q = u + 1 by omega]
        by_cases hbc : b < u + 1
        · rw [if_neg (by rw [esub, nI_leI (by omega) (by omega)]; omega), b190_78, if_neg not1]
          obtain ⟨n1, r1, d1, d2, d3, d4⟩ := hrec j hjk hbt (n + 1) (r + 6)
          have ecl : nI V &&& (((1 : Int32) <<< (nI j &&& 31)) ^^^ (-1)) = nI (clN j V) := bt_cl V hV j (by omega)
          rw [ecl]
          show ∃ n' r', n ≤ n' ∧ _ ∧ _ ∧ cI (call G (e + 6) 190 [.ref (ad A 11 0), .int (nI q + 1), .int (nI (clN j V))] (S A H m (n + 1) (r + 6))) _ = _
          rw [cI_of (d4)]
          have el : lm (m 0) k p u (clN j V) ≤ u := lm_le u _
          have e1 : (1 : Int32) + nI (lm (m 0) k p u (clN j V)) = nI (1 + lm (m 0) k p u (clN j V)) := nI_add 1 _
          have emx : (if nI b < nI (1 + lm (m 0) k p u (clN j V)) then nI (1 + lm (m 0) k p u (clN j V)) else nI b) = nI (max b (1 + lm (m 0) k p u (clN j V))) := by
            by_cases hx : b < 1 + lm (m 0) k p u (clN j V)
            · rw [if_pos (by rw [nI_ltI (by omega) (by omega)]; exact hx), Nat.max_eq_right (by omega)]
            · rw [if_neg (by rw [nI_ltI (by omega) (by omega)]; exact hx), Nat.max_eq_left (by omega)]
          rw [e1, emx]
          have ecm : cnt V.testBit (j + 1) * X = cnt V.testBit j * X + X := by rw [ecn, hbt, if_pos rfl, Nat.add_mul, Nat.one_mul]
          exact nx _ n1 r1 (some (.int 1)) (by rw [es, if_pos ⟨hE, hbc⟩]) (by omega) (by omega) (by omega)
        · rw [if_pos (by rw [esub, nI_leI (by omega) (by omega)]; omega)]
          exact t77 (fun z => hbc z.2)
theorem s190 (hf : ∀ i, i < k → fx (m 0) k (m 0 2 i) = some i) (hn : m 0 1 0 = nI k) (hk : k ≤ 10) (hp : m 0 9 0 = nI p) (hq : p ≤ 6) (hid : ∀ i, i < k → ¬ m 0 2 i = -1) (h0 : ∀ i, i < k → ¬ m 0 2 i < 0) : ∀ u, u ≤ p → ∀ V, V < 1024 → ∀ e, u ≤ e → ∀ n r, ∃ n' r', n ≤ n' ∧ n' ≤ n + eX k u (cnt V.testBit k) ∧ r' ≤ r + 6 * (n' - n) ∧ call G (e + 6) 190 [.ref (ad A 11 0), .int (nI (p - u)), .int (nI V)] (S A H m n r) = vI (nI (lm (m 0) k p u V)) (S A H m n' r') := by
  intro u
  induction u with
  | zero =>
    intro _ V _ e _ n r
    refine ⟨n, r, Nat.le_refl _, by omega, by omega, ?_⟩
    rw [b190_e, if_pos rcX0, cI_of (s66 hp hq (e + 5))]
    rw [Nat.sub_zero, if_pos rfl]; rfl
  | succ u ih =>
    intro hu V hV e he n r
    obtain ⟨e, rfl⟩ : ∃ e', e = e' + 1 := ⟨e - 1, by omega⟩
    obtain ⟨q, hqe⟩ : ∃ q, q = p - (u + 1) := ⟨_, rfl⟩
    have hqp : q < p := by omega
    have e1 : nI q + 1 = nI (p - u) := by rw [nI_1, show q + 1 = p - u by omega]
    obtain ⟨n1, r1, a1, a2, a3, a4⟩ := ih (by omega) V hV e (by omega) n r
    rw [← hqe]
    have hne : ¬ nI q = nI p := by rw [nI_eq (by omega) (by omega)]; omega
    have hlu : lm (m 0) k p u V ≤ u := lm_le u V
    have eb : ∀ n r, call G (e + 1 + 6) 190 [.ref (ad A 11 0), .int (nI q), .int (nI V)] (S A H m n r) = cI (call G (e + 6) 190 [.ref (ad A 11 0), .int (nI (p - u)), .int (nI V)] (S A H m n r)) fun v2 s2 => run G (e + 7) 190 22 [some (.ref (ad A 11 0)), some (.int (nI q)), some (.int (nI V)), some (.int v2), some (.int 0), none] [] s2 := by
      intro n r
      rw [b190_e, if_pos rcX0, cI_of (s66 hp hq (e + 6))]
      rw [if_neg hne, e1]
    rw [eb, cI_of (a4)]
    show ∃ n' r', _ ∧ n' ≤ n + (eX k u (cnt V.testBit k) + k + cnt V.testBit k * eX k u (cnt V.testBit k - 1)) ∧ _ ∧ _
    cases hvq : vqB (m 0) k q with
    | true =>
      have hrec : ∀ j, j < k → V.testBit j = true → ∀ n r, ∃ n' r', n ≤ n' ∧ n' ≤ n + eX k u (cnt V.testBit k - 1) ∧ r' ≤ r + 6 * (n' - n) ∧ call G (e + 6) 190 [.ref (ad A 11 0), .int (nI q + 1), .int (nI (clN j V))] (S A H m n r) = vI (nI (lm (m 0) k p u (clN j V))) (S A H m n' r') := by
        intro j hj hb n r
        have ec : cnt (clN j V).testBit k = cnt V.testBit k - 1 := by
          rw [cnt_set (T := V.testBit) hj hb]
          have : cnt (clN j V).testBit k = cnt (fun t => V.testBit t && !decide (t = j)) k := cnt_cg fun t ht => by
            rw [clN_tb (by omega)]
            by_cases et : t = j
            · subst et; simp
            · have : j ≠ t := fun z => et z.symm
              simp [et, this]
          omega
        have := ih (by omega) (clN j V) (bt_cll hV) e (by omega) n r
        rw [ec, ← e1] at this
        exact this
      obtain ⟨n2, r2, c1, c2, c3, c4⟩ := most_lp (G := G) (A := A) (H := H) hf hn hk hp hq (u := u) (V := V) (q := q) (by omega) hV hvq e _ (lm (m 0) k p u V) (by omega) hrec k 0 (by omega) n1 r1 none
      have e00 : cnt V.testBit 0 = 0 := rfl
      have e01 : nI 0 = 0 := rfl
      rw [e00, Nat.zero_mul, Nat.add_zero] at c2
      refine ⟨n2, r2, by omega, by omega, by omega, ?_⟩
      rw [e01] at c4
      have el : lm (m 0) k p (u + 1) V = lmL (fun j => lm (m 0) k p u (clN j V)) (lmE (m 0) q V) (u + 1) k (lm (m 0) k p u V) := by
        rw [lm, ← hqe, if_pos hvq]
      rw [el]
      exact c4
    | false =>
      have el : lm (m 0) k p (u + 1) V = lm (m 0) k p u V := by
        rw [lm, ← hqe, if_neg (by rw [hvq]; decide)]
      refine ⟨n1, r1, a1, by omega, a3, ?_⟩
      rw [el, b190_22, if_pos rcX0, cI_of (s48 hn hk (e + 6))]
      obtain ⟨f, hfh⟩ : ∃ f, fh (m 0) k (nI q) = some f := by
        unfold vqB at hvq
        cases hh : fh (m 0) k (nI q) with
        | none => rw [hh] at hvq; cases hvq
        | some f => exact ⟨f, rfl⟩
      have hfk := (fst_some hfh).1
      rw [if_neg (by rw [show (0 : Int32) = nI 0 from rfl, nI_leI (by omega) (by omega)]; omega), cI_of (s24 hqp hfh hn hk hp hq hid (e + 2))]
      rw [if_pos (Int32.not_lt.mp (h0 f hfk))]; rfl
/-- the set of the waiting -/
theorem hrs_lp (hf : ∀ i, i < k → fx (m 0) k (m 0 2 i) = some i) (hn : m 0 1 0 = nI k) (hk : k ≤ 10) (d : Nat) : ∀ t i, i + t = k → ∀ n r o3, ∃ o3', run G (d + 20) 192 4 [some (.ref (ad A 11 0)), some (.int (nI (mkT (waB (m 0)) i))), some (.int (nI i)), o3] [] (S A H m n r) = run G (d + 20) 192 4 [some (.ref (ad A 11 0)), some (.int (nI (mkT (waB (m 0)) k))), some (.int (nI k)), o3'] [] (S A H m n r) := by
  intro t
  induction t with
  | zero =>
    intro i hi n r o3
    have : i = k := by omega
    subst this
    exact ⟨o3, rfl⟩
  | succ t ih =>
    intro i hi n r o3
    have hik : i < k := by omega
    have hle : ¬ k ≤ i := by omega
    obtain ⟨o3', e⟩ := ih (i + 1) (by omega) n r o3
    refine ⟨o3', ?_⟩
    rw [← e, b192_4, if_pos rcX0, cI_of (s48 hn hk (d + 19))]
    rw [if_neg (by rw [nI_leI (by omega) (by omega)]; exact hle), cI_of (s5 hik hn hk (d + 17))]
    rw [cI_of (s9 hik hf hn hk (d + 16))]
    have hm : mkT (waB (m 0)) i < 1024 := Nat.lt_of_lt_of_le (mkT_lt _ i) (Nat.pow_le_pow_right (by decide) (by omega) : 2 ^ i ≤ 2 ^ 10)
    have es : mkT (waB (m 0)) (i + 1) = if waB (m 0) i = true then mkT (waB (m 0)) i ||| 2 ^ i else mkT (waB (m 0)) i := rfl
    cases hw : waB (m 0) i with
    | true =>
      have eo : nI (mkT (waB (m 0)) i) ||| ((1 : Int32) <<< (nI i &&& 31)) = nI (mkT (waB (m 0)) i ||| 2 ^ i) := bt_or _ hm i (by omega)
      rw [if_pos (show bI (!true) = 0 from rfl), b192_32, eo, nI_1, es, if_pos hw]
    | false =>
      rw [if_neg (show ¬ bI (!false) = 0 by decide), b192_32, Int32.or_zero, nI_1, es, if_neg (by rw [hw]; decide)]
theorem s192 {s : Nat → Int32} {g : Nat → Nat} (cp : CP (m 0) s k p g) (hk9 : k ≤ 9) (d n r : Nat) : ∃ X n' r', (∀ c i, c < 3 ∨ 9 ≤ c → X c i = m 11 c i) ∧ n ≤ n' ∧ n' ≤ n + 381715 ∧ r' ≤ r + 6 * 381715 ∧ call G (d + 20) 192 [.ref (ad A 11 0)] (S A H m n r) = vI 1 (S A H (sb m 11 X) n' r') := by
  have hn := CF_n cp
  have hp := CF_p cp
  have hk := CP_k cp
  have hq := CP_p cp
  have hv := CP_pv cp
  have hf := CF_f cp
  have ho := CF_o cp
  have hid := CF_id cp
  have h0 := CF_0 cp
  obtain ⟨o3, e1⟩ := hrs_lp (G := G) (A := A) (H := H) hf hn hk d k 0 (by omega) n r none
  have e00 : nI (mkT (waB (m 0)) 0) = 0 := rfl
  have e01 : nI 0 = 0 := rfl
  rw [e00, e01] at e1
  obtain ⟨n1, r1, e2, a1, a2, a3⟩ := s191 (G := G) (A := A) (H := H) hf ho hn hk hp hq hv hid h0 false (d + 13) n r
  rw [bI_f, lbS_f] at e2
  have hm : mkT (waB (m 0)) k < 1024 := Nat.lt_of_lt_of_le (mkT_lt _ k) (Nat.pow_le_pow_right (by decide) (by omega) : 2 ^ k ≤ 2 ^ 10)
  obtain ⟨n2, r2, b1, b2, b3, e3⟩ := s190 (G := G) (A := A) (H := H) hf hn hk hp hq hid h0 p (Nat.le_refl _) _ hm (d + 13) (by omega) n1 r1
  rw [Nat.sub_self, e01, ← lm_mx cp] at e3
  have hx : eX k p (cnt (mkT (waB (m 0)) k).testBit k) ≤ 381645 := eX_9 hk9 (cnt_le _ k) hq
  obtain ⟨X1, hX1⟩ : ∃ X1, X1 = (cpS (m 0) k (vac (m 0) p k) (X0p (m 11)) p).2 := ⟨_, rfl⟩
  have f1 := s81 (G := G) (A := A) (n := n2) (r := r2) (H := H) (m := m) hn hk hp hq (d + 10)
  rw [(O_mo cp (m 11) X1).1, ← hX1] at f1
  have m10 : sb m 11 X1 0 = m 0 := sb_ne (by omega)
  have f2 := s82 (G := G) (A := A) (n := n2) (r := r2) (H := H) (m := sb m 11 X1) (k := k) (p := p) (by rw [m10]; exact hn) hk (by rw [m10]; exact hp) hq (d + 16)
  rw [m10, sb_eq, sb_sb, O_ms cp X1] at f2
  obtain ⟨X2, hX2⟩ : ∃ X2, X2 = us X1 7 (fsA (m 0) p (vac (m 0) p k) (F0s X1) k) := ⟨_, rfl⟩
  rw [← hX2] at f2
  have m20 : sb m 11 X2 0 = m 0 := sb_ne (by omega)
  have f3 := s83 (G := G) (A := A) (n := n2) (r := r2) (H := H) (m := sb m 11 X2) (k := k) (p := p) (by rw [m20]; exact hn) hk (by rw [m20]; exact hp) hq (by rw [m20]; exact hv) (d + 13)
  rw [m20] at f3
  have f4 := s84 (G := G) (A := A) (n := n2) (r := r2) (H := H) (m := sb m 11 X2) (k := k) (p := p) (by rw [m20]; exact hn) hk (by rw [m20]; exact hp) hq (by rw [m20]; exact hv) (d + 13)
  rw [m20, sb_eq, sb_sb, O_bo cp, Q_bp cp] at f4
  obtain ⟨X3, hX3⟩ : ∃ X3, X3 = us X2 8 (srt (m 0) (X2 8) p) := ⟨_, rfl⟩
  rw [← hX3] at f4
  have m30 : sb m 11 X3 0 = m 0 := sb_ne (by omega)
  obtain ⟨X, hX, f5⟩ := s94 (G := G) (A := A) (n := n2) (r := r2) (H := H) (mm := sb m 11 X3) (s := s) (k := k) (p := p) (g := g) (by rw [m30]; exact cp) (d + 9)
  rw [sb_sb] at f5
  refine ⟨X, n2, r2, fun c i hc => ?_, by omega, by omega, by omega, ?_⟩
  · rw [hX c i hc, sb_eq, hX3, us_ne (by omega), hX2, us_ne (by omega), hX1, cpS_n (by omega) (by omega), X0p_n (by omega)]
  · rw [b192_e, e1, b192_4, if_pos rcX0, cI_of (s48 hn hk (d + 19))]
    rw [if_pos (Int32.le_refl _), cI_of e2, cI_of e3, if_pos rcX0, cI_of f1, if_pos rfl, if_pos rcX0, cI_of f2, if_pos rfl, if_pos rcX0, cI_of f3, if_pos rfl, if_pos rcX0, cI_of f4, if_pos rfl, if_pos rcX0, cI_of f5, if_neg not1]; rfl
end
