/-! CLASS AND MODEL TOGETHER, part 3: vacancies, sums, references, blocking pairs. -/
def smN (f : Nat → Nat) : Nat → Nat
  | 0 => 0
  | n + 1 => smN f n + f n
theorem smN_cg {f f' : Nat → Nat} : ∀ {n : Nat}, (∀ i, i < n → f i = f' i) → smN f n = smN f' n := by
  intro n
  induction n with
  | zero => intro _; rfl
  | succ n ih => intro h; rw [smN, smN, ih (fun i hi => h i (by omega)), h n (by omega)]
theorem smN_0 {f : Nat → Nat} : ∀ {n : Nat}, (∀ i, i < n → f i = 0) → smN f n = 0 := by
  intro n
  induction n with
  | zero => intro _; rfl
  | succ n ih => intro h; rw [smN, ih (fun i hi => h i (by omega)), h n (by omega)]
theorem smN_rem {f : Nat → Nat} {c : Nat} : ∀ {n : Nat}, c < n → smN f n = smN (fun a => if a = c then 0 else f a) n + f c := by
  intro n
  induction n with
  | zero => intro h; omega
  | succ n ih =>
    intro h
    rw [smN, smN]
    by_cases e : n = c
    · subst e
      rw [if_pos rfl, smN_cg (f := fun a => if a = n then 0 else f a) (f' := f) (fun i hi => if_neg (by omega))]; omega
    · rw [if_neg e, ih (by omega)]; omega
theorem smN_ij {g : Nat → Nat} {n : Nat} : ∀ {k : Nat} {f : Nat → Nat}, IJ g k n → (∀ a, a < n → (∀ i, i < k → g i ≠ a) → f a = 0) → smN f n = smN (fun i => f (g i)) k := by
  intro k
  induction k with
  | zero => intro f _ h; exact smN_0 (fun a ha => h a ha (fun i hi => absurd hi (by omega)))
  | succ k ih =>
    intro f hg h
    have hg' : IJ g k n := ⟨fun i hi => hg.1 i (by omega), fun i j hi hj => hg.2 i j (by omega) (by omega)⟩
    rw [smN, smN_rem (hg.1 k (by omega)), ih hg' (fun a ha h1 => by
      by_cases e : a = g k
      · exact if_pos e
      · refine (if_neg e).trans (h a ha fun i hi => ?_)
        by_cases hik : i = k
        · subst hik; exact fun h => e h.symm
        · exact h1 i (by omega))]
    congr 1
    exact smN_cg (fun i hi => if_neg fun h => by have := hg.2 i k (by omega) (by omega) h; omega)
theorem sm_one {f : Nat → Int32} {c : Nat} {n : Nat} (hc : c < n) (h : ∀ i, i < n → i ≠ c → f i = 0) : sm f n = f c := by
  rw [sm_rem hc, sm_0 (fun i hi => ?_), Int32.zero_add]
  by_cases e : i = c
  · exact if_pos e
  · exact (if_neg e).trans (h i hi e)
theorem sm_add (f f' : Nat → Int32) : ∀ n, sm (fun i => f i + f' i) n = sm f n + sm f' n := by
  intro n
  induction n with
  | zero => rfl
  | succ n ih =>
    rw [sm, sm, sm, ih, Int32.add_assoc, Int32.add_assoc]
    congr 1
    rw [← Int32.add_assoc, ← Int32.add_assoc, Int32.add_comm (sm f' n)]
theorem sm_swap (f : Nat → Nat → Int32) (p : Nat) : ∀ k, sm (fun i => sm (fun q => f i q) p) k = sm (fun q => sm (fun i => f i q) k) p := by
  intro k
  induction k with
  | zero =>
    show (0 : Int32) = _
    exact (sm_0 (fun q hq => rfl)).symm
  | succ k ih =>
    rw [sm, ih, ← sm_add]
    exact sm_cg (fun q hq => rfl)
theorem sm_cnt (P : Nat → Bool) : ∀ n, sm (fun i => if P i = true then 1 else 0) n = nI (cnt P n) := by
  intro n
  induction n with
  | zero => rfl
  | succ n ih =>
    rw [sm, cnt, ih]
    by_cases e : P n = true
    · rw [if_pos e, if_pos e]; exact nI_add _ 1
    · rw [if_neg e, if_neg e]; exact Int32.add_zero _
section
variable {B : Bd} {s : Nat → Int32} {k p : Nat} {g : Nat → Nat}
theorem fh_s {i : Nat} {x : Int32} : (fh B (i + 1) x).isNone = ((fh B i x).isNone && !(B 7 i == x)) := by
  cases e : fh B (i + 1) x with
  | none =>
    have hn := fst_none e
    have : fh B i x = none := fst_of0 (fun j hj => hn j (by omega))
    rw [this, hn i (by omega)]; rfl
  | some j =>
    have hj := fst_some e
    by_cases hji : j = i
    · subst hji; rw [hj.2.1]; simp
    · have : fh B i x = some j := fst_of (by omega) hj.2.1 hj.2.2
      rw [this]; rfl
theorem vac_b (h : CP B s k p g) : ∀ i, i ≤ k → ∃ V, V < 1024 ∧ vac B p i = nI V ∧ ∀ q, q < 10 → V.testBit q = (decide (q < p) && (fh B i (nI q)).isNone) := by
  intro i
  induction i with
  | zero =>
    intro _
    have hp := CP_p h
    have t : ∀ p, p ≤ 6 → one p - 1 = nI (2 ^ p - 1) ∧ ∀ q, q < 10 → (2 ^ p - 1).testBit q = (decide (q < p)) := by decide +kernel
    refine ⟨2 ^ p - 1, ?_, (t p hp).1, fun q hq => ?_⟩
    · have : 2 ^ p ≤ 2 ^ 6 := Nat.pow_le_pow_right (by decide) hp
      omega
    · rw [(t p hp).2 q hq]
      have : fh B 0 (nI q) = none := rfl
      rw [this]; simp
  | succ i ih =>
    intro hi
    obtain ⟨V, hV, e1, e2⟩ := ih (by omega)
    rw [vac]
    have hp := CP_p h
    rcases CP_pv h i (by omega) with e | ⟨t, ht, e⟩
    · rw [if_pos (by unfold waB; rw [e]; rfl)]
      refine ⟨V, hV, e1, fun q hq => ?_⟩
      rw [e2 q hq, fh_s, e]
      have : ((-1 : Int32) == nI q) = false := by rw [beq_eq_false_iff_ne]; exact fun hh => nI_nm1 (by omega) hh.symm
      rw [this]; simp
    · have hw : waB B i = false := by unfold waB; rw [e, beq_eq_false_iff_ne]; exact nI_nm1 (by omega)
      rw [if_neg (by rw [hw]; decide), e1, e]
      refine ⟨clN t V, bt_cll hV, bt_cl V hV t (by omega), fun q hq => ?_⟩
      rw [bt_clb _ _ _ hq, e2 q hq, fh_s, e]
      have : (nI t == nI q) = decide (t = q) := by
        by_cases htq : t = q
        · subst htq; simp
        · rw [decide_eq_false htq, beq_eq_false_iff_ne]; exact fun hh => htq (nI_inj (by omega) (by omega) hh)
      rw [this, Bool.and_assoc]
theorem Q_vac (h : CP B s k p g) : bcI (vac B p k) = nI (vaM s p) := by
  obtain ⟨V, hV, e1, e2⟩ := vac_b h k (Nat.le_refl k)
  have hp := CP_p h
  rw [e1, bt_bcI V hV, Q_va h]
  unfold pcn
  have : IJ (fun j => j) p 10 := ⟨fun i hi => Nat.lt_of_lt_of_le hi (by omega), fun i j _ _ e => e⟩
  rw [cnt_ij this (p := fun a => V.testBit a) (fun a ha ht => by
    rw [e2 a ha, Bool.and_eq_true] at ht
    exact ⟨a, of_decide_eq_true ht.1, rfl⟩)]
  rw [cnt_cg (fun q hq => by
    show V.testBit q = (fh B k (nI q)).isNone
    rw [e2 q (by omega), decide_eq_true hq, Bool.true_and])]
theorem fh_eq (h : CP B s k p g) {q i : Nat} (hq : q < 6) (hi : i < k) : fh B k (nI q) = some i ↔ B 7 i = nI q := by
  refine ⟨fun e => ?_, fun e => fh_some h hq hi e⟩
  have := (fst_some e).2.1
  simpa using this
theorem Q_dw (h : CP B s k p g) : sm (pwM s) p = sm (pwB B) k := by
  have hp := CP_p h
  have e1 : ∀ q, q < p → pwM s q = sm (fun i => if B 7 i = nI q then B 13 q else 0) k := by
    intro q hq
    unfold pwM
    rw [(CP_po h hq).2.2.2.2, (CP_po h hq).2.2.2.1]
    unfold flB2
    cases e : fh B k (nI q) with
    | none =>
      have hn := fst_none e
      rw [if_pos (show (0 : Int32) ≤ 0 by decide)]
      exact (sm_0 (fun i hi => if_neg (by have := hn i hi; simpa using this))).symm
    | some i =>
      have hi := fst_some e
      have hgi := IJ_lt (CP_g h) hi.1
      have h7 := (fh_eq h (by omega) hi.1).mp e
      have : ¬ nI (g i + 1) ≤ 0 := by rw [show (0 : Int32) = nI 0 from rfl, nI_leI (by omega) (by omega)]; omega
      show (if nI (g i + 1) ≤ 0 then 0 else B 13 q) = _
      rw [if_neg this, sm_one hi.1 (fun j hj hne => if_neg fun hh => ?_), if_pos h7]
      exact hne (h.1.2.2.2.1 j i hj hi.1 (by rw [hh]; exact nI_nm1 (by omega)) (by rw [hh, h7]))
  have e2 : ∀ i, i < k → pwB B i = sm (fun q => if B 7 i = nI q then B 13 q else 0) p := by
    intro i hi
    unfold pwB
    rcases CP_pv h i hi with e | ⟨t, ht, e⟩
    · rw [if_pos (by unfold waB; rw [e]; rfl)]
      exact (sm_0 (fun q hq => if_neg (by rw [e]; exact fun hh => nI_nm1 (by omega) hh.symm))).symm
    · have hw : waB B i = false := by unfold waB; rw [e, beq_eq_false_iff_ne]; exact nI_nm1 (by omega)
      rw [if_neg (by rw [hw]; decide), sm_one ht (fun q hq hne => if_neg (by rw [e]; exact fun hh => hne (nI_inj (by omega) (by omega) hh).symm)), if_pos e]
      unfold qB; rw [e]; congr 1; exact nt_nI (by omega)
  rw [sm_cg e1, sm_cg e2, sm_swap]
theorem Q_su (h : CP B s k p g) : sm (upM s) 10 = sm (ptB B) k := by
  rw [sm_ij (CP_g h) (f := upM s) (fun a ha hn => by unfold upM; rw [Q_un h ha hn]; rfl)]
  exact sm_cg (fun i hi => by unfold upM; rw [Q_u h hi, if_pos rfl, Q_pt h hi])
theorem rf_b (h : CP B s k p g) {i j : Nat} (hi : i < k) (hj : j < k) : rfB B j i = (nt (B 8 i)).testBit j := by
  obtain ⟨V, hV, e, _⟩ := CP_gv h hi
  have := CP_k h
  unfold rfB
  rw [e, nt_nI (by omega), bt_ush V hV j (by omega)]
theorem Q_rf (h : CP B s k p g) {i j : Nat} (hi : i < k) (hj : j < k) : bitM s (g j) (g i) = rfB B j i := by
  obtain ⟨W, hW, e, h1, h2⟩ := (CP_sl h hi).2.2.2.2.2
  unfold bitM
  rw [e, bt_shr W hW _ (IJ_lt (CP_g h) hj), h1 j hj, rf_b h hi hj]
theorem Q_rr (h : CP B s k p g) {j : Nat} (hj : j < k) : sm (brM s (g j)) 10 = nI (cnt (rfB B j) k) := by
  have hgj := IJ_lt (CP_g h) hj
  have z : ∀ V, V < 1024 → ((nI V >>> (nI (g j) &&& 31)) &&& 1) = if V.testBit (g j) = true then 1 else 0 := fun V hV => bt_shv V hV _ hgj
  rw [sm_ij (CP_g h) (f := brM s (g j)) (fun a ha hn => by
    unfold brM; rw [CP_no h ha hn (by omega : 5 < 6), show (0 : Int32) = nI 0 from rfl, z 0 (by omega), Nat.zero_testBit]; rfl)]
  rw [← sm_cnt]
  refine sm_cg (fun i hi => ?_)
  obtain ⟨W, hW, e, h1, h2⟩ := (CP_sl h hi).2.2.2.2.2
  show brM s (g j) (g i) = _
  unfold brM
  rw [e, z W hW, h1 j hj, rf_b h hi hj]
/-- blocking pairs -/
theorem Q_ib (h : CP B s k p g) {i q : Nat} (hi : i < k) (hq : q < p) : ibM s p (g i) q = ibB B k i q := by
  have hp := CP_p h
  unfold ibM ibB
  rw [Q_ft h hi hq, Q_fw h hi]
  have e2 : (if po s q 4 = 0 then true else beM s (g i) (po s q 4 - 1).toNatClampNeg) = wtB B k q i := by
    rw [(CP_po h hq).2.2.2.2]
    unfold flB2 wtB
    cases e : fh B k (nI q) with
    | none => rfl
    | some f =>
      have hf := (fst_some e).1
      have hgf := IJ_lt (CP_g h) hf
      have h0 : ¬ nI (g f + 1) = 0 := fun hh => by have := nI_inj (y := 0) (by omega) (by omega) hh; omega
      show (if nI (g f + 1) = 0 then true else beM s (g i) (nI (g f + 1) - 1).toNatClampNeg) = orB B i f
      rw [if_neg h0, nI_pred, nI_clamp (by omega), Q_be h hi hf]
  rw [e2]
  rcases CP_pv h i hi with e | ⟨t, ht, e⟩
  · have hw : waB B i = true := by unfold waB; rw [e]; rfl
    rw [hw, if_pos rfl, e]; rfl
  · have hw : waB B i = false := by unfold waB; rw [e, beq_eq_false_iff_ne]; exact nI_nm1 (by omega)
    rw [hw, if_neg (by decide)]
    have hqB : qB B i = t := by unfold qB; rw [e]; exact nt_nI (by omega)
    rw [e, nt_nI (by omega), hqB]
    show (ftB B i q && (!(nI t == nI q) && (prM s q t && wtB B k q i))) = _
    rw [Q_pr h hq ht, Bool.false_or]
theorem bpM_sm (s : Nat → Int32) (p : Nat) : ∀ n, bpM s p n = smN (fun a => if uM s a = true then cnt (ibM s p a) p else 0) n := by
  intro n
  induction n with
  | zero => rfl
  | succ n ih => rw [bpM, smN, ih]
theorem bpS_sm (B : Bd) (k p : Nat) : ∀ n, bpS B k p n = smN (fun i => cnt (ibB B k i) p) n := by
  intro n
  induction n with
  | zero => rfl
  | succ n ih => rw [bpS, smN, ih]
theorem Q_bp (h : CP B s k p g) : bpM s p 10 = bpS B k p k := by
  rw [bpM_sm, bpS_sm, smN_ij (CP_g h) (f := fun a => if uM s a = true then cnt (ibM s p a) p else 0) (fun a ha hn => by rw [Q_un h ha hn]; rfl)]
  exact smN_cg (fun i hi => by rw [Q_u h hi, if_pos rfl]; exact cnt_cg (fun q hq => Q_ib h hi hq))
end
