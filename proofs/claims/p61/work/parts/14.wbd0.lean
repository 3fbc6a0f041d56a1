/-! BOARDS THAT HOLD TOGETHER: counts and posts; every try keeps them. -/
def WB (B : Bd) (k p : Nat) : Prop := B 1 0 = nI k ∧ k ≤ 10 ∧ B 9 0 = nI p ∧ p ≤ 6 ∧ PV B k p
theorem WB_ad {B : Bd} {k p : Nat} (h : WB B k p) (hk : k < 10) (sh w rr : Int32) : WB (apB B k sh w rr) (k + 1) p := by
  obtain ⟨h1, h2, h3, h4, h5⟩ := h
  refine ⟨?_, by omega, ?_, h4, ?_⟩
  · unfold apB; rw [ud_ni (by omega), ud_eq]
  · unfold apB
    rw [ud_nc (by omega), ud_nc (by omega), ud_nc (by omega), ud_nc (by omega), ud_nc (by omega), ud_nc (by omega), ud_nc (by omega), ud_nc (by omega), ud_nc (by omega)]; exact h3
  · intro i hi
    unfold apB
    rw [ud_nc (by omega), ud_nc (by omega), ud_nc (by omega)]
    by_cases e : i = k
    · subst e; rw [ud_eq]; exact Or.inl rfl
    · rw [ud_ni e, ud_nc (by omega), ud_nc (by omega), ud_nc (by omega), ud_nc (by omega), ud_nc (by omega)]
      exact h5 i (by omega)
theorem rmA_7 (B : Bd) (k q : Nat) : rmA B k q 7 = shf (B 7) q k := by
  unfold rmA; rw [ud_nc (by omega), us_ne (by omega), us_eq]
theorem rmB_7 (B : Bd) (k q : Nat) : rmB B k q 7 = shf (B 7) q k := by
  unfold rmB fgB; rw [us_ne (by omega), rmA_7]
theorem rmB_n {B : Bd} {k q c : Nat} (h : c = 0 ∨ 9 ≤ c) : rmB B k q c = B c := by
  unfold rmB fgB; rw [us_ne (by omega)]; unfold rmA
  rw [ud_nc (by omega), us_ne (by omega), us_ne (by omega), us_ne (by omega), us_ne (by omega), us_ne (by omega), us_ne (by omega), us_ne (by omega)]
theorem shf_at {g : Nat → Int32} {q k i : Nat} (hi : i < k - 1) (hq : q < k) : shf g q k i = if i < q then g i else g (i + 1) := by
  unfold shf cpf
  by_cases h : i < q
  · rw [if_neg (by omega), if_pos h]
  · rw [if_pos (by omega), if_neg h]; congr 1; omega
theorem WB_rm {B : Bd} {k p q : Nat} (h : WB B k p) (hq : q < k) : WB (rmB B k q) (k - 1) p := by
  obtain ⟨h1, h2, h3, h4, h5⟩ := h
  refine ⟨rmB_cnt B k q, by omega, ?_, h4, ?_⟩
  · rw [rmB_n (Or.inr (by omega))]; exact h3
  · intro i hi
    rw [rmB_7, shf_at hi hq]
    split
    · exact h5 i (by omega)
    · exact h5 (i + 1) (by omega)
theorem WB_8 {B : Bd} {k p i : Nat} {v : Int32} (h : WB B k p) : WB (ud B 8 i v) k p := by
  obtain ⟨h1, h2, h3, h4, h5⟩ := h
  exact ⟨by rw [ud_nc (by omega)]; exact h1, h2, by rw [ud_nc (by omega)]; exact h3, h4, fun j hj => by rw [ud_nc (by omega)]; exact h5 j hj⟩
theorem WB_7 {B : Bd} {k p i : Nat} {v : Int32} (h : WB B k p) (hv : v = -1 ∨ ∃ q, q < p ∧ v = nI q) : WB (ud B 7 i v) k p := by
  obtain ⟨h1, h2, h3, h4, h5⟩ := h
  refine ⟨by rw [ud_nc (by omega)]; exact h1, h2, by rw [ud_nc (by omega)]; exact h3, h4, fun j hj => ?_⟩
  by_cases e : j = i
  · subst e; rw [ud_eq]; exact hv
  · rw [ud_ni e]; exact h5 j hj
theorem WB_op {B : Bd} {k p : Nat} (h : WB B k p) (hp : p < 6) (sh lo hi pay : Int32) : WB (apP B p sh lo hi pay) k (p + 1) := by
  obtain ⟨h1, h2, h3, h4, h5⟩ := h
  refine ⟨?_, h2, ?_, by omega, ?_⟩
  · unfold apP; rw [ud_nc (by omega), ud_nc (by omega), ud_nc (by omega), ud_nc (by omega), ud_nc (by omega)]; exact h1
  · unfold apP; rw [ud_eq]
  · intro i hi
    unfold apP; rw [ud_nc (by omega), ud_nc (by omega), ud_nc (by omega), ud_nc (by omega), ud_nc (by omega)]
    rcases h5 i hi with h | ⟨q, hq, h⟩
    · exact Or.inl h
    · exact Or.inr ⟨q, by omega, h⟩
theorem rmP_n {B : Bd} {p q c : Nat} (h : c < 9) : rmP B p q c = B c := by
  unfold rmP
  rw [ud_nc (by omega), us_ne (by omega), us_ne (by omega), us_ne (by omega), us_ne (by omega)]
theorem rmP_9 (B : Bd) (p q : Nat) : rmP B p q 9 0 = nI (p - 1) := by unfold rmP; rw [ud_eq]
theorem lvB_n {B : Bd} {k c : Nat} {x : Int32} (h : c ≠ 7) : lvB B k x c = B c := by unfold lvB; rw [us_ne h]
theorem lvB_7 {B : Bd} {k i : Nat} {x : Int32} (h : i < k) : lvB B k x 7 i = lvv x (B 7 i) := by
  unfold lvB; rw [us_eq]; unfold mix; rw [if_pos h]
theorem lvv_q {q t : Nat} (hq : q < 2 ^ 31) (ht : t < 2 ^ 31) : lvv (nI q) (nI t) = if t = q then -1 else if t < q then nI t else nI (t - 1) := by
  unfold lvv
  by_cases h : t = q
  · subst h; simp
  · rw [if_neg (fun e => h ((nI_eq ht hq).mp e)), if_neg h]
    by_cases h2 : t < q
    · rw [if_pos (nI_le (by omega) hq), if_pos h2]
    · rw [if_neg (fun e => h2 (by have := (nI_leI ht hq).mp e; omega)), if_neg h2]
      exact nI_sub (c := 1) (by omega)
theorem lvv_n {q : Nat} (hq : q < 2 ^ 31) : lvv (nI q) (-1) = -1 := by
  unfold lvv
  rw [if_neg (fun e => nI_nm1 hq e.symm)]
  have h0 : (-1 : Int32) ≤ nI q := by
    rw [Int32.le_iff_toInt_le, nI_toInt hq]
    have : (-1 : Int32).toInt = -1 := by decide
    omega
  rw [if_pos h0]
theorem WB_cl {B : Bd} {k p q : Nat} (h : WB B k p) (hq : q < p) : WB (lvB (rmP B p q) k (nI q)) k (p - 1) := by
  obtain ⟨h1, h2, h3, h4, h5⟩ := h
  refine ⟨?_, h2, ?_, by omega, ?_⟩
  · rw [lvB_n (by omega), rmP_n (by omega)]; exact h1
  · rw [lvB_n (by omega), rmP_9]
  · intro i hi
    rw [lvB_7 hi, rmP_n (by omega)]
    rcases h5 i hi with h | ⟨t, ht, h⟩
    · rw [h, lvv_n (by omega)]; exact Or.inl rfl
    · rw [h, lvv_q (by omega) (by omega)]
      split
      · exact Or.inl rfl
      · split
        · exact Or.inr ⟨t, by omega, rfl⟩
        · exact Or.inr ⟨t - 1, by omega, rfl⟩
theorem WB_day {B : Bd} {k p : Nat} (h : WB B k p) : WB (dayB B k) k p := by
  obtain ⟨h1, h2, h3, h4, h5⟩ := h
  exact ⟨by rw [dayB_n (by omega) (by omega) (by omega) (by omega)]; exact h1, h2, by rw [dayB_n (by omega) (by omega) (by omega) (by omega)]; exact h3, h4, PV_day h5⟩
theorem WB_rw {lim : Int32} {p : Nat} : ∀ (i : Nat) (B : Bd) (k : Nat), i ≤ k → WB B k p → WB (rwa lim i (B, k)).1 (rwa lim i (B, k)).2 p := by
  intro i
  induction i with
  | zero => intro B k _ h; exact h
  | succ i ih =>
    intro B k hi h
    rw [rwa]
    split
    · exact ih _ _ (by simp only []; omega) (WB_rm h (by omega))
    · exact ih _ _ (by omega) h
/-- held posts are posts -/
def HP (X : Bd) (p : Nat) : Prop := ∀ q, q < 6 → X 3 q ≠ -1 → q < p
theorem HP_gs {B : Bd} {k p : Nat} {v : Int32} : ∀ (t : Nat) (X : Bd), HP X p → HP (gsB B k p v t X) p := by
  intro t
  induction t with
  | zero => intro X h; exact h
  | succ t ih =>
    intro X h
    rw [gsB]
    cases nxB B X k p v with
    | none => exact h
    | some i =>
      cases hc : chB B X p v i with
      | none => simp only [hc]; exact h
      | some q =>
        simp only [hc]
        refine ih _ (fun q' hq' hne => ?_)
        unfold proB at hne
        split at hne
        · by_cases e : q' = q
          · subst e; exact chB_lt hc
          · rw [ud_ni e, ud_nc (by omega)] at hne; exact h q' hq' hne
        · rw [ud_nc (by omega)] at hne; exact h q' hq' hne
theorem HP_0 (X : Bd) (p : Nat) : HP (X0g X) p := by
  intro q hq hne
  exfalso; apply hne
  unfold X0g; rw [us_ne (by omega), us_eq]; exact if_pos hq
theorem WB_hh {B X : Bd} {k p : Nat} (h : WB B k p) (hX : HP X p) : ∀ q, q ≤ 6 → WB (hhB B X q) k p := by
  intro q
  induction q with
  | zero => intro _; exact h
  | succ q ih =>
    intro hq
    rw [hhB]; split
    · exact ih (by omega)
    · rename_i hne; exact WB_7 (ih (by omega)) (Or.inr ⟨q, hX q (by omega) hne, rfl⟩)
theorem WB_tAd {B : Bd} {k p : Nat} (h : WB B k p) (sh w rr : Int32) : ∃ k', WB (tAd B k sh w rr).2 k' p := by
  unfold tAd; split
  · split
    · exact ⟨_, WB_ad h (by assumption) sh w rr⟩
    · exact ⟨_, h⟩
  · exact ⟨_, h⟩
theorem WB_tLv {B : Bd} {k p : Nat} (h : WB B k p) (x : Int32) : ∃ k', WB (tLv B k x).2 k' p := by
  unfold tLv; split
  · exact ⟨_, h⟩
  · rename_i i hi; exact ⟨_, WB_rm h (fx_lt hi).1⟩
theorem WB_tRf {B : Bd} {k p : Nat} (h : WB B k p) (x y : Int32) : WB (tRf B k x y).2 k p := by
  unfold tRf; split
  · exact h
  · split
    · exact h
    · split
      · exact h
      · split
        · exact h
        · exact WB_8 h
theorem WB_tWd {B : Bd} {k p : Nat} (h : WB B k p) (x y : Int32) : WB (tWd B k x y).2 k p := by
  unfold tWd; split
  · exact h
  · split
    · exact h
    · split
      · exact WB_8 h
      · exact h
theorem WB_tOp {B : Bd} {k p : Nat} (h : WB B k p) (sh lo hi pay : Int32) : ∃ p', WB (tOp B p sh lo hi pay).2 k p' := by
  unfold tOp; split
  · split
    · exact ⟨_, WB_op h (by assumption) sh lo hi pay⟩
    · exact ⟨_, h⟩
  · exact ⟨_, h⟩
theorem WB_tCl {B : Bd} {k p : Nat} (h : WB B k p) (x : Int32) : ∃ p', WB (tCl B k p x).2 k p' := by
  have h4 := h.2.2.2.1
  unfold tCl; split
  · rename_i hr
    obtain ⟨q, hq, rfl⟩ := (inR_nI (by omega)).mp hr
    rw [nI_clamp (by omega)]
    exact ⟨_, WB_cl h hq⟩
  · exact ⟨_, h⟩
theorem WB_tHi {B : Bd} {k p : Nat} (h : WB B k p) (x y : Int32) : WB (tHi B k p x y).2 k p := by
  have h4 := h.2.2.2.1
  unfold tHi; split
  · rename_i hr
    obtain ⟨q, hq, rfl⟩ := (inR_nI (by omega)).mp hr
    split
    · exact h
    · split
      · exact h
      · split
        · split
          · exact WB_7 h (Or.inr ⟨q, hq, rfl⟩)
          · exact h
        · exact h
  · exact h
theorem WB_tDi {B : Bd} {k p : Nat} (h : WB B k p) (x : Int32) : WB (tDi B k p x).2 k p := by
  unfold tDi; split
  · split
    · exact h
    · exact WB_7 h (Or.inl rfl)
  · exact h
