/-! CLASS AND MODEL TOGETHER, part 19: bounds; the commands are carried out. -/
/-- the next id and the coins are at most C -/
def CB (B : Bd) (k C : Nat) : Prop := (∃ nid, nid ≤ C ∧ B 1 1 = nI nid) ∧ ∀ i, i < k → ∃ x, x ≤ C ∧ B 6 i = nI x
theorem CB_le {B : Bd} {k C C' : Nat} (h : CB B k C) (hC : C ≤ C') : CB B k C' := by
  obtain ⟨⟨nid, h1, h2⟩, h3⟩ := h
  refine ⟨⟨nid, by omega, h2⟩, fun i hi => ?_⟩
  obtain ⟨x, a, b⟩ := h3 i hi
  exact ⟨x, by omega, b⟩
theorem CB_c {B B' : Bd} {k C : Nat} (h : CB B k C) (h1 : B' 1 1 = B 1 1) (h6 : ∀ i, i < k → B' 6 i = B 6 i) : CB B' k C := by
  obtain ⟨⟨nid, a, b⟩, h3⟩ := h
  refine ⟨⟨nid, a, by rw [h1]; exact b⟩, fun i hi => ?_⟩
  rw [h6 i hi]; exact h3 i hi
theorem rm_11 {B : Bd} {k q : Nat} : rmB B k q 1 1 = B 1 1 := by
  unfold rmB fgB rmA
  rw [us_ne (by omega), ud_ni (by omega), us_ne (by omega), us_ne (by omega), us_ne (by omega), us_ne (by omega), us_ne (by omega), us_ne (by omega), us_ne (by omega)]
theorem rm_c {B : Bd} {k t c j : Nat} (ht : t < k) (hc : 2 ≤ c) (hc8 : c < 8) (hj : j < k - 1) : rmB B k t c j = B c (skp t j) := by
  have e1 : rmB B k t c = rmA B k t c := by unfold rmB fgB; exact us_ne (by omega)
  rw [e1, ← shk_at (f := B c) ht hj]
  unfold rmA
  rw [ud_nc (by omega)]
  have : c = 2 ∨ c = 3 ∨ c = 4 ∨ c = 5 ∨ c = 6 ∨ c = 7 := by omega
  rcases this with h | h | h | h | h | h <;> subst h <;> simp [us]
theorem CB_rm {B : Bd} {k t C : Nat} (h : CB B k C) (ht : t < k) : CB (rmB B k t) (k - 1) C := by
  obtain ⟨⟨nid, a, b⟩, h3⟩ := h
  refine ⟨⟨nid, a, by rw [rm_11]; exact b⟩, fun i hi => ?_⟩
  rw [rm_c ht (by omega) (by omega) hi]; exact h3 _ (skp_lt ht hi)
theorem CB_ad {B : Bd} {k C : Nat} {sh w rr : Int32} (h : CB B k C) : CB (apB B k sh w rr) (k + 1) (C + 1) := by
  obtain ⟨⟨nid, a, b⟩, h3⟩ := h
  refine ⟨⟨nid + 1, by omega, ?_⟩, fun i hi => ?_⟩
  · unfold apB; rw [ud_eq, b, nI_s1]
  · have e : apB B k sh w rr 6 i = if i = k then 0 else B 6 i := by
      unfold apB
      rw [ud_nc (by omega), ud_nc (by omega), ud_nc (by omega), ud_nc (by omega), ud_i, ud_nc (by omega), ud_nc (by omega), ud_nc (by omega), ud_nc (by omega)]
    rw [e]
    by_cases hik : i = k
    · rw [if_pos hik]; exact ⟨0, by omega, rfl⟩
    · rw [if_neg hik]
      obtain ⟨x, c, d⟩ := h3 i (by omega)
      exact ⟨x, by omega, d⟩
section
variable {B : Bd} {s : Nat → Int32} {k p : Nat} {g : Nat → Nat}
theorem CB_day (h : CP B s k p g) {C : Nat} (hC : CB B k C) : CB (dayB B k) k (C + 99) := by
  obtain ⟨⟨nid, a, b⟩, h3⟩ := hC
  refine ⟨⟨nid, by omega, by rw [day_c (by omega)]; exact b⟩, fun i hi => ?_⟩
  obtain ⟨x, c, d⟩ := h3 i hi
  rw [day_6 hi]
  unfold dcn
  by_cases hw : waB B i = true
  · rw [if_pos hw]; exact ⟨x, by omega, d⟩
  · rw [if_neg hw]
    obtain ⟨h1, _⟩ := PV_q (CP_pv h) hi (CP_p h) (by simpa using hw)
    obtain ⟨w, hw2, e⟩ := (h.1.2.2.1 _ h1).2.2.2
    exact ⟨x + w, by omega, by rw [d, e]; exact nI_add x w⟩
theorem kO_e (h : CP B s k p g) : kO B = k ∧ pO B = p := WB_kO h.1.1
theorem np_e (h : CP B s k p g) : np s = p := by
  unfold np; rw [h.2.2.1.2.2]; exact nI_clamp (by have := CP_p h; omega)
/-- the letter of a command -/
def kcd (i : Nat) : Int32 := match i with
  | 0 => 97
  | 1 => 108
  | 2 => 112
  | 3 => 99
  | 4 => 104
  | 5 => 105
  | 6 => 114
  | 7 => 109
  | _ => 100
theorem rck_k {T c : Nat → Int32} {N a : Nat} (hc : ∀ i, i < N → c i = T i) (h16 : ∀ i, sh16 (c i) = c i) (hf : fok c N a (kI T N a) = true) : rck T N a = kcd (kI T N a) := by
  by_cases h1 : bh T N a = 100 ∧ bh T N (a + 1) = 105
  · have e : kI T N a = 5 := by unfold kI; rw [if_pos h1]
    rw [e]; unfold rck; rw [if_pos h1]; rfl
  · have er : rck T N a = bh T N a := by unfold rck; rw [if_neg h1]
    have e1 : kI T N a = if bh T N a = 105 then 8 else kix (bh T N a) := by unfold kI; rw [if_neg h1]
    rw [er]
    have no8 : kI T N a = 8 → bh T N a = 100 := by
      intro e8
      refine Classical.byContradiction fun hx => ?_
      have := (let_n hc h16 (a := a) (i := 8) (by omega) rfl (by omega) (by omega) (by omega) (by omega) (show ¬ bh T N a = nI 100 from hx)).1
      rw [e8, this] at hf; cases hf
    by_cases h2 : bh T N a = 105
    · rw [if_pos h2] at e1
      rw [e1]; exact no8 e1
    · rw [if_neg h2] at e1
      unfold kix at e1
      rw [if_neg h2] at e1
      by_cases h3 : bh T N a = 97
      · rw [if_pos h3] at e1; rw [e1]; exact h3
      rw [if_neg h3] at e1
      by_cases h4 : bh T N a = 112
      · rw [if_pos h4] at e1; rw [e1]; exact h4
      rw [if_neg h4] at e1
      by_cases h5 : bh T N a = 108
      · rw [if_pos h5] at e1; rw [e1]; exact h5
      rw [if_neg h5] at e1
      by_cases h6 : bh T N a = 99
      · rw [if_pos h6] at e1; rw [e1]; exact h6
      rw [if_neg h6] at e1
      by_cases h7 : bh T N a = 104
      · rw [if_pos h7] at e1; rw [e1]; exact h7
      rw [if_neg h7] at e1
      by_cases h8 : bh T N a = 114
      · rw [if_pos h8] at e1; rw [e1]; exact h8
      rw [if_neg h8] at e1
      by_cases h9 : bh T N a = 109
      · rw [if_pos h9] at e1; rw [e1]; exact h9
      · rw [if_neg h9] at e1; rw [e1]; exact no8 e1
/-- one command, carried out by both -/
def StS (B : Bd) (s : Nat → Int32) (C : Nat) (x : Nat × Bd) (y : Nat × (Nat → Int32)) : Prop := (x.1 = 0 ∧ y.1 = 0 ∧ ∃ k' p' g', CP x.2 y.2 k' p' g' ∧ CB x.2 k' (C + 99)) ∨ (¬ x.1 = 0 ∧ ¬ y.1 = 0)
theorem st_ad (h : CP B s k p g) {C : Nat} (hC : CB B k C) (hl : C < 1999000000) (sh w rr : Int32) : StS B s C (tAd B k sh w rr) (mv (mAd s sh w rr)) := by
  obtain ⟨nid, hn1, hn2⟩ := hC.1
  rcases O_ad h hn2 (by omega) sh w rr with ⟨h1, h2, _, h4, g', h5⟩ | ⟨h1, h2⟩ | ⟨h1, h2⟩
  · left; exact ⟨h1, h2, _, _, _, h5, by rw [h4]; exact CB_le (CB_ad hC) (by omega)⟩
  · right; exact ⟨by rw [h1]; decide, by show ¬ (mAd s sh w rr).1 = 0; rw [h2]; decide⟩
  · right; exact ⟨by rw [h1]; decide, by show ¬ (mAd s sh w rr).1 = 0; rw [h2]; decide⟩
theorem st_lv (h : CP B s k p g) {C : Nat} (hC : CB B k C) (x : Int32) : StS B s C (tLv B k x) (mv (mRm s p x)) := by
  rcases O_lv h x with ⟨t, ht, h1, h2, _, h4, g', h5⟩ | ⟨_, h1, h2⟩
  · left; refine ⟨h1, h2, _, _, _, by rw [h4]; exact h5, by rw [h4]; exact CB_le (CB_rm hC (fx_k ht).1) (by omega)⟩
  · right; exact ⟨by rw [h1]; decide, by show ¬ (mRm s p x).1 = 0; rw [h2]; decide⟩
theorem st_op (h : CP B s k p g) {C : Nat} (hC : CB B k C) (sh lo hi pay : Int32) : StS B s C (tOp B p sh lo hi pay) (mv (mOp s p sh lo hi pay)) := by
  rcases O_op h sh lo hi pay with ⟨h1, h2, _, h4, h5⟩ | ⟨h1, h2⟩ | ⟨h1, h2⟩
  · left
    have e : ∀ c, c < 9 → apP B p sh lo hi pay c = B c := by
      intro c hc; unfold apP; rw [ud_nc (by omega), ud_nc (by omega), ud_nc (by omega), ud_nc (by omega), ud_nc (by omega)]
    refine ⟨h1, h2, _, _, _, h5, ?_⟩
    rw [h4]
    exact CB_le (CB_c hC (by rw [e 1 (by omega)]) (fun i _ => by rw [e 6 (by omega)])) (by omega)
  · right; exact ⟨by rw [h1]; decide, by show ¬ (mOp s p sh lo hi pay).1 = 0; rw [h2]; decide⟩
  · right; exact ⟨by rw [h1]; decide, by show ¬ (mOp s p sh lo hi pay).1 = 0; rw [h2]; decide⟩
theorem cl_cell {q c : Nat} {x : Int32} (h1 : c ≠ 7) (h2 : c < 9) : lvB (rmP B p q) k x c = B c := by
  unfold lvB rmP
  rw [us_ne h1, ud_nc (by omega), us_ne (by omega), us_ne (by omega), us_ne (by omega), us_ne (by omega)]
theorem st_cl (h : CP B s k p g) {C : Nat} (hC : CB B k C) (x : Int32) : StS B s C (tCl B k p x) (mv (mCl s p x)) := by
  rcases O_cl h x with ⟨h1, h2, _, h4, _, h5⟩ | ⟨h1, h2, _⟩
  · left
    refine ⟨h1, h2, _, _, _, h5, ?_⟩
    rw [h4]
    exact CB_le (CB_c hC (by rw [cl_cell (by omega) (by omega)]) (fun i _ => by rw [cl_cell (by omega) (by omega)])) (by omega)
  · right; exact ⟨by rw [h1]; decide, by show ¬ (mCl s p x).1 = 0; rw [h2]; decide⟩
theorem st_hi (h : CP B s k p g) {C : Nat} (hC : CB B k C) (x id : Int32) : StS B s C (tHi B k p x id) (mv (mHi s p x id)) := by
  rcases O_hi h x id with ⟨h1, h2, _, ⟨i, v, h4⟩, h5⟩ | ⟨h1, h2⟩ | ⟨h1, h2⟩ | ⟨h1, h2⟩ | ⟨h1, h2⟩
  · left
    refine ⟨h1, h2, _, _, _, h5, ?_⟩
    rw [h4]
    exact CB_le (CB_c hC (by rw [ud_nc (by omega)]) (fun j _ => by rw [ud_nc (by omega)])) (by omega)
  all_goals
    right; exact ⟨by rw [h1]; decide, by show ¬ (mHi s p x id).1 = 0; rw [h2]; decide⟩
theorem st_di (h : CP B s k p g) {C : Nat} (hC : CB B k C) (x : Int32) : StS B s C (tDi B k p x) (mv (mDi s p x)) := by
  rcases O_di h x with ⟨h1, h2, ⟨i, _, _, h4⟩, h5⟩ | ⟨h1, h2⟩ | ⟨h1, h2, _⟩
  · left
    refine ⟨h1, h2, _, _, _, h5, ?_⟩
    rw [h4]
    exact CB_le (CB_c hC (by rw [ud_nc (by omega)]) (fun j _ => by rw [ud_nc (by omega)])) (by omega)
  all_goals
    right; exact ⟨by rw [h1]; decide, by show ¬ (mDi s p x).1 = 0; rw [h2]; decide⟩
theorem st_rf (h : CP B s k p g) {C : Nat} (hC : CB B k C) (x y : Int32) : StS B s C (tRf B k x y) (mv (mRf s x y)) := by
  rcases O_rf h x y with ⟨h1, h2, _, ⟨i, v, h4⟩, h5⟩ | ⟨h1, h2⟩ | ⟨h1, h2⟩ | ⟨h1, h2⟩
  · left
    refine ⟨h1, h2, _, _, _, h5, ?_⟩
    rw [h4]
    exact CB_le (CB_c hC (by rw [ud_nc (by omega)]) (fun j _ => by rw [ud_nc (by omega)])) (by omega)
  all_goals
    right; exact ⟨by rw [h1]; decide, by show ¬ (mRf s x y).1 = 0; rw [h2]; decide⟩
theorem st_ma (h : CP B s k p g) {C : Nat} (hC : CB B k C) (X : Bd) : StS B s C (0, hhB B (gsB B k p (vac B p k) 60 (X0g X)) 6) (0, (mtL p (vaM s p) s).1) := by
  left
  refine ⟨rfl, rfl, _, _, _, (O_ma h X).1, ?_⟩
  exact CB_le (CB_c hC (by show hhB B _ 6 1 1 = _; rw [hh_c (by omega)]) (fun j _ => by show hhB B _ 6 6 j = _; rw [hh_c (by omega)])) (by omega)
theorem st_dy (h : CP B s k p g) {C : Nat} (hC : CB B k C) : StS B s C (0, dayB B k) (mv (mPd s p 1)) := by
  left
  have e : mPd s p 1 = (0, nI (pdN s p 1).2, (pdN s p 1).1) := by
    unfold mPd; rw [if_pos (show inR 1 1 30 = true by decide), show (1 : Int32).toNatClampNeg = 1 by decide]
  refine ⟨rfl, by rw [e]; rfl, _, _, _, by rw [e]; exact (O_pd h 1).1, CB_day h hC⟩
/-- how many numbers each form reads, whether a shape -/
theorem forms_n : nums (forms 0) = 2 ∧ nums (forms 1) = 1 ∧ nums (forms 2) = 3 ∧ nums (forms 3) = 1 ∧ nums (forms 4) = 2 ∧ nums (forms 5) = 1 ∧ nums (forms 6) = 2 ∧ hsh (forms 0) = true ∧ hsh (forms 2) = true := by decide
theorem st_sim (h : CP B s k p g) {C : Nat} (hC : CB B k C) (hl : C < 1999000000) {Z : Bd} {M : Nat → Int32} {i j : Nat} (hi : i < 9) (hk : M (5 * j) = kcd i) (hn : ∀ n, n < nums (forms i) → M (5 * j + (2 + n)) = Z 14 n) (hs : hsh (forms i) = true → M (5 * j + 1) = Z 11 5 ∧ sh16 (Z 11 5) = Z 11 5) : StS B s C ((pf B Z k p i).1, (pf B Z k p i).2.1) (mdo s M j) := by
  have enp := np_e h
  obtain ⟨n0, n1, n2, n3, n4, n5, n6, s0, s2⟩ := forms_n
  have cs : i = 0 ∨ i = 1 ∨ i = 2 ∨ i = 3 ∨ i = 4 ∨ i = 5 ∨ i = 6 ∨ i = 7 ∨ i = 8 := by omega
  rcases cs with e | e | e | e | e | e | e | e | e
  · subst e
    have em : mdo s M j = mv (mAd s (Z 11 5) (Z 14 0) (Z 14 1)) := by
      unfold mdo
      rw [hk, if_neg (show ¬ kcd 0 = 105 by decide), if_pos (show kcd 0 = 97 by decide), (hs s0).1, (hs s0).2, hn 0 (by omega), hn 1 (by omega)]
    rw [em]; exact st_ad h hC hl _ _ _
  · subst e
    have em : mdo s M j = mv (mRm s p (Z 14 0)) := by
      unfold mdo
      rw [hk, if_neg (show ¬ kcd 1 = 105 by decide), if_neg (show ¬ kcd 1 = 97 by decide), if_neg (show ¬ kcd 1 = 112 by decide), if_pos (show kcd 1 = 108 by decide), hn 0 (by omega), enp]
    rw [em]; exact st_lv h hC _
  · subst e
    have em : mdo s M j = mv (mOp s p (Z 11 5) (Z 14 0) (Z 14 1) (Z 14 2)) := by
      unfold mdo
      rw [hk, if_neg (show ¬ kcd 2 = 105 by decide), if_neg (show ¬ kcd 2 = 97 by decide), if_pos (show kcd 2 = 112 by decide), (hs s2).1, (hs s2).2, hn 0 (by omega), hn 1 (by omega), hn 2 (by omega), enp]
    rw [em]; exact st_op h hC _ _ _ _
  · subst e
    have em : mdo s M j = mv (mCl s p (Z 14 0)) := by
      unfold mdo
      rw [hk, if_neg (show ¬ kcd 3 = 105 by decide), if_neg (show ¬ kcd 3 = 97 by decide), if_neg (show ¬ kcd 3 = 112 by decide), if_neg (show ¬ kcd 3 = 108 by decide), if_pos (show kcd 3 = 99 by decide), hn 0 (by omega), enp]
    rw [em]; exact st_cl h hC _
  · subst e
    have em : mdo s M j = mv (mHi s p (Z 14 0) (Z 14 1)) := by
      unfold mdo
      rw [hk, if_neg (show ¬ kcd 4 = 105 by decide), if_neg (show ¬ kcd 4 = 97 by decide), if_neg (show ¬ kcd 4 = 112 by decide), if_neg (show ¬ kcd 4 = 108 by decide), if_neg (show ¬ kcd 4 = 99 by decide), if_pos (show kcd 4 = 104 by decide), hn 0 (by omega), hn 1 (by omega), enp]
    rw [em]; exact st_hi h hC _ _
  · subst e
    have em : mdo s M j = mv (mDi s p (Z 14 0)) := by
      unfold mdo
      rw [hk, if_pos (show kcd 5 = 105 by decide), hn 0 (by omega), enp]
    rw [em]; exact st_di h hC _
  · subst e
    have em : mdo s M j = mv (mRf s (Z 14 0) (Z 14 1)) := by
      unfold mdo
      rw [hk, if_neg (show ¬ kcd 6 = 105 by decide), if_neg (show ¬ kcd 6 = 97 by decide), if_neg (show ¬ kcd 6 = 112 by decide), if_neg (show ¬ kcd 6 = 108 by decide), if_neg (show ¬ kcd 6 = 99 by decide), if_neg (show ¬ kcd 6 = 104 by decide), if_pos (show kcd 6 = 114 by decide), hn 0 (by omega), hn 1 (by omega)]
    rw [em]; exact st_rf h hC _ _
  · subst e
    have em : mdo s M j = (0, (mtL p (vaM s p) s).1) := by
      unfold mdo
      rw [hk, if_neg (show ¬ kcd 7 = 105 by decide), if_neg (show ¬ kcd 7 = 97 by decide), if_neg (show ¬ kcd 7 = 112 by decide), if_neg (show ¬ kcd 7 = 108 by decide), if_neg (show ¬ kcd 7 = 99 by decide), if_neg (show ¬ kcd 7 = 104 by decide), if_neg (show ¬ kcd 7 = 114 by decide), if_pos (show kcd 7 = 109 by decide), enp]
    rw [em]; exact st_ma h hC Z
  · subst e
    have em : mdo s M j = mv (mPd s p 1) := by
      unfold mdo
      rw [hk, if_neg (show ¬ kcd 8 = 105 by decide), if_neg (show ¬ kcd 8 = 97 by decide), if_neg (show ¬ kcd 8 = 112 by decide), if_neg (show ¬ kcd 8 = 108 by decide), if_neg (show ¬ kcd 8 = 99 by decide), if_neg (show ¬ kcd 8 = 104 by decide), if_neg (show ¬ kcd 8 = 114 by decide), if_neg (show ¬ kcd 8 = 109 by decide), enp]
    rw [em]; exact st_dy h hC
end
section
variable {T c : Nat → Int32} {N : Nat}
/-- the commands, one behind another -/
theorem run_sim (hc : ∀ i, i < N → c i = T i) (h16 : ∀ i, sh16 (c i) = c i) {cc : Nat} {X : Bd} {M : Nat → Int32} (hM : CMS T c N X M cc) (hN : N ≤ 60) : ∀ (t : Nat) (B Z : Bd) (s : Nat → Int32) (k p : Nat) (g : Nat → Nat) (C : Nat), t ≤ cc → CP B s k p g → CB B k C → C + 99 * t < 1999000000 → (∀ j, Z 13 j = X 13 j) → ((runC c N cc t B Z).1 = -1 ∧ (exM M t (cc - t) s).2 = none ∧ ∃ k' p' g', CP (runC c N cc t B Z).2.1 (exM M t (cc - t) s).1 k' p' g' ∧ CB (runC c N cc t B Z).2.1 k' (C + 99 * t)) ∨ ∃ j f, j < cc ∧ (runC c N cc t B Z).1 = nI j ∧ (exM M t (cc - t) s).2 = some (j, f) := by
  intro t
  induction t with
  | zero => intro B Z s k p g C _ h hC _ _; left; exact ⟨rfl, rfl, k, p, g, h, CB_le hC (by omega)⟩
  | succ t ih =>
    intro B Z s k p g C ht h hC hl hZ
    obtain ⟨j, hj⟩ : ∃ j, j = cc - (t + 1) := ⟨_, rfl⟩
    have hjc : j < cc := by omega
    obtain ⟨a, a1, a2, a3, a4, c', M0, a5⟩ := hM j hjc
    have eZ : (Z 13 (cc - (t + 1))).toNatClampNeg = a := by rw [← hj, hZ, a2, nI_clamp (by omega)]
    obtain ⟨sh, F, er⟩ := ra_t hc h16 a3 9 a (stO Z) (Nat.le_refl 9) (by omega)
    have hk9 := kI_lt T N a
    obtain ⟨f1, f2⟩ := forms_ok _ hk9
    obtain ⟨kk, pp⟩ := kO_e h
    have hP : runC c N cc (t + 1) B Z = if (pf B (em Z (rf c N (forms (kI T N a)) (a, sh, 0, F)).2) k p (kI T N a)).1 = 0 then runC c N cc t (pf B (em Z (rf c N (forms (kI T N a)) (a, sh, 0, F)).2) k p (kI T N a)).2.1 (pf B (em Z (rf c N (forms (kI T N a)) (a, sh, 0, F)).2) k p (kI T N a)).2.2 else (nI j, (pf B (em Z (rf c N (forms (kI T N a)) (a, sh, 0, F)).2) k p (kI T N a)).2.1, (pf B (em Z (rf c N (forms (kI T N a)) (a, sh, 0, F)).2) k p (kI T N a)).2.2) := by
      rw [runC_s, eZ, er, kk, pp, ← hj]
    rw [hP, ← hj, exM]
    have hrf := rf_sim hc h16 (k := j) (forms (kI T N a)) false (a, sh, 0, F) (a, 0, c', M0) f1 SIM_0 (by show 0 + nums (forms (kI T N a)) ≤ 3; omega)
    have hok := (cl_any hc h16 (a := a) (sh := sh) (F := F) hk9).1
    rw [a3] at hok
    obtain ⟨_, g2, g3⟩ := hrf.resolve_right (fun hx => by rw [hok] at hx; exact absurd hx.1 (by decide))
    generalize (rf c N (forms (kI T N a)) (a, sh, 0, F)).2 = st' at g2 g3 ⊢
    obtain ⟨_, _, g4, g5⟩ := g3
    have g2' : st'.2.2.1 = nums (forms (kI T N a)) := by rw [g2]; show 0 + nums _ = _; omega
    have hst := st_sim h hC (by omega) (Z := em Z st') (M := M) (i := kI T N a) (j := j) hk9 (by rw [a4]; exact rck_k hc h16 a3) (fun n hn => by
      rw [a5 (2 + n) (by omega) (by omega), em_14]
      exact g4 n (by omega)) (fun hh => by
      rw [em_5, a5 1 (by omega) (by omega)]
      exact g5 (by rw [Bool.false_or]; exact hh))
    generalize hpf : pf B (em Z st') k p (kI T N a) = P at hst ⊢
    rcases hst with ⟨x1, x2, k', p', g', x3, x4⟩ | ⟨x1, x2⟩
    · rw [if_pos (show P.1 = 0 from x1), if_pos x2]
      have hZ' : ∀ i, P.2.2 13 i = X 13 i := fun i => by
        rw [← hpf, pf_Z (by omega) (by omega), em_o (by omega) (by omega)]; exact hZ i
      have := ih P.2.1 P.2.2 (mdo s M j).2 k' p' g' (C + 99) (by omega) x3 x4 (by omega) hZ'
      rw [show cc - t = j + 1 by omega] at this
      rcases this with ⟨y1, y2, k2, p2, g2, y3, y4⟩ | y
      · left; exact ⟨y1, y2, k2, p2, g2, y3, CB_le y4 (by omega)⟩
      · right; exact y
    · rw [if_neg (show ¬ P.1 = 0 from x1), if_neg x2]
      right
      exact ⟨j, (mdo s M j).1, hjc, rfl, rfl⟩
end
