/-! THE READERS TOGETHER, part 1: a command, a text. -/
def fok (c : Nat → Int32) (N a i : Nat) : Bool := (rf c N (forms i) (a, 0, 0, fun _ => 0)).1
def fps (c : Nat → Int32) (N a i : Nat) : Nat := (rf c N (forms i) (a, 0, 0, fun _ => 0)).2.1
/-- which form a text can have -/
def kI (T : Nat → Int32) (N a : Nat) : Nat := if bh T N a = 100 ∧ bh T N (a + 1) = 105 then 5 else if bh T N a = 105 then 8 else kix (bh T N a)
theorem kI_lt (T : Nat → Int32) (N a : Nat) : kI T N a < 9 := by
  unfold kI kix
  repeat' split
  all_goals omega
section
variable {T c : Nat → Int32} {N : Nat}
theorem SIM_0 {k a : Nat} {sh : Int32} {F : Nat → Int32} {c' : Nat} {M : Nat → Int32} : SIM k false (a, sh, 0, F) (a, 0, c', M) := ⟨rfl, rfl, fun j hj => absurd hj (Nat.not_lt_zero j), fun h => (by cases h)⟩
theorem ml_any (hc : ∀ i, i < N → c i = T i) (h16 : ∀ i, sh16 (c i) = c i) {k a i c' : Nat} {M : Nat → Int32} (hi : i < 9) : (fok c N a i = true ∧ (mrn T N k (forms i) 0 (a, 0, c', M)).2.1 = 0 ∧ (mrn T N k (forms i) 0 (a, 0, c', M)).1 = fps c N a i) ∨ (fok c N a i = false ∧ (mrn T N k (forms i) 0 (a, 0, c', M)).2.1 = 1 ∧ (mrn T N k (forms i) 0 (a, 0, c', M)).1 = fps c N a i) := by
  obtain ⟨f1, f2⟩ := forms_ok i hi
  rcases rf_sim hc h16 (k := k) (forms i) false (a, 0, 0, fun _ => 0) (a, 0, c', M) f1 SIM_0 (by show 0 + nums (forms i) ≤ 3; omega) with ⟨g1, _, g3⟩ | ⟨g1, g2, g3⟩
  · left; exact ⟨g1, g3.2.1, g3.1⟩
  · right; exact ⟨g1, g3, g2.symm⟩
theorem cl_any (hc : ∀ i, i < N → c i = T i) (h16 : ∀ i, sh16 (c i) = c i) {a i : Nat} {sh : Int32} {F : Nat → Int32} (hi : i < 9) : (rf c N (forms i) (a, sh, 0, F)).1 = fok c N a i ∧ (rf c N (forms i) (a, sh, 0, F)).2.1 = fps c N a i := by
  obtain ⟨f1, f2⟩ := forms_ok i hi
  have hm := ml_any hc h16 (k := 0) (a := a) (c' := 0) (M := fun _ => 0) hi
  rcases rf_sim hc h16 (k := 0) (forms i) false (a, sh, 0, F) (a, 0, 0, fun _ => 0) f1 SIM_0 (by show 0 + nums (forms i) ≤ 3; omega) with ⟨g1, _, g3⟩ | ⟨g1, g2, g3⟩
  · rcases hm with ⟨m1, m2, m3⟩ | ⟨m1, m2, m3⟩
    · exact ⟨g1.trans m1.symm, g3.1.symm.trans m3⟩
    · have h0 := g3.2.1
      have h1 : (mrn T N 0 (forms i) 0 (a, 0, 0, fun _ => 0)).2.1 = 0 := h0
      rw [h1] at m2; exact absurd m2 (by decide)
  · rcases hm with ⟨m1, m2, m3⟩ | ⟨m1, m2, m3⟩
    · have h1 : (mrn T N 0 (forms i) 0 (a, 0, 0, fun _ => 0)).2.1 = 1 := g3
      rw [h1] at m2; exact absurd m2 (by decide)
    · exact ⟨g1.trans m1.symm, g2.trans m3⟩
theorem fps_ge (hc : ∀ i, i < N → c i = T i) (h16 : ∀ i, sh16 (c i) = c i) {a i : Nat} (hi : i < 9) : a ≤ fps c N a i := by
  have h1 := mrn_ge (T := T) (N := N) (c := 0) (forms i) 0 (a, 0, 0, fun _ => 0)
  rcases ml_any hc h16 (k := 0) (a := a) (c' := 0) (M := fun _ => 0) hi with ⟨_, _, m3⟩ | ⟨_, _, m3⟩
  · rw [m3] at h1; exact h1
  · rw [m3] at h1; exact h1
theorem mk1_t {a w c' : Nat} {M : Nat → Int32} (h : bh T N a = nI w) : mkS T N [w] (a, 0, c', M) = (a + 1, 0, c', M) := by
  rw [mkS]; rw [if_pos rfl, if_pos h]; rfl
theorem mk1_f {a w c' : Nat} {M : Nat → Int32} (h : ¬ bh T N a = nI w) : mkS T N [w] (a, 0, c', M) = (a, 1, c', M) := by
  rw [mkS]; rw [if_pos rfl, if_neg h]
theorem mrn_w {a w c' k n : Nat} {l : List Nat} {M : Nat → Int32} (h1 : w ≠ 78) (h2 : w ≠ 68) (h3 : w ≠ 83) (h4 : w ≠ 82) : mrn T N k (w :: l) n (a, 0, c', M) = mrn T N k l n (mkS T N [w] (a, 0, c', M)) := by
  rw [mrn, if_neg h1, if_neg h2, if_neg h3, if_neg h4]
/-- the first letter -/
theorem let_n (hc : ∀ i, i < N → c i = T i) (h16 : ∀ i, sh16 (c i) = c i) {a i w : Nat} {l : List Nat} (hi : i < 9) (e : forms i = w :: l) (h1 : w ≠ 78) (h2 : w ≠ 68) (h3 : w ≠ 83) (h4 : w ≠ 82) (h : ¬ bh T N a = nI w) : fok c N a i = false ∧ fps c N a i = a := by
  have hm := ml_any hc h16 (k := 0) (a := a) (c' := 0) (M := fun _ => 0) hi
  rw [e, mrn_w h1 h2 h3 h4, mk1_f h] at hm
  obtain ⟨m1, m2⟩ := mrn_f (T := T) (N := N) (c := 0) l 0 (a, 1, 0, fun _ => 0) rfl
  rw [m1, m2] at hm
  rcases hm with ⟨_, b, _⟩ | ⟨a1, _, a3⟩
  · exact absurd b (by decide)
  · exact ⟨a1, a3.symm⟩
/-- the second letter -/
theorem let_2 (hc : ∀ i, i < N → c i = T i) (h16 : ∀ i, sh16 (c i) = c i) {a i w v : Nat} {l : List Nat} (hi : i < 9) (e : forms i = w :: v :: l) (h1 : w ≠ 78) (h2 : w ≠ 68) (h3 : w ≠ 83) (h4 : w ≠ 82) (g1 : v ≠ 78) (g2 : v ≠ 68) (g3 : v ≠ 83) (g4 : v ≠ 82) (h : bh T N a = nI w) (h' : ¬ bh T N (a + 1) = nI v) : fok c N a i = false ∧ fps c N a i = a + 1 := by
  have hm := ml_any hc h16 (k := 0) (a := a) (c' := 0) (M := fun _ => 0) hi
  rw [e, mrn_w h1 h2 h3 h4, mk1_t h, mrn_w g1 g2 g3 g4, mk1_f h'] at hm
  obtain ⟨m1, m2⟩ := mrn_f (T := T) (N := N) (c := 0) l 0 (a + 1, 1, 0, fun _ => 0) rfl
  rw [m1, m2] at hm
  rcases hm with ⟨_, b, _⟩ | ⟨a1, _, a3⟩
  · exact absurd b (by decide)
  · exact ⟨a1, a3.symm⟩
theorem let_g (hc : ∀ i, i < N → c i = T i) (h16 : ∀ i, sh16 (c i) = c i) {a i w : Nat} {l : List Nat} (hi : i < 9) (e : forms i = w :: l) (h1 : w ≠ 78) (h2 : w ≠ 68) (h3 : w ≠ 83) (h4 : w ≠ 82) (h : bh T N a = nI w) : a + 1 ≤ fps c N a i := by
  have hm := ml_any hc h16 (k := 0) (a := a) (c' := 0) (M := fun _ => 0) hi
  rw [e, mrn_w h1 h2 h3 h4, mk1_t h] at hm
  have := mrn_ge (T := T) (N := N) (c := 0) l 0 (a + 1, 0, 0, fun _ => 0)
  rcases hm with ⟨_, _, m3⟩ | ⟨_, _, m3⟩
  · rw [m3] at this; exact this
  · rw [m3] at this; exact this
/-- the other forms fail, and not behind the one of the letters -/
theorem oth_f (hc : ∀ i, i < N → c i = T i) (h16 : ∀ i, sh16 (c i) = c i) {a j : Nat} (hj : j < 9) (hne : j ≠ kI T N a) : fok c N a j = false ∧ fps c N a j ≤ fps c N a (kI T N a) := by
  have hk := kI_lt T N a
  have ge := fps_ge hc h16 (a := a) hk
  have one : ∀ w l, forms j = w :: l → w ≠ 78 → w ≠ 68 → w ≠ 83 → w ≠ 82 → ¬ bh T N a = nI w → fok c N a j = false ∧ fps c N a j ≤ fps c N a (kI T N a) := by
    intro w l e h1 h2 h3 h4 h
    obtain ⟨m1, m2⟩ := let_n hc h16 hj e h1 h2 h3 h4 h
    exact ⟨m1, by omega⟩
  have cs : j = 0 ∨ j = 1 ∨ j = 2 ∨ j = 3 ∨ j = 4 ∨ j = 5 ∨ j = 6 ∨ j = 7 ∨ j = 8 := by omega
  rcases cs with e | e | e | e | e | e | e | e | e
  · subst e; exact one 97 _ rfl (by omega) (by omega) (by omega) (by omega) (fun hx => hne (by unfold kI; rw [hx]; rfl))
  · subst e; exact one 108 _ rfl (by omega) (by omega) (by omega) (by omega) (fun hx => hne (by unfold kI; rw [hx]; rfl))
  · subst e; exact one 112 _ rfl (by omega) (by omega) (by omega) (by omega) (fun hx => hne (by unfold kI; rw [hx]; rfl))
  · subst e; exact one 99 _ rfl (by omega) (by omega) (by omega) (by omega) (fun hx => hne (by unfold kI; rw [hx]; rfl))
  · subst e; exact one 104 _ rfl (by omega) (by omega) (by omega) (by omega) (fun hx => hne (by unfold kI; rw [hx]; rfl))
  · subst e
    by_cases h1 : bh T N a = nI 100
    · have h2 : ¬ bh T N (a + 1) = nI 105 := fun hx => hne (by unfold kI; rw [if_pos ⟨h1, hx⟩])
      obtain ⟨m1, m2⟩ := let_2 hc h16 (i := 5) hj rfl (by omega) (by omega) (by omega) (by omega) (by omega) (by omega) (by omega) (by omega) h1 h2
      refine ⟨m1, ?_⟩
      have e8 : kI T N a = 8 := by unfold kI; rw [if_neg (fun hx => h2 hx.2), h1]; rfl
      rw [m2, e8]
      exact let_g hc h16 (i := 8) (by omega) rfl (by omega) (by omega) (by omega) (by omega) h1
    · exact one 100 _ rfl (by omega) (by omega) (by omega) (by omega) h1
  · subst e; exact one 114 _ rfl (by omega) (by omega) (by omega) (by omega) (fun hx => hne (by unfold kI; rw [hx]; rfl))
  · subst e; exact one 109 _ rfl (by omega) (by omega) (by omega) (by omega) (fun hx => hne (by unfold kI; rw [hx]; rfl))
  · subst e
    by_cases h1 : bh T N a = nI 100
    · have h2 : bh T N (a + 1) = nI 105 := Classical.byContradiction fun hx => hne (by unfold kI; rw [if_neg (fun hy => hx hy.2), h1]; rfl)
      have h3 : ¬ bh T N (a + 1) = nI 97 := fun hx => by rw [h2] at hx; exact absurd hx (by decide)
      obtain ⟨m1, m2⟩ := let_2 hc h16 (i := 8) hj rfl (by omega) (by omega) (by omega) (by omega) (by omega) (by omega) (by omega) (by omega) h1 h3
      refine ⟨m1, ?_⟩
      have e5 : kI T N a = 5 := by unfold kI; rw [if_pos ⟨h1, h2⟩]
      rw [m2, e5]
      exact let_g hc h16 (i := 5) (by omega) rfl (by omega) (by omega) (by omega) (by omega) h1
    · exact one 100 _ rfl (by omega) (by omega) (by omega) (by omega) h1
theorem ra_t (hc : ∀ i, i < N → c i = T i) (h16 : ∀ i, sh16 (c i) = c i) {a : Nat} (hf : fok c N a (kI T N a) = true) : ∀ (t far : Nat) (st : PS), t ≤ 9 → 9 - t ≤ kI T N a → ∃ sh F, ra c N a t far st = (some (kI T N a), (rf c N (forms (kI T N a)) (a, sh, 0, F)).2) := by
  have hk := kI_lt T N a
  intro t
  induction t with
  | zero => intro far st _ h; omega
  | succ t ih =>
    intro far st ht hle
    have e8 : 8 - t = 9 - (t + 1) := by omega
    rw [ra, e8]
    by_cases e : 9 - (t + 1) = kI T N a
    · rw [e]
      have hx := (cl_any hc h16 (a := a) (sh := st.2.1) (F := st.2.2.2) hk).1
      rw [hf] at hx
      rw [if_pos hx]
      exact ⟨_, _, rfl⟩
    · have ho := oth_f hc h16 (a := a) (j := 9 - (t + 1)) (by omega) e
      have hx := (cl_any hc h16 (a := a) (i := 9 - (t + 1)) (sh := st.2.1) (F := st.2.2.2) (by omega)).1
      rw [ho.1] at hx
      rw [if_neg (by rw [hx]; decide)]
      exact ih _ _ (by omega) (by omega)
theorem ra_f (hc : ∀ i, i < N → c i = T i) (h16 : ∀ i, sh16 (c i) = c i) {a : Nat} (hf : fok c N a (kI T N a) = false) : ∀ (t far : Nat) (st : PS), t ≤ 9 → far ≤ fps c N a (kI T N a) → (ra c N a t far st).1 = none ∧ far ≤ (ra c N a t far st).2.1 ∧ (ra c N a t far st).2.1 ≤ fps c N a (kI T N a) ∧ (9 - t ≤ kI T N a → (ra c N a t far st).2.1 = fps c N a (kI T N a)) := by
  have hk := kI_lt T N a
  intro t
  induction t with
  | zero => intro far st _ h; exact ⟨rfl, Nat.le_refl _, h, fun hx => by omega⟩
  | succ t ih =>
    intro far st ht hfar
    have e8 : 8 - t = 9 - (t + 1) := by omega
    rw [ra, e8]
    have hj : fok c N a (9 - (t + 1)) = false ∧ fps c N a (9 - (t + 1)) ≤ fps c N a (kI T N a) := by
      by_cases e : 9 - (t + 1) = kI T N a
      · rw [e]; exact ⟨hf, Nat.le_refl _⟩
      · exact oth_f hc h16 (by omega) e
    obtain ⟨x1, x2⟩ := cl_any hc h16 (a := a) (i := 9 - (t + 1)) (sh := st.2.1) (F := st.2.2.2) (by omega)
    rw [if_neg (by rw [x1, hj.1]; decide), x2]
    obtain ⟨i1, i2, i3, i4⟩ := ih (max far (fps c N a (9 - (t + 1)))) (rf c N (forms (9 - (t + 1))) (a, st.2.1, 0, st.2.2.2)).2 (by omega) (by omega)
    refine ⟨i1, by omega, i3, fun hle => ?_⟩
    by_cases e : 9 - (t + 1) = kI T N a
    · rw [e] at i2 i3 ⊢; omega
    · exact i4 (by omega)
/-- what the model's reader does with one command -/
theorem rc_eq (hc : ∀ i, i < N → c i = T i) (h16 : ∀ i, sh16 (c i) = c i) {a i : Nat} {M : Nat → Int32} : (fok c N a (kI T N a) = true ∧ (rc T N (a, 0, i, M)).2.1 = 0 ∧ (rc T N (a, 0, i, M)).1 = fps c N a (kI T N a) ∧ rc T N (a, 0, i, M) = mrn T N i (forms (kI T N a)) 0 (a, 0, i + 1, fun j => if j = 5 * i then rck T N a else M j)) ∨ (fok c N a (kI T N a) = false ∧ (rc T N (a, 0, i, M)).2.1 = 1 ∧ (rc T N (a, 0, i, M)).1 = fps c N a (kI T N a)) := by
  have hk := kI_lt T N a
  have e0 : rc T N (a, 0, i, M) = rcK T N i (rck T N a) (a, 0, i + 1, fun j => if j = 5 * i then rck T N a else M j) := by
    unfold rc; rw [if_pos rfl]; rfl
  by_cases hI : bh T N a = 105
  · -- the letter i itself
    have ek : kI T N a = 8 := by unfold kI; rw [if_neg (fun hx => by rw [hI] at hx; exact absurd hx.1 (by decide)), if_pos hI]
    have er : rck T N a = 105 := by unfold rck; rw [if_neg (fun hx => by rw [hI] at hx; exact absurd hx.1 (by decide)), hI]
    obtain ⟨m1, m2⟩ := let_n hc h16 (a := a) (i := 8) (by omega) rfl (by omega) (by omega) (by omega) (by omega) (show ¬ bh T N a = nI 100 by rw [hI]; decide)
    right
    have e1 : ∀ M', mkS T N (wrd 250) (a, 0, i + 1, M') = (a, 1, i + 1, M') := by
      intro M'
      show mkS T N [100, 97, 121] (a, 0, i + 1, M') = _
      rw [mkS_2, mk1_f (show ¬ bh T N a = nI 100 by rw [hI]; decide), mkS_f (show ¬ (1 : Int32) = 0 by decide)]
    have e2 : rcK T N i 105 (a, 0, i + 1, fun j => if j = 5 * i then rck T N a else M j) = nmW T N 1 (5 * i + 2) (a, 1, i + 1, fun j => if j = 5 * i then rck T N a else M j) := by
      unfold rcK
      rw [if_pos rfl, if_neg (show ¬ bh T N a = 100 by rw [hI]; decide), e1]
    obtain ⟨n1, n2⟩ := nmW_f (T := T) (N := N) (x := 1) (o := 5 * i + 2) (ms := (a, 1, i + 1, fun j => if j = 5 * i then rck T N a else M j)) (show ¬ (1 : Int32) = 0 by decide)
    have e3 : rc T N (a, 0, i, M) = nmW T N 1 (5 * i + 2) (a, 1, i + 1, fun j => if j = 5 * i then rck T N a else M j) := by
      rw [e0, ← e2, er]
    rw [e3, ek, m2]
    exact ⟨m1, n2, n1⟩
  · have er : kix (rck T N a) = kI T N a ∧ (rck T N a = 105 → bh T N a = 100) := by
      unfold rck kI
      by_cases h : bh T N a = 100 ∧ bh T N (a + 1) = 105
      · rw [if_pos h, if_pos h]; exact ⟨rfl, fun _ => h.1⟩
      · rw [if_neg h, if_neg h, if_neg hI]; exact ⟨rfl, fun hx => absurd hx hI⟩
    have e1 := rcK_form (T := T) (N := N) (c := i) (k := rck T N a) (st := (a, 0, i + 1, fun j => if j = 5 * i then rck T N a else M j)) er.2
    rw [er.1] at e1
    rw [e0, e1]
    rcases ml_any hc h16 (k := i) (a := a) (c' := i + 1) (M := fun j => if j = 5 * i then rck T N a else M j) hk with ⟨m1, m2, m3⟩ | ⟨m1, m2, m3⟩
    · left; exact ⟨m1, m2, m3, rfl⟩
    · right; exact ⟨m1, m2, m3⟩
theorem mrn_lo {k : Nat} : ∀ (l : List Nat) (n : Nat) (ms : PS), (∀ w, w ≤ 5 * k → (mrn T N k l n ms).2.2.2 w = ms.2.2.2 w) ∧ (mrn T N k l n ms).2.2.1 = ms.2.2.1 := by
  intro l
  induction l with
  | nil => intro n ms; exact ⟨fun _ _ => rfl, rfl⟩
  | cons pt l ih =>
    intro n ms
    have key : ∀ (ms' : PS) n', (∀ w, w ≤ 5 * k → ms'.2.2.2 w = ms.2.2.2 w) → ms'.2.2.1 = ms.2.2.1 → (∀ w, w ≤ 5 * k → (mrn T N k l n' ms').2.2.2 w = ms.2.2.2 w) ∧ (mrn T N k l n' ms').2.2.1 = ms.2.2.1 := by
      intro ms' n' h1 h2
      obtain ⟨i1, i2⟩ := ih n' ms'
      exact ⟨fun w hw => (i1 w hw).trans (h1 w hw), i2.trans h2⟩
    have cN : ∀ x o w, o ≠ w → (nmW T N x o ms).2.2.2 w = ms.2.2.2 w := by
      intro x o w hne
      show (if w = o then _ else (nmR T N x ms).2.2.2.2 w) = _
      rw [if_neg (fun e => hne e.symm)]
      unfold nmR; split <;> rfl
    have cS : ∀ any o w, o ≠ w → (shW T N any o ms).2.2.2 w = ms.2.2.2 w := by
      intro any o w hne
      show (if w = o then _ else (shR T N any ms).2.2.2 w) = _
      rw [if_neg (fun e => hne e.symm)]
      unfold shR; split <;> rfl
    rw [mrn]
    split
    · exact key _ _ (fun w hw => cN _ _ w (by omega)) nmW_c
    · split
      · exact key _ _ (fun w hw => cN _ _ w (by omega)) nmW_c
      · split
        · exact key _ _ (fun w hw => cS _ _ w (by omega)) shW_c
        · split
          · exact key _ _ (fun w hw => cS _ _ w (by omega)) shW_c
          · exact key _ _ (fun w hw => by rw [mkS_c]) (by rw [mkS_c])
/-- command j of the list M is what stands at a -/
def CM (T : Nat → Int32) (N a j : Nat) (M : Nat → Int32) : Prop := M (5 * j) = rck T N a ∧ ∃ c' M0, ∀ w, 1 ≤ w → w < 5 → M (5 * j + w) = (mrn T N j (forms (kI T N a)) 0 (a, 0, c', M0)).2.2.2 (5 * j + w)
def CMS (T c : Nat → Int32) (N : Nat) (X : Bd) (M : Nat → Int32) (cc : Nat) : Prop := ∀ j, j < cc → ∃ a, a ≤ N ∧ X 13 j = nI a ∧ fok c N a (kI T N a) = true ∧ CM T N a j M
theorem rc_lo {i a : Nat} {M : Nat → Int32} (hc : ∀ i, i < N → c i = T i) (h16 : ∀ i, sh16 (c i) = c i) : fok c N a (kI T N a) = true → (∀ w, w < 5 * i → (rc T N (a, 0, i, M)).2.2.2 w = M w) ∧ (rc T N (a, 0, i, M)).2.2.1 = i + 1 ∧ CM T N a i (rc T N (a, 0, i, M)).2.2.2 := by
  intro hf
  rcases rc_eq hc h16 (a := a) (i := i) (M := M) with ⟨_, _, _, e⟩ | ⟨h1, _, _⟩
  · obtain ⟨m1, m2⟩ := mrn_lo (T := T) (N := N) (k := i) (forms (kI T N a)) 0 (a, 0, i + 1, fun j => if j = 5 * i then rck T N a else M j)
    refine ⟨fun w hw => ?_, ?_, ?_, i + 1, fun j => if j = 5 * i then rck T N a else M j, fun w _ _ => by rw [e]⟩
    · rw [e, m1 w (by omega)]
      show (if w = 5 * i then rck T N a else M w) = M w
      rw [if_neg (by omega)]
    · rw [e, m2]
    · rw [e, m1 (5 * i) (Nat.le_refl _)]
      show (if 5 * i = 5 * i then rck T N a else M (5 * i)) = _
      rw [if_pos rfl]
  · rw [hf] at h1; cases h1
theorem CM_c {a j : Nat} {M M' : Nat → Int32} (h : ∀ w, w < 5 * (j + 1) → M' w = M w) (hm : CM T N a j M) : CM T N a j M' := by
  obtain ⟨h1, c', M0, h2⟩ := hm
  exact ⟨by rw [h (5 * j) (by omega)]; exact h1, c', M0, fun w w1 w2 => by rw [h (5 * j + w) (by omega)]; exact h2 w w1 w2⟩
theorem ps_eta {R : PS} {a c : Nat} {b : Int32} (h1 : R.1 = a) (h2 : R.2.1 = b) (h3 : R.2.2.1 = c) : R = (a, b, c, R.2.2.2) := by
  obtain ⟨r1, r2, r3, r4⟩ := R
  cases h1; cases h2; cases h3; rfl
theorem ps_nx {R : PS} {a c : Nat} {b : Int32} (h1 : R.1 = a) (h2 : R.2.1 = b) (h3 : R.2.2.1 = c) : ((R.1 + 1, R.2) : PS) = (a + 1, b, c, R.2.2.2) := by
  obtain ⟨r1, r2, r3, r4⟩ := R
  cases h1; cases h2; cases h3; rfl
/-- the two readers of a text -/
theorem fnd_sim (hc : ∀ i, i < N → c i = T i) (h16 : ∀ i, sh16 (c i) = c i) (hN : N ≤ 60) : ∀ (t start kf : Nat) (X : Bd) (st : PS) (M : Nat → Int32), t ≤ 60 → start ≤ N → 3 * (60 - t) ≤ start → N ≤ kf + start → X 11 3 = nI (60 - t) → CMS T c N X M (60 - t) → ((rcL T N kf (rc T N (start, 0, 60 - t, M))).2.1 = 0 ∧ N ≤ (rcL T N kf (rc T N (start, 0, 60 - t, M))).1 ∧ (fnd c N t start X st).1 = -1 ∧ (rcL T N kf (rc T N (start, 0, 60 - t, M))).2.2.1 ≤ 60 ∧ (fnd c N t start X st).2.1 11 3 = nI (rcL T N kf (rc T N (start, 0, 60 - t, M))).2.2.1 ∧ CMS T c N (fnd c N t start X st).2.1 (rcL T N kf (rc T N (start, 0, 60 - t, M))).2.2.2 (rcL T N kf (rc T N (start, 0, 60 - t, M))).2.2.1) ∨ (¬ ((rcL T N kf (rc T N (start, 0, 60 - t, M))).2.1 = 0 ∧ N ≤ (rcL T N kf (rc T N (start, 0, 60 - t, M))).1) ∧ (rcL T N kf (rc T N (start, 0, 60 - t, M))).1 ≤ N ∧ (fnd c N t start X st).1 = nI (rcL T N kf (rc T N (start, 0, 60 - t, M))).1) := by
  intro t
  induction t with
  | zero => intro start kf X st M _ h1 h2; omega
  | succ t ih =>
    intro start kf X st M ht hst h3 hkf hX hM
    obtain ⟨i, hi⟩ : ∃ i, i = 60 - (t + 1) := ⟨_, rfl⟩
    have e59 : 59 - t = i := by omega
    have e60 : 60 - t = i + 1 := by omega
    rw [← hi] at h3 hX hM ⊢
    have all := rc_all (T := T) (N := N) (st := (start, 0, i, M)) hst rfl
    rw [fnd, e59]
    rcases rc_eq hc h16 (a := start) (i := i) (M := M) with ⟨f1, f2, f3, _⟩ | ⟨f1, f2, f3⟩
    · -- a command
      obtain ⟨sh, F, er⟩ := ra_t hc h16 f1 9 start st (Nat.le_refl 9) (by omega)
      have hp : (ra c N start 9 start st).2.1 = fps c N start (kI T N start) := by
        rw [er]; exact (cl_any hc h16 (kI_lt T N start)).2
      obtain ⟨l1, l2, l3⟩ := rc_lo (i := i) (M := M) hc h16 f1
      have hps := all.2.2.2 f2
      rw [f3] at hps
      have hps' : start + 3 ≤ fps c N start (kI T N start) := hps
      have hpN : fps c N start (kI T N start) ≤ N := by rw [← f3]; exact all.1
      have hsome : (ra c N start 9 start st).1.isSome = true := by rw [er]; rfl
      rw [if_pos hsome, hp]
      -- the commands so far
      have hM' : ∀ (X' : Bd), (∀ j, j ≤ i → X' 13 j = if j = i then nI start else X 13 j) → CMS T c N X' (rc T N (start, 0, i, M)).2.2.2 (i + 1) := by
        intro X' hX' j hj
        by_cases e : j = i
        · subst e
          exact ⟨start, hst, by rw [hX' j (by omega), if_pos rfl], f1, l3⟩
        · obtain ⟨a, a1, a2, a3, a4⟩ := hM j (by omega)
          exact ⟨a, a1, by rw [hX' j (by omega), if_neg e]; exact a2, a3, CM_c (fun w hw => l1 w (by omega)) a4⟩
      have hXn : ∀ j, ud (ud X 13 i (nI start)) 11 3 (nI (i + 1)) 13 j = if j = i then nI start else X 13 j := by
        intro j; rw [ud_nc (by omega), ud_i]
      have est : rc T N (start, 0, i, M) = (fps c N start (kI T N start), 0, i + 1, (rc T N (start, 0, i, M)).2.2.2) := ps_eta f3 f2 l2
      by_cases hle : N ≤ fps c N start (kI T N start)
      · -- the end
        rw [if_pos hle]
        have hb : bh T N (fps c N start (kI T N start)) = -1 := if_pos hle
        have eL : rcL T N kf (rc T N (start, 0, i, M)) = rc T N (start, 0, i, M) := by
          cases kf with
          | zero => rfl
          | succ kf =>
            rw [rcL, if_neg]
            rw [f3, hb]; intro hx; exact absurd hx.2 (by decide)
        left
        rw [eL, f3, l2]
        refine ⟨f2, hle, rfl, by omega, ?_, hM' _ fun j _ => hXn j⟩
        show ud (ud X 13 i (nI start)) 11 3 (nI (i + 1)) 11 3 = _
        rw [ud_eq]
      · rw [if_neg hle]
        have hlt : fps c N start (kI T N start) < N := by omega
        have hbh : bh T N (fps c N start (kI T N start)) = c (fps c N start (kI T N start)) := by
          rcases bh_c hc (fps c N start (kI T N start)) with ⟨_, g⟩ | ⟨g, _⟩
          · exact g
          · omega
        by_cases h59 : c (fps c N start (kI T N start)) = 59
        · -- one more
          rw [if_pos h59]
          obtain ⟨kf', rfl⟩ : ∃ kf', kf = kf' + 1 := ⟨kf - 1, by omega⟩
          have eL : rcL T N (kf' + 1) (rc T N (start, 0, i, M)) = rcL T N kf' (rc T N (fps c N start (kI T N start) + 1, 0, i + 1, (rc T N (start, 0, i, M)).2.2.2)) := by
            rw [rcL, if_pos ⟨f2, by rw [f3, hbh]; exact h59⟩]
            congr 2
            exact ps_nx f3 f2 l2
          rw [eL]
          have := ih (fps c N start (kI T N start) + 1) kf' (ud (ud X 13 i (nI start)) 11 3 (nI (i + 1))) (ra c N start 9 start st).2 (rc T N (start, 0, i, M)).2.2.2 (by omega) (by omega) (by omega) (by omega) (by rw [ud_eq, e60]) (by rw [e60]; exact hM' _ fun j _ => hXn j)
          rw [e60] at this
          exact this
        · rw [if_neg h59]
          have eL : rcL T N kf (rc T N (start, 0, i, M)) = rc T N (start, 0, i, M) := by
            cases kf with
            | zero => rfl
            | succ kf =>
              rw [rcL, if_neg]
              rw [f3, hbh]; intro hx; exact h59 hx.2
          right
          rw [eL, f3]
          exact ⟨fun hx => hle hx.2, hpN, rfl⟩
    · -- no command
      obtain ⟨r1, r2, r3, r4⟩ := ra_f hc h16 f1 9 start st (Nat.le_refl 9) (fps_ge hc h16 (kI_lt T N start))
      have hno : ¬ (ra c N start 9 start st).1.isSome = true := by rw [r1]; decide
      rw [if_neg hno]
      have eL : rcL T N kf (rc T N (start, 0, i, M)) = rc T N (start, 0, i, M) := by
        cases kf with
        | zero => rfl
        | succ kf =>
          rw [rcL, if_neg]
          rw [f2]; intro hx; exact absurd hx.1 (by decide)
      right
      rw [eL, f3]
      refine ⟨fun hx => by rw [f2] at hx; exact absurd hx.1 (by decide), ?_, ?_⟩
      · rw [← f3]; exact all.1
      · show nI (ra c N start 9 start st).2.1 = _
        rw [r4 (by omega)]
end
