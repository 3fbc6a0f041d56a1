/-! THE READERS TOGETHER, part 0: parts and forms. -/
/-- the model's reading of a form: command c, n numbers so far -/
def mrn (T : Nat → Int32) (N c : Nat) : List Nat → Nat → PS → PS
  | [], _, ms => ms
  | pt :: l, n, ms => if pt = 78 then mrn T N c l (n + 1) (nmW T N 3 (5 * c + (2 + n)) ms)
    else if pt = 68 then mrn T N c l (n + 1) (nmW T N 1 (5 * c + (2 + n)) ms)
    else if pt = 83 then mrn T N c l n (shW T N false (5 * c + 1) ms)
    else if pt = 82 then mrn T N c l n (shW T N true (5 * c + 1) ms)
    else mrn T N c l n (mkS T N [pt] ms)
theorem mkS_2 {T : Nat → Int32} {N w v : Nat} {l : List Nat} {st : PS} : mkS T N (w :: v :: l) st = mkS T N (v :: l) (mkS T N [w] st) := by
  have h0 : ∀ st : PS, ¬ st.2.1 = 0 → ∀ l, mkS T N l st = st := by
    intro st h l
    cases l with
    | nil => rfl
    | cons a l => rw [mkS, if_neg h]
  rw [mkS]
  by_cases h : st.2.1 = 0
  · rw [if_pos h]
    by_cases h2 : bh T N st.1 = nI w
    · have e : mkS T N [w] st = (st.1 + 1, 0, st.2.2) := by rw [mkS, if_pos h, if_pos h2]; rfl
      rw [if_pos h2, e]
    · have e : mkS T N [w] st = (st.1, 1, st.2.2) := by rw [mkS, if_pos h, if_neg h2]
      rw [if_neg h2, e, h0 _ (show ¬ (1 : Int32) = 0 by decide)]
  · have e : mkS T N [w] st = st := h0 _ h _
    rw [if_neg h, e, h0 _ h]
/-- the kind of a command by its letters, as an index of the forms -/
def kix (k : Int32) : Nat := if k = 105 then 5 else if k = 97 then 0 else if k = 112 then 2 else if k = 108 then 1 else if k = 99 then 3 else if k = 104 then 4 else if k = 114 then 6 else if k = 109 then 7 else 8
section
variable {T : Nat → Int32} {N : Nat}
/-- what a command of kind i reads -/
theorem rcK_form {c : Nat} {k : Int32} {st : PS} (h : k = 105 → bh T N st.1 = 100) : rcK T N c k st = mrn T N c (forms (kix k)) 0 st := by
  unfold rcK kix
  by_cases h1 : k = 105
  · rw [if_pos h1, if_pos h1, if_pos (h h1)]
    simp only [forms, mrn, wrd, mkS_2, Nat.reduceEqDiff, ↓reduceIte, Nat.add_zero]
  rw [if_neg h1, if_neg h1]
  by_cases h2 : k = 97
  · rw [if_pos h2, if_pos h2]
    simp only [forms, mrn, wrd, mkS_2, Nat.reduceEqDiff, ↓reduceIte, Nat.add_zero, Nat.zero_add, Nat.reduceAdd]
  rw [if_neg h2, if_neg h2]
  by_cases h3 : k = 112
  · rw [if_pos h3, if_pos h3]
    simp only [forms, mrn, wrd, mkS_2, Nat.reduceEqDiff, ↓reduceIte, Nat.add_zero, Nat.zero_add, Nat.reduceAdd]
  rw [if_neg h3, if_neg h3]
  by_cases h4 : k = 108
  · rw [if_pos h4, if_pos h4]
    simp only [forms, mrn, wrd, mkS_2, Nat.reduceEqDiff, ↓reduceIte, Nat.add_zero, Nat.zero_add, Nat.reduceAdd]
  rw [if_neg h4, if_neg h4]
  by_cases h5 : k = 99
  · rw [if_pos h5, if_pos h5]
    simp only [forms, mrn, wrd, mkS_2, Nat.reduceEqDiff, ↓reduceIte, Nat.add_zero, Nat.zero_add, Nat.reduceAdd]
  rw [if_neg h5, if_neg h5]
  by_cases h6 : k = 104
  · rw [if_pos h6, if_pos h6]
    simp only [forms, mrn, wrd, mkS_2, Nat.reduceEqDiff, ↓reduceIte, Nat.add_zero, Nat.zero_add, Nat.reduceAdd]
  rw [if_neg h6, if_neg h6]
  by_cases h7 : k = 114
  · rw [if_pos h7, if_pos h7]
    simp only [forms, mrn, wrd, mkS_2, Nat.reduceEqDiff, ↓reduceIte, Nat.add_zero, Nat.zero_add, Nat.reduceAdd]
  rw [if_neg h7, if_neg h7]
  by_cases h8 : k = 109
  · rw [if_pos h8, if_pos h8]
    simp only [forms, mrn, wrd, mkS_2, Nat.reduceEqDiff, ↓reduceIte, Nat.add_zero, Nat.zero_add, Nat.reduceAdd]
  · rw [if_neg h8, if_neg h8]
    simp only [forms, mrn, wrd, mkS_2, Nat.reduceEqDiff, ↓reduceIte, Nat.add_zero, Nat.zero_add, Nat.reduceAdd]
theorem mkS_f {l : List Nat} {ms : PS} (h : ¬ ms.2.1 = 0) : mkS T N l ms = ms := by
  cases l with
  | nil => rfl
  | cons a l => rw [mkS, if_neg h]
theorem nmW_f {x o : Nat} {ms : PS} (h : ¬ ms.2.1 = 0) : (nmW T N x o ms).1 = ms.1 ∧ (nmW T N x o ms).2.1 = 1 := by
  have : isD T N ms = false := by unfold isD; rw [decide_eq_false h]; rfl
  have e : nmR T N x ms = (0, ms.1, 1, ms.2.2) := by unfold nmR; rw [this]; rfl
  show (nmR T N x ms).2.1 = ms.1 ∧ (nmR T N x ms).2.2.1 = 1
  rw [e]; exact ⟨rfl, rfl⟩
theorem shW_f {any : Bool} {o : Nat} {ms : PS} (h : ¬ ms.2.1 = 0) : (shW T N any o ms).1 = ms.1 ∧ (shW T N any o ms).2.1 = 1 := by
  have e : shR T N any ms = (ms.1, 1, ms.2.2) := by unfold shR; rw [if_neg (fun hx => h hx.1)]
  show (shR T N any ms).1 = ms.1 ∧ (shR T N any ms).2.1 = 1
  rw [e]; exact ⟨rfl, rfl⟩
/-- a fault stays where it is -/
theorem mrn_f {c : Nat} : ∀ (l : List Nat) (n : Nat) (ms : PS), ms.2.1 = 1 → (mrn T N c l n ms).1 = ms.1 ∧ (mrn T N c l n ms).2.1 = 1 := by
  intro l
  induction l with
  | nil => intro n ms h; exact ⟨rfl, h⟩
  | cons pt l ih =>
    intro n ms h
    have hn : ¬ ms.2.1 = 0 := by rw [h]; decide
    rw [mrn]
    split
    · obtain ⟨a, b⟩ := nmW_f (T := T) (N := N) (x := 3) (o := 5 * c + (2 + n)) hn
      have := ih (n + 1) _ b
      rw [a] at this; exact this
    · split
      · obtain ⟨a, b⟩ := nmW_f (T := T) (N := N) (x := 1) (o := 5 * c + (2 + n)) hn
        have := ih (n + 1) _ b
        rw [a] at this; exact this
      · split
        · obtain ⟨a, b⟩ := shW_f (T := T) (N := N) (any := false) (o := 5 * c + 1) hn
          have := ih n _ b
          rw [a] at this; exact this
        · split
          · obtain ⟨a, b⟩ := shW_f (T := T) (N := N) (any := true) (o := 5 * c + 1) hn
            have := ih n _ b
            rw [a] at this; exact this
          · rw [mkS_f hn]; exact ih n ms h
theorem nmW_g {x o : Nat} {ms : PS} : ms.1 ≤ (nmW T N x o ms).1 := nmW_ge
/-- never back -/
theorem mrn_ge {c : Nat} : ∀ (l : List Nat) (n : Nat) (ms : PS), ms.1 ≤ (mrn T N c l n ms).1 := by
  intro l
  induction l with
  | nil => intro n ms; exact Nat.le_refl _
  | cons pt l ih =>
    intro n ms
    rw [mrn]
    split
    · exact Nat.le_trans nmW_ge (ih _ _)
    · split
      · exact Nat.le_trans nmW_ge (ih _ _)
      · split
        · exact Nat.le_trans shW_ge (ih _ _)
        · split
          · exact Nat.le_trans shW_ge (ih _ _)
          · exact Nat.le_trans (mkS_ge _ _) (ih _ _)
end
section
variable {T c : Nat → Int32} {N : Nat}
theorem ndL_3 : ∀ t a, ndL c N t a ≤ t := by
  intro t
  induction t with
  | zero => intro a; exact Nat.le_refl _
  | succ t ih =>
    intro a; rw [ndL]; split
    · have := ih (a + 1); omega
    · omega
theorem bh_c (hc : ∀ i, i < N → c i = T i) (a : Nat) : (a < N ∧ bh T N a = c a) ∨ (N ≤ a ∧ bh T N a = -1) := by
  unfold bh
  by_cases h : N ≤ a
  · rw [if_pos h]; exact Or.inr ⟨h, rfl⟩
  · rw [if_neg h]; exact Or.inl ⟨by omega, (hc a (by omega)).symm⟩
/-- digits -/
theorem rdN_eq (hc : ∀ i, i < N → c i = T i) : ∀ t a v, rdN T N t v a = (nvl c (ndL c N t a) a v, a + ndL c N t a) := by
  intro t
  induction t with
  | zero => intro a v; rfl
  | succ t ih =>
    intro a v
    rw [rdN, ndL]
    rcases bh_c hc a with ⟨h1, h2⟩ | ⟨h1, h2⟩
    · rw [h2]
      by_cases hd : dig (c a) = true
      · have hd' : inR (c a) 48 57 = true := hd
        rw [if_pos hd', if_pos ⟨h1, hd⟩, ih, ← hc a h1]
        have e : 10 * v + c a - 48 = v * 10 + (c a - 48) := by
          rw [Int32.mul_comm, Int32.sub_eq_add_neg, Int32.sub_eq_add_neg, Int32.add_assoc]
        rw [e]
        show _ = (nvl c (ndL c N t (a + 1)) (a + 1) (v * 10 + (c a - 48)), a + (ndL c N t (a + 1) + 1))
        rw [show a + 1 + ndL c N t (a + 1) = a + (ndL c N t (a + 1) + 1) by omega]
      · have hd' : ¬ inR (c a) 48 57 = true := hd
        rw [if_neg hd', if_neg (fun hx => hd hx.2)]; rfl
    · rw [h2, if_neg (show ¬ inR (-1) 48 57 = true by decide), if_neg (fun hx => by omega)]; rfl
/-- class and model read the same -/
def SIM (k : Nat) (hs : Bool) (st ms : PS) : Prop := ms.1 = st.1 ∧ ms.2.1 = 0 ∧ (∀ j, j < st.2.2.1 → ms.2.2.2 (5 * k + (2 + j)) = st.2.2.2 j) ∧ (hs = true → ms.2.2.2 (5 * k + 1) = st.2.1 ∧ sh16 st.2.1 = st.2.1)
theorem num_sim (hc : ∀ i, i < N → c i = T i) {k : Nat} {hs : Bool} {st ms : PS} (h : SIM k hs st ms) (h3 : st.2.2.1 < 3) {x : Nat} (hx : 1 ≤ x) : ((rpN c N x st).1 = true ∧ (rpN c N x st).2.2.2.1 = st.2.2.1 + 1 ∧ SIM k hs (rpN c N x st).2 (nmW T N x (5 * k + (2 + st.2.2.1)) ms)) ∨ ((rpN c N x st).1 = false ∧ (rpN c N x st).2.1 = (nmW T N x (5 * k + (2 + st.2.2.1)) ms).1 ∧ (nmW T N x (5 * k + (2 + st.2.2.1)) ms).2.1 = 1) := by
  obtain ⟨a, sh, n, F⟩ := st
  obtain ⟨a', f, c', M⟩ := ms
  obtain ⟨h1, h2, h4, h5⟩ := h
  have h1' : a' = a := h1
  have h2' : f = 0 := h2
  subst h1'; subst h2'
  obtain ⟨x', rfl⟩ : ∃ x', x = x' + 1 := ⟨x - 1, by omega⟩
  have hD : isD T N (a', 0, c', M) = inR (bh T N a') 48 57 := by
    unfold isD; rw [decide_eq_true rfl, Bool.true_and]
  have h3' : n < 3 := h3
  by_cases hd : inR (bh T N a') 48 57 = true
  · left
    have hne : ndL c N (x' + 1) a' ≠ 0 := by
      rw [ndL]
      rcases bh_c hc a' with ⟨g1, g2⟩ | ⟨g1, g2⟩
      · rw [g2] at hd
        rw [if_pos ⟨g1, hd⟩]; omega
      · rw [g2] at hd; exact absurd hd (by decide)
    have e1 : rpN c N (x' + 1) (a', sh, n, F) = (true, a' + ndL c N (x' + 1) a', sh, n + 1, fun j => if j = n then nvl c (ndL c N (x' + 1) a') a' 0 else F j) := by
      unfold rpN; rw [if_pos ⟨hne, h3'⟩]
    have e2 : nmW T N (x' + 1) (5 * k + (2 + n)) (a', 0, c', M) = (a' + ndL c N (x' + 1) a', 0, c', fun j => if j = 5 * k + (2 + n) then nvl c (ndL c N (x' + 1) a') a' 0 else M j) := by
      unfold nmW nmR stC
      rw [hD, hd]
      simp only [if_true]
      rw [rdN_eq hc]
    show (rpN c N (x' + 1) (a', sh, n, F)).1 = true ∧ (rpN c N (x' + 1) (a', sh, n, F)).2.2.2.1 = n + 1 ∧ SIM k hs (rpN c N (x' + 1) (a', sh, n, F)).2 (nmW T N (x' + 1) (5 * k + (2 + n)) (a', 0, c', M))
    rw [e1, e2]
    refine ⟨rfl, rfl, rfl, rfl, fun j hj => ?_, fun hh => ?_⟩
    · have hj' : j < n + 1 := hj
      show (if 5 * k + (2 + j) = 5 * k + (2 + n) then nvl c (ndL c N (x' + 1) a') a' 0 else M (5 * k + (2 + j))) = if j = n then nvl c (ndL c N (x' + 1) a') a' 0 else F j
      by_cases e : j = n
      · subst e; rw [if_pos rfl, if_pos rfl]
      · rw [if_neg (by omega), if_neg e]; exact h4 j (by show j < n; omega)
    · show (if 5 * k + 1 = 5 * k + (2 + n) then _ else M (5 * k + 1)) = sh ∧ sh16 sh = sh
      rw [if_neg (by omega)]; exact h5 hh
  · right
    have h0 : ndL c N (x' + 1) a' = 0 := by
      rw [ndL]
      rcases bh_c hc a' with ⟨g1, g2⟩ | ⟨g1, g2⟩
      · rw [g2] at hd
        exact if_neg (fun hx => hd hx.2)
      · exact if_neg (fun hx => by omega)
    have e1 : rpN c N (x' + 1) (a', sh, n, F) = (false, a' + ndL c N (x' + 1) a', sh, n, F) := by
      unfold rpN; rw [if_neg (fun hx => hx.1 h0)]
    have e2 : nmR T N (x' + 1) (a', 0, c', M) = (0, a', 1, c', M) := by
      unfold nmR; rw [hD, if_neg hd]
    show (rpN c N (x' + 1) (a', sh, n, F)).1 = false ∧ (rpN c N (x' + 1) (a', sh, n, F)).2.1 = (nmR T N (x' + 1) (a', 0, c', M)).2.1 ∧ (nmR T N (x' + 1) (a', 0, c', M)).2.2.1 = 1
    rw [e1, e2, h0]
    exact ⟨rfl, rfl, rfl⟩
theorem shp_sim (hc : ∀ i, i < N → c i = T i) (h16 : ∀ i, sh16 (c i) = c i) {k : Nat} {hs : Bool} {st ms : PS} (h : SIM k hs st ms) (any : Bool) : ((rpH c N any st).1 = true ∧ (rpH c N any st).2.2.2.1 = st.2.2.1 ∧ SIM k true (rpH c N any st).2 (shW T N any (5 * k + 1) ms)) ∨ ((rpH c N any st).1 = false ∧ (rpH c N any st).2.1 = (shW T N any (5 * k + 1) ms).1 ∧ (shW T N any (5 * k + 1) ms).2.1 = 1) := by
  obtain ⟨a, sh, n, F⟩ := st
  obtain ⟨a', f, c', M⟩ := ms
  obtain ⟨h1, h2, h4, h5⟩ := h
  have h1' : a' = a := h1
  have h2' : f = 0 := h2
  subst h1'; subst h2'
  by_cases hd : (shp (bh T N a') || (any && (bh T N a' == 42))) = true
  · left
    rcases bh_c hc a' with ⟨g1, g2⟩ | ⟨g1, g2⟩
    · have hd' := hd
      rw [g2] at hd'
      have e1 : rpH c N any (a', sh, n, F) = (true, a' + 1, c a', n, F) := by
        unfold rpH; rw [if_pos ⟨g1, hd'⟩]
      have e2 : shW T N any (5 * k + 1) (a', 0, c', M) = (a' + 1, 0, c', fun j => if j = 5 * k + 1 then c a' else M j) := by
        unfold shW shR stC; rw [if_pos ⟨rfl, hd⟩, g2]
      rw [e1, e2]
      refine ⟨rfl, rfl, rfl, rfl, fun j hj => ?_, fun _ => ⟨if_pos rfl, h16 a'⟩⟩
      show (if 5 * k + (2 + j) = 5 * k + 1 then _ else M (5 * k + (2 + j))) = F j
      rw [if_neg (by omega)]; exact h4 j hj
    · rw [g2] at hd; cases any <;> exact absurd hd (by decide)
  · right
    have e1 : rpH c N any (a', sh, n, F) = (false, a', sh, n, F) := by
      unfold rpH
      rcases bh_c hc a' with ⟨g1, g2⟩ | ⟨g1, g2⟩
      · rw [g2] at hd; exact if_neg (fun hx => hd hx.2)
      · exact if_neg (fun hx => by have : a' < N := hx.1; omega)
    have e2 : shR T N any (a', 0, c', M) = (a', 1, c', M) := by
      unfold shR; exact if_neg (fun hx => hd hx.2)
    show (rpH c N any (a', sh, n, F)).1 = false ∧ (rpH c N any (a', sh, n, F)).2.1 = (shR T N any (a', 0, c', M)).1 ∧ (shR T N any (a', 0, c', M)).2.1 = 1
    rw [e1, e2]; exact ⟨rfl, rfl, rfl⟩
theorem sgn_sim (hc : ∀ i, i < N → c i = T i) {k : Nat} {hs : Bool} {st ms : PS} (h : SIM k hs st ms) {pt : Nat} (hpt : pt < 128) : ((rpS c N (nI pt) st).1 = true ∧ (rpS c N (nI pt) st).2.2.2.1 = st.2.2.1 ∧ SIM k hs (rpS c N (nI pt) st).2 (mkS T N [pt] ms)) ∨ ((rpS c N (nI pt) st).1 = false ∧ (rpS c N (nI pt) st).2.1 = (mkS T N [pt] ms).1 ∧ (mkS T N [pt] ms).2.1 = 1) := by
  obtain ⟨a, sh, n, F⟩ := st
  obtain ⟨a', f, c', M⟩ := ms
  obtain ⟨h1, h2, h4, h5⟩ := h
  have h1' : a' = a := h1
  have h2' : f = 0 := h2
  subst h1'; subst h2'
  by_cases hd : bh T N a' = nI pt
  · left
    rcases bh_c hc a' with ⟨g1, g2⟩ | ⟨g1, g2⟩
    · have e1 : rpS c N (nI pt) (a', sh, n, F) = (true, a' + 1, sh, n, F) := by
        unfold rpS; rw [if_pos ⟨g1, by show c a' = nI pt; rw [← g2]; exact hd⟩]
      have e2 : mkS T N [pt] (a', 0, c', M) = (a' + 1, 0, c', M) := by
        rw [mkS]; rw [if_pos rfl, if_pos hd]; rfl
      rw [e1, e2]
      exact ⟨rfl, rfl, rfl, rfl, h4, h5⟩
    · rw [g2] at hd; exact absurd hd.symm (nI_nm1 (by omega))
  · right
    have e1 : rpS c N (nI pt) (a', sh, n, F) = (false, a', sh, n, F) := by
      unfold rpS
      rcases bh_c hc a' with ⟨g1, g2⟩ | ⟨g1, g2⟩
      · rw [g2] at hd; exact if_neg (fun hx => hd hx.2)
      · exact if_neg (fun hx => by have : a' < N := hx.1; omega)
    have e2 : mkS T N [pt] (a', 0, c', M) = (a', 1, c', M) := by
      rw [mkS]; rw [if_pos rfl, if_neg hd]
    rw [e1, e2]; exact ⟨rfl, rfl, rfl⟩
/-- how many numbers a form has -/
def nums : List Nat → Nat
  | [] => 0
  | pt :: l => (if pt = 78 ∨ pt = 68 then 1 else 0) + nums l
def hsh (l : List Nat) : Bool := l.any fun pt => pt == 83 || pt == 82
theorem rf_sim (hc : ∀ i, i < N → c i = T i) (h16 : ∀ i, sh16 (c i) = c i) {k : Nat} : ∀ (l : List Nat) (hs : Bool) (st ms : PS), (∀ pt, pt ∈ l → pt < 128) → SIM k hs st ms → st.2.2.1 + nums l ≤ 3 → ((rf c N l st).1 = true ∧ (rf c N l st).2.2.2.1 = st.2.2.1 + nums l ∧ SIM k (hs || hsh l) (rf c N l st).2 (mrn T N k l st.2.2.1 ms)) ∨ ((rf c N l st).1 = false ∧ (rf c N l st).2.1 = (mrn T N k l st.2.2.1 ms).1 ∧ (mrn T N k l st.2.2.1 ms).2.1 = 1) := by
  intro l
  induction l with
  | nil => intro hs st ms _ h _; left; refine ⟨rfl, rfl, ?_⟩; show SIM k (hs || false) st ms; rw [Bool.or_false]; exact h
  | cons pt l ih =>
    intro hs st ms hl h hn
    have hl' : ∀ pt, pt ∈ l → pt < 128 := fun x hx => hl x (List.mem_cons_of_mem _ hx)
    have hsub : ∀ (ok : Bool) (hs' : Bool) (st' ms' : PS) (n' : Nat), (rp c N pt st) = (ok, st') → mrn T N k (pt :: l) st.2.2.1 ms = mrn T N k l n' ms' → (hs || hsh (pt :: l)) = (hs' || hsh l) → st.2.2.1 + nums (pt :: l) = n' + nums l → (ok = true ∧ st'.2.2.1 = n' ∧ SIM k hs' st' ms') ∨ (ok = false ∧ st'.1 = ms'.1 ∧ ms'.2.1 = 1) → ((rf c N (pt :: l) st).1 = true ∧ (rf c N (pt :: l) st).2.2.2.1 = st.2.2.1 + nums (pt :: l) ∧ SIM k (hs || hsh (pt :: l)) (rf c N (pt :: l) st).2 (mrn T N k (pt :: l) st.2.2.1 ms)) ∨ ((rf c N (pt :: l) st).1 = false ∧ (rf c N (pt :: l) st).2.1 = (mrn T N k (pt :: l) st.2.2.1 ms).1 ∧ (mrn T N k (pt :: l) st.2.2.1 ms).2.1 = 1) := by
      intro ok hs' st' ms' n' e1 e2 e3 e4 hh
      rw [e2, e3, e4, rf, e1]
      rcases hh with ⟨g1, g2, g3⟩ | ⟨g1, g2, g3⟩
      · rw [if_pos (show (ok, st').1 = true from g1)]
        have i1 := ih hs' st' ms' hl' g3 (by omega)
        rw [g2] at i1
        exact i1
      · rw [if_neg (by show ¬ ok = true; rw [g1]; decide)]
        right
        obtain ⟨m1, m2⟩ := mrn_f (T := T) (N := N) (c := k) l n' ms' g3
        rw [m1]
        exact ⟨rfl, g2, m2⟩
    by_cases p1 : pt = 78
    · subst p1
      have hn' : st.2.2.1 < 3 := by simp only [nums] at hn; simp at hn; omega
      refine hsub _ hs _ (nmW T N 3 (5 * k + (2 + st.2.2.1)) ms) (st.2.2.1 + 1) (show rp c N 78 st = ((rpN c N 3 st).1, (rpN c N 3 st).2) from rfl) (by rw [mrn, if_pos rfl]) rfl (by simp only [nums]; simp; omega) (num_sim hc h hn' (by omega))
    by_cases p2 : pt = 68
    · subst p2
      have hn' : st.2.2.1 < 3 := by simp only [nums] at hn; simp at hn; omega
      refine hsub _ hs _ (nmW T N 1 (5 * k + (2 + st.2.2.1)) ms) (st.2.2.1 + 1) (show rp c N 68 st = ((rpN c N 1 st).1, (rpN c N 1 st).2) from rfl) (by rw [mrn, if_neg (by omega), if_pos rfl]) rfl (by simp only [nums]; simp; omega) (num_sim hc h hn' (by omega))
    have hnn : nums (pt :: l) = nums l := by simp only [nums]; rw [if_neg (by omega)]; omega
    by_cases p3 : pt = 83
    · subst p3
      refine hsub _ true _ (shW T N false (5 * k + 1) ms) st.2.2.1 (show rp c N 83 st = ((rpH c N false st).1, (rpH c N false st).2) from rfl) (by rw [mrn, if_neg (by omega), if_neg (by omega), if_pos rfl]) (by simp [hsh]) (by rw [hnn]) (shp_sim hc h16 h false)
    by_cases p4 : pt = 82
    · subst p4
      refine hsub _ true _ (shW T N true (5 * k + 1) ms) st.2.2.1 (show rp c N 82 st = ((rpH c N true st).1, (rpH c N true st).2) from rfl) (by rw [mrn, if_neg (by omega), if_neg (by omega), if_neg (by omega), if_pos rfl]) (by simp [hsh]) (by rw [hnn]) (shp_sim hc h16 h true)
    · have e1 : rp c N pt st = ((rpS c N (nI pt) st).1, (rpS c N (nI pt) st).2) := by
        unfold rp; rw [if_neg p1, if_neg p2, if_neg p3, if_neg p4]
      refine hsub _ hs _ (mkS T N [pt] ms) st.2.2.1 e1 (by rw [mrn, if_neg p1, if_neg p2, if_neg p3, if_neg p4]) (by unfold hsh; rw [List.any_cons, beq_eq_false_iff_ne.mpr p3, beq_eq_false_iff_ne.mpr p4]; rfl) (by rw [hnn]) (sgn_sim hc h (hl pt List.mem_cons_self))
theorem forms_ok : ∀ i, i < 9 → (∀ pt, pt ∈ forms i → pt < 128) ∧ nums (forms i) ≤ 3 := by decide
end
