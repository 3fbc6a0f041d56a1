/-! CLASS AND MODEL TOGETHER, part 0: counting along an injection, best of a strict order, tables of bits. -/
def IJ (g : Nat → Nat) (k n : Nat) : Prop := (∀ i, i < k → g i < n) ∧ ∀ i j, i < k → j < k → g i = g j → i = j
theorem IJ_lt {g : Nat → Nat} {k n i : Nat} (h : IJ g k n) (hi : i < k) : g i < n := h.1 i hi
theorem IJ_in {g : Nat → Nat} {k n i j : Nat} (h : IJ g k n) (hi : i < k) (hj : j < k) (e : g i = g j) : i = j := h.2 i j hi hj e
theorem cnt_cg {p p' : Nat → Bool} : ∀ {n : Nat}, (∀ i, i < n → p i = p' i) → cnt p n = cnt p' n := by
  intro n
  induction n with
  | zero => intro _; rfl
  | succ n ih => intro h; rw [cnt, cnt, ih (fun i hi => h i (by omega)), h n (by omega)]
theorem cnt_0 {p : Nat → Bool} : ∀ {n : Nat}, (∀ i, i < n → p i = false) → cnt p n = 0 := by
  intro n
  induction n with
  | zero => intro _; rfl
  | succ n ih => intro h; rw [cnt, ih (fun i hi => h i (by omega)), h n (by omega)]; rfl
theorem sm_cg {f f' : Nat → Int32} : ∀ {n : Nat}, (∀ i, i < n → f i = f' i) → sm f n = sm f' n := by
  intro n
  induction n with
  | zero => intro _; rfl
  | succ n ih => intro h; rw [sm, sm, ih (fun i hi => h i (by omega)), h n (by omega)]
theorem sm_0 {f : Nat → Int32} : ∀ {n : Nat}, (∀ i, i < n → f i = 0) → sm f n = 0 := by
  intro n
  induction n with
  | zero => intro _; rfl
  | succ n ih => intro h; rw [sm, ih (fun i hi => h i (by omega)), h n (by omega)]; rfl
theorem cnt_ij {g : Nat → Nat} {n : Nat} : ∀ {k : Nat} {p : Nat → Bool}, IJ g k n → (∀ a, a < n → p a = true → ∃ i, i < k ∧ g i = a) → cnt p n = cnt (fun i => p (g i)) k := by
  intro k
  induction k with
  | zero =>
    intro p _ h
    exact cnt_0 (fun i hi => by
      cases e : p i with
      | false => rfl
      | true => obtain ⟨j, hj, _⟩ := h i hi e; omega)
  | succ k ih =>
    intro p hg h
    have hg' : IJ g k n := ⟨fun i hi => hg.1 i (by omega), fun i j hi hj => hg.2 i j (by omega) (by omega)⟩
    cases e : p (g k) with
    | false =>
      rw [cnt_f (p := fun i => p (g i)) e]
      exact ih hg' (fun a ha h1 => by
        obtain ⟨i, hi, h2⟩ := h a ha h1
        refine ⟨i, ?_, h2⟩
        by_cases hik : i = k
        · subst hik; rw [h2] at e; rw [e] at h1; cases h1
        · omega)
    | true =>
      rw [cnt_t (p := fun i => p (g i)) e]
      have e1 := cnt_upd (p := p) (p' := fun a => p a && !(a == g k)) (q := g k) (hg.1 k (by omega)) e (by simp) (fun j hj => by simp [hj])
      rw [e1, ih (p := fun a => p a && !(a == g k)) hg' (fun a ha h1 => by
        simp only [Bool.and_eq_true, Bool.not_eq_true', beq_eq_false_iff_ne] at h1
        obtain ⟨i, hi, h2⟩ := h a ha h1.1
        refine ⟨i, ?_, h2⟩
        by_cases hik : i = k
        · subst hik; exact absurd h2.symm h1.2
        · omega)]
      congr 1
      exact cnt_cg (fun i hi => by
        have : ¬ g i = g k := fun h => by have := hg.2 i k (by omega) (by omega) h; omega
        simp [this])
theorem sm_rem {f : Nat → Int32} {c : Nat} : ∀ {n : Nat}, c < n → sm f n = sm (fun a => if a = c then 0 else f a) n + f c := by
  intro n
  induction n with
  | zero => intro h; omega
  | succ n ih =>
    intro h
    rw [sm, sm]
    by_cases e : n = c
    · subst e
      rw [if_pos rfl, sm_cg (f := fun a => if a = n then 0 else f a) (f' := f) (fun i hi => if_neg (by omega)), Int32.add_zero]
    · rw [if_neg e, ih (by omega)]
      rw [Int32.add_assoc, Int32.add_comm (f c), ← Int32.add_assoc]
theorem sm_ij {g : Nat → Nat} {n : Nat} : ∀ {k : Nat} {f : Nat → Int32}, IJ g k n → (∀ a, a < n → (∀ i, i < k → g i ≠ a) → f a = 0) → sm f n = sm (fun i => f (g i)) k := by
  intro k
  induction k with
  | zero => intro f _ h; exact sm_0 (fun a ha => h a ha (fun i hi => absurd hi (by omega)))
  | succ k ih =>
    intro f hg h
    have hg' : IJ g k n := ⟨fun i hi => hg.1 i (by omega), fun i j hi hj => hg.2 i j (by omega) (by omega)⟩
    rw [sm, sm_rem (hg.1 k (by omega)), ih hg' (fun a ha h1 => by
      by_cases e : a = g k
      · exact if_pos e
      · refine (if_neg e).trans (h a ha fun i hi => ?_)
        by_cases hik : i = k
        · subst hik; exact fun h => e h.symm
        · exact h1 i (by omega))]
    congr 1
    exact sm_cg (fun i hi => if_neg fun h => by have := hg.2 i k (by omega) (by omega) h; omega)
theorem las_some {p : Nat → Bool} {i : Nat} : ∀ {n : Nat}, i < n → p i = true → (∀ j, j < n → p j = true → j = i) → las p n = some i := by
  intro n
  induction n with
  | zero => intro h; omega
  | succ n ih =>
    intro h h1 h2
    by_cases e : p n = true
    · have := h2 n (by omega) e; subst this; exact las_t e
    · rw [las_f (by simpa using e)]
      refine ih ?_ h1 (fun j hj => h2 j (by omega))
      by_cases hin : i = n
      · subst hin; exact absurd h1 e
      · omega
theorem las_none {p : Nat → Bool} : ∀ {n : Nat}, (∀ j, j < n → p j = false) → las p n = none := by
  intro n
  induction n with
  | zero => intro _; rfl
  | succ n ih => intro h; rw [las_f (h n (by omega)), ih (fun j hj => h j (by omega))]
theorem fst_u {p : Nat → Bool} {i n : Nat} (h : i < n) (h1 : p i = true) (h2 : ∀ j, j < n → p j = true → j = i) : fst p n = some i := by
  refine fst_of h h1 (fun j hj => ?_)
  cases e : p j with
  | false => rfl
  | true => have := h2 j (by omega) e; omega
/-- a strict order on the numbers below n where p holds -/
def SO (p : Nat → Bool) (lt : Nat → Nat → Bool) (n : Nat) : Prop := (∀ i j, i < n → j < n → p i = true → p j = true → i ≠ j → lt i j = true ∨ lt j i = true) ∧ (∀ i j, i < n → j < n → lt i j = true → lt j i = false) ∧ ∀ i j l, i < n → j < n → l < n → lt i j = true → lt j l = true → lt i l = true
theorem SO_le {p : Nat → Bool} {lt : Nat → Nat → Bool} {n n' : Nat} (h : SO p lt n) (hn : n' ≤ n) : SO p lt n' := ⟨fun i j hi hj => h.1 i j (by omega) (by omega), fun i j hi hj => h.2.1 i j (by omega) (by omega), fun i j l hi hj hl => h.2.2 i j l (by omega) (by omega) (by omega)⟩
def isB (p : Nat → Bool) (lt : Nat → Nat → Bool) (n i : Nat) : Prop := i < n ∧ p i = true ∧ ∀ j, j < n → p j = true → j ≠ i → lt i j = true
theorem best_none {p : Nat → Bool} {lt : Nat → Nat → Bool} : ∀ {n : Nat}, best p lt n = none → ∀ j, j < n → p j = false := by
  intro n
  induction n with
  | zero => intro _ j hj; omega
  | succ n ih =>
    intro h j hj
    cases e : best p lt n with
    | some b =>
      rw [best, e] at h
      split at h
      · rename_i h2; cases h2
      · rename_i j2 h2
        split at h <;> cases h
    | none =>
      rw [best, e] at h
      have hn : p n = false := by
        cases e2 : p n with
        | false => rfl
        | true => rw [e2] at h; simp at h
      by_cases hjn : j = n
      · subst hjn; exact hn
      · exact ih e j (by omega)
theorem best_is {p : Nat → Bool} {lt : Nat → Nat → Bool} : ∀ {n : Nat}, SO p lt n → ∀ i, best p lt n = some i → isB p lt n i := by
  intro n
  induction n with
  | zero => intro _ i h; cases h
  | succ n ih =>
    intro hs i h
    have hs' := SO_le hs (Nat.le_succ n)
    cases e : best p lt n with
    | none =>
      have hn := best_none e
      by_cases hp : p n = true
      · rw [best_n1 hp e] at h; cases h
        refine ⟨by omega, hp, fun j hj h1 h2 => ?_⟩
        have := hn j (by omega); rw [this] at h1; cases h1
      · rw [best_no (by simpa using hp), e] at h; cases h
    | some b =>
      have hb := ih hs' b e
      by_cases hp : p n = true
      · by_cases hl : lt n b = true
        · rw [best_n2 hp e hl] at h; cases h
          refine ⟨by omega, hp, fun j hj h1 h2 => ?_⟩
          by_cases hjb : j = b
          · subst hjb; exact hl
          · exact hs.2.2 n b j (by omega) (by have := hb.1; omega) (by omega) hl (hb.2.2 j (by omega) h1 hjb)
        · rw [best_n3 e (by simpa using hl)] at h; cases h
          have hbn := hb.1
          refine ⟨by omega, hb.2.1, fun j hj h1 h2 => ?_⟩
          by_cases hjn : j = n
          · subst hjn
            rcases hs.1 j i (by omega) (by omega) hp hb.2.1 (by omega) with h3 | h3
            · exact absurd h3 hl
            · exact h3
          · exact hb.2.2 j (by omega) h1 h2
      · rw [best_no (by simpa using hp), e] at h; cases h
        have hbn := hb.1
        refine ⟨by omega, hb.2.1, fun j hj h1 h2 => ?_⟩
        by_cases hjn : j = n
        · subst hjn; exact absurd h1 hp
        · exact hb.2.2 j (by omega) h1 h2
theorem isB_u {p : Nat → Bool} {lt : Nat → Nat → Bool} {n i j : Nat} (hs : SO p lt n) (h1 : isB p lt n i) (h2 : isB p lt n j) : i = j := by
  refine Classical.byContradiction fun h => ?_
  have a := h1.2.2 j h2.1 h2.2.1 (fun e => h e.symm)
  have b := h2.2.2 i h1.1 h1.2.1 h
  have := hs.2.1 i j h1.1 h2.1 a
  rw [this] at b; cases b
theorem best_of {p : Nat → Bool} {lt : Nat → Nat → Bool} {n i : Nat} (hs : SO p lt n) (h : isB p lt n i) : best p lt n = some i := by
  cases e : best p lt n with
  | none => have := best_none e i h.1; rw [h.2.1] at this; cases this
  | some j => rw [isB_u hs h (best_is hs j e)]
theorem best_cg {p p' : Nat → Bool} {lt lt' : Nat → Nat → Bool} : ∀ {n : Nat}, (∀ i, i < n → p i = p' i) → (∀ i j, i < n → j < n → lt i j = lt' i j) → best p lt n = best p' lt' n := by
  intro n
  induction n with
  | zero => intro _ _; rfl
  | succ n ih =>
    intro h h2
    rw [best, best, ih (fun i hi => h i (by omega)) (fun i j hi hj => h2 i j (by omega) (by omega)), h n (by omega)]
    cases e : best p' lt' n with
    | none => rfl
    | some j =>
      have := (best_lt e).1
      show (if p' n = true ∧ lt n j = true then some n else some j) = _
      rw [h2 n j (by omega) (by omega)]
/-- the best along an injection -/
theorem best_ij {g : Nat → Nat} {n k : Nat} {p : Nat → Bool} {lt lt' : Nat → Nat → Bool} (hg : IJ g k n) (h : ∀ a, a < n → p a = true → ∃ i, i < k ∧ g i = a) (hl : ∀ i j, i < k → j < k → lt (g i) (g j) = lt' i j) (hs : SO (fun i => p (g i)) lt' k) : best (fun a => p a) lt n = (best (fun i => p (g i)) lt' k).map g := by
  have so : ∀ a c, a < n → c < n → p a = true → p c = true → a ≠ c → lt a c = true ∨ lt c a = true := by
    intro a c ha hc h1 h2 hne
    obtain ⟨i, hi, e1⟩ := h a ha h1
    obtain ⟨j, hj, e2⟩ := h c hc h2
    rw [← e1, ← e2, hl i j hi hj, hl j i hj hi]
    exact hs.1 i j hi hj (by show p (g i) = true; rw [e1]; exact h1) (by show p (g j) = true; rw [e2]; exact h2) (fun e => hne (by rw [← e1, ← e2, e]))
  -- the order cut to where p holds
  let lt2 : Nat → Nat → Bool := fun a c => lt a c && (p a && p c)
  have hcut : ∀ m, m ≤ n → best (fun a => p a) lt m = best (fun a => p a) lt2 m := by
    intro m
    induction m with
    | zero => intro _; rfl
    | succ m ih =>
      intro hm
      rw [best, best, ih (by omega)]
      cases e : best (fun a => p a) lt2 m with
      | none => rfl
      | some j =>
        have hj := (best_lt e).2
        show (if p m = true ∧ lt m j = true then some m else some j) = (if p m = true ∧ (lt m j && (p m && p j)) = true then some m else some j)
        have hj' : p j = true := hj
        rw [hj']
        by_cases e1 : p m = true
        · simp [e1]
        · simp [e1]
  have so2 : SO (fun a => p a) lt2 n := by
    refine ⟨fun a c ha hc h1 h2 hne => ?_, fun a c ha hc h1 => ?_, fun a c d ha hc hd h1 h2 => ?_⟩
    · have h1' : p a = true := h1
      have h2' : p c = true := h2
      show (lt a c && (p a && p c)) = true ∨ (lt c a && (p c && p a)) = true
      rw [h1', h2']
      rcases so a c ha hc h1 h2 hne with h | h
      · left; rw [h]; rfl
      · right; rw [h]; rfl
    · have h1' : (lt a c && (p a && p c)) = true := h1
      show (lt c a && (p c && p a)) = false
      simp only [Bool.and_eq_true] at h1'
      obtain ⟨i, hi, e1⟩ := h a ha h1'.2.1
      obtain ⟨j, hj, e2⟩ := h c hc h1'.2.2
      have := hs.2.1 i j hi hj (by rw [← hl i j hi hj, e1, e2]; exact h1'.1)
      rw [← hl j i hj hi, e1, e2] at this
      rw [this]; rfl
    · have h1' : (lt a c && (p a && p c)) = true := h1
      have h2' : (lt c d && (p c && p d)) = true := h2
      show (lt a d && (p a && p d)) = true
      simp only [Bool.and_eq_true] at h1' h2' ⊢
      obtain ⟨i, hi, e1⟩ := h a ha h1'.2.1
      obtain ⟨j, hj, e2⟩ := h c hc h1'.2.2
      obtain ⟨l, hl2, e3⟩ := h d hd h2'.2.2
      have := hs.2.2 i j l hi hj hl2 (by rw [← hl i j hi hj, e1, e2]; exact h1'.1) (by rw [← hl j l hj hl2, e2, e3]; exact h2'.1)
      rw [← hl i l hi hl2, e1, e3] at this
      exact ⟨this, h1'.2.1, h2'.2.2⟩
  rw [hcut n (Nat.le_refl n)]
  cases e : best (fun i => p (g i)) lt' k with
  | none =>
    have hn := best_none e
    cases e2 : best (fun a => p a) lt2 n with
    | none => rfl
    | some a =>
      have ha := best_lt e2
      obtain ⟨i, hi, e1⟩ := h a ha.1 ha.2
      have : p (g i) = false := hn i hi
      rw [e1] at this
      have h2 : p a = true := ha.2
      rw [h2] at this; cases this
  | some i =>
    have hi := best_is hs i e
    show _ = some (g i)
    refine best_of so2 ⟨hg.1 i hi.1, hi.2.1, fun a ha h1 h2 => ?_⟩
    obtain ⟨j, hj, e1⟩ := h a ha h1
    subst e1
    show (lt (g i) (g j) && (p (g i) && p (g j))) = true
    have hpi : p (g i) = true := hi.2.1
    have hpj : p (g j) = true := h1
    rw [hpi, hpj, hl i j hi.1 hj, hi.2.2 j hj hpj (fun e => h2 (by rw [e]))]; rfl
