/-! CLASS AND MODEL TOGETHER, part 16: augmenting paths. -/
def Nb (B : Bd) (k q : Nat) (C : Nat → Prop) : Prop := ∀ j, j < k → waB B j = true → ftB B j q = true → C j
def Val (B : Bd) (X : Bd) (k p : Nat) : Prop := ∀ i, i < k → X 5 i = -1 ∨ ∃ t, t < p ∧ X 5 i = nI t ∧ waB B i = true ∧ ftB B i t = true
def UU (X : Bd) (k i : Nat) : Prop := i < k ∧ trb X i = false
def Inj (X : Bd) (k p : Nat) : Prop := ∀ i j t, UU X k i → UU X k j → t < p → X 5 i = nI t → X 5 j = nI t → i = j
/-- closed: whoever is in it has a post whose candidates are in it -/
def Cls (B X : Bd) (k p : Nat) (C : Nat → Prop) : Prop := ∀ i, i < k → C i → ∃ t, t < p ∧ X 5 i = nI t ∧ Nb B k t C
/-- the posts on the way -/
def Way (X : Bd) (k q f : Nat) (Z : Nat → Bool) : Prop := cnt Z 6 + f = 6 ∧ Z q = false ∧ ∀ i t, UU X k i → t < 6 → X 5 i = nI t → Z t = false ∧ t ≠ q
/-- what a search does -/
def SR (B X : Bd) (k p q : Nat) (r : Bool × Bd) : Prop := (∀ i, trb X i = true → trb r.2 i = true) ∧ (r.1 = false → ∀ i, r.2 5 i = X 5 i) ∧ (∀ i, trb X i = true → r.2 5 i = X 5 i) ∧ (∀ C : Nat → Prop, Cls B X k p C → (Nb B k q C → r.1 = false) ∧ ∀ i, i < k → C i → r.2 5 i = X 5 i)
/-- a failed search -/
def SF (B X : Bd) (k p : Nat) (r : Bool × Bd) : Prop := ∀ i, i < k → trb r.2 i = true → trb X i = false → ∃ t, t < p ∧ X 5 i = nI t ∧ Nb B k t fun j => trb r.2 j = true
/-- a search that succeeds -/
def SS (B X : Bd) (k p q : Nat) (r : Bool × Bd) : Prop := Val B r.2 k p ∧ (∀ i j t, UU X k i → UU X k j → t < p → r.2 5 i = nI t → r.2 5 j = nI t → i = j) ∧ ∀ t, t < p → ((∃ i, UU X k i ∧ r.2 5 i = nI t) ↔ t = q ∨ ∃ i, UU X k i ∧ X 5 i = nI t)
def SP (B : Bd) (k p f : Nat) (rec : Nat → Bd → Bool × Bd) : Prop := ∀ q X, q < p → Val B X k p → SR B X k p q (rec q X) ∧ ∀ Z, Way X k q f Z → Inj X k p → ((rec q X).1 = false → Nb B k q (fun j => trb (rec q X).2 j = true) ∧ SF B X k p (rec q X)) ∧ ((rec q X).1 = true → SS B X k p q (rec q X))
theorem trb_6 {X : Bd} {i j : Nat} : trb (ud X 6 i 1) j = (decide (j = i) || trb X j) := by
  unfold trb
  rw [ud_i]
  by_cases e : j = i
  · rw [if_pos e, decide_eq_true e]; rfl
  · rw [if_neg e, decide_eq_false e, Bool.false_or]
theorem trb_5 {X : Bd} {i j : Nat} {v : Int32} : trb (ud X 5 i v) j = trb X j := by
  unfold trb; rw [ud_nc (by omega)]
section
variable {B : Bd} {k p q : Nat}
theorem Val_6 {X : Bd} {i : Nat} (h : Val B X k p) : Val B (ud X 6 i 1) k p := by
  intro j hj; rw [ud_nc (by omega)]; exact h j hj
/-- the turns from a position on -/
theorem fpi_sp {f : Nat} {rec : Nat → Bd → Bool × Bd} (hp : p ≤ 6) (hk : k ≤ 10) (hr : SP B k p f rec) (hq : q < p) : ∀ t, t ≤ k → ∀ X, Val B X k p → SR B X k p q (fpi rec B q k t X) ∧ ∀ Z, Way X k q (f + 1) Z → Inj X k p → ((fpi rec B q k t X).1 = false → (∀ j, k - t ≤ j → j < k → waB B j = true → ftB B j q = true → trb (fpi rec B q k t X).2 j = true) ∧ SF B X k p (fpi rec B q k t X)) ∧ ((fpi rec B q k t X).1 = true → SS B X k p q (fpi rec B q k t X)) := by
  intro t
  induction t with
  | zero =>
    intro _ X hV
    refine ⟨⟨fun _ h => h, fun _ _ => rfl, fun _ _ => rfl, fun C hC => ⟨fun _ => rfl, fun _ _ _ => rfl⟩⟩, fun Z hZ hI => ⟨fun _ => ⟨fun j h1 h2 => by omega, fun i hi h1 h2 => ?_⟩, fun h => (by cases h)⟩⟩
    have h1' : trb X i = true := h1
    rw [h1'] at h2; cases h2
  | succ t ih =>
    intro ht X hV
    have it := ih (by omega)
    obtain ⟨i, hi⟩ : ∃ i, i = k - (t + 1) := ⟨_, rfl⟩
    have hik : i < k := by omega
    have ei : k - t = i + 1 := by omega
    rw [fpi, ← hi]
    rw [ei] at it
    by_cases c1 : (trb X i || (!(waB B i) || !(ftB B i q))) = true
    · rw [if_pos c1]
      obtain ⟨r1, r2⟩ := it X hV
      refine ⟨r1, fun Z hZ hI => ⟨fun hb => ?_, (r2 Z hZ hI).2⟩⟩
      obtain ⟨a, b⟩ := (r2 Z hZ hI).1 hb
      refine ⟨fun j h1 h2 h3 h4 => ?_, b⟩
      by_cases hji : j = i
      · subst hji
        rw [h3, h4] at c1
        exact r1.1 j (by simpa using c1)
      · exact a j (by omega) h2 h3 h4
    · rw [if_neg c1]
      have c1' : trb X i = false ∧ waB B i = true ∧ ftB B i q = true := by
        refine ⟨?_, ?_, ?_⟩
        · cases e : trb X i with
          | false => rfl
          | true => rw [e] at c1; exact absurd rfl c1
        · cases e : waB B i with
          | true => rfl
          | false => rw [e] at c1; exact absurd (by simp) c1
        · cases e : ftB B i q with
          | true => rfl
          | false => rw [e] at c1; exact absurd (by simp) c1
      obtain ⟨hti, hwi, hfi⟩ := c1'
      have hui : UU X k i := ⟨hik, hti⟩
      by_cases c2 : X 5 i = -1
      · rw [if_pos c2]
        have e5 : ∀ j, ud (ud X 6 i 1) 5 i (nI q) 5 j = if j = i then nI q else X 5 j := fun j => by rw [ud_i, ud_nc (by omega)]
        have hneg : ∀ t, t < p → ¬ X 5 i = nI t := fun t ht hx => by rw [c2] at hx; exact nI_nm1 (by omega) hx.symm
        refine ⟨⟨fun j h => by rw [trb_5, trb_6, h, Bool.or_true], fun h => (by cases h), fun j h => ?_, fun C hC => ⟨fun hN => ?_, fun j hj hCj => ?_⟩⟩, fun Z hZ hI => ⟨fun h => (by cases h), fun _ => ⟨fun j hj => ?_, fun j l u hj hl hu h1 h2 => ?_, fun u hu => ⟨fun ⟨j, hj, h1⟩ => ?_, fun h1 => ?_⟩⟩⟩⟩
        · show ud (ud X 6 i 1) 5 i (nI q) 5 j = X 5 j
          rw [e5, if_neg (fun e => by subst e; rw [hti] at h; cases h)]
        · exfalso
          obtain ⟨u, hu, hx, _⟩ := hC i hik (hN i hik hwi hfi)
          exact hneg u hu hx
        · show ud (ud X 6 i 1) 5 i (nI q) 5 j = X 5 j
          rw [e5, if_neg (fun e => by
            subst e
            obtain ⟨u, hu, hx, _⟩ := hC j hj hCj
            exact hneg u hu hx)]
        · show ud (ud X 6 i 1) 5 i (nI q) 5 j = -1 ∨ ∃ t, t < p ∧ ud (ud X 6 i 1) 5 i (nI q) 5 j = nI t ∧ _
          rw [e5]
          by_cases e : j = i
          · subst e; rw [if_pos rfl]; exact Or.inr ⟨q, hq, rfl, hwi, hfi⟩
          · rw [if_neg e]; exact hV j hj
        · have h1' : ud (ud X 6 i 1) 5 i (nI q) 5 j = nI u := h1
          have h2' : ud (ud X 6 i 1) 5 i (nI q) 5 l = nI u := h2
          rw [e5] at h1' h2'
          by_cases e1 : j = i <;> by_cases e2 : l = i
          · rw [e1, e2]
          · rw [if_pos e1] at h1'; rw [if_neg e2, ← h1'] at h2'
            exact absurd rfl (hZ.2.2 l q hl (by omega) h2').2
          · rw [if_neg e1] at h1'; rw [if_pos e2] at h2'; rw [← h2'] at h1'
            exact absurd rfl (hZ.2.2 j q hj (by omega) h1').2
          · rw [if_neg e1] at h1'; rw [if_neg e2] at h2'
            exact hI j l u hj hl hu h1' h2'
        · have h1' : ud (ud X 6 i 1) 5 i (nI q) 5 j = nI u := h1
          rw [e5] at h1'
          by_cases e1 : j = i
          · rw [if_pos e1] at h1'; exact Or.inl (nI_inj (by omega) (by omega) h1').symm
          · rw [if_neg e1] at h1'; exact Or.inr ⟨j, hj, h1'⟩
        · rcases h1 with rfl | ⟨j, hj, h1⟩
          · exact ⟨i, hui, by show ud (ud X 6 i 1) 5 i (nI u) 5 i = nI u; rw [ud_eq]⟩
          · refine ⟨j, hj, ?_⟩
            show ud (ud X 6 i 1) 5 i (nI q) 5 j = nI u
            rw [e5, if_neg (fun e => hneg u hu (by rw [← e]; exact h1))]; exact h1
      · rw [if_neg c2]
        obtain ⟨z, hz, ez, _⟩ := (hV i hik).resolve_left c2
        have en : (X 5 i).toNatClampNeg = z := by rw [ez, nI_clamp (by omega)]
        rw [en]
        obtain ⟨R, eR⟩ : ∃ R, R = rec z (ud X 6 i 1) := ⟨_, rfl⟩
        obtain ⟨q1, q2⟩ := hr z (ud X 6 i 1) hz (Val_6 hV)
        rw [← eR] at q1 q2 ⊢
        obtain ⟨a1, a2, a3, a4⟩ := q1
        have x5 : ∀ j, ud X 6 i 1 5 j = X 5 j := fun j => by rw [ud_nc (by omega)]
        have ti : trb (ud X 6 i 1) i = true := by rw [trb_6]; simp
        have tR : ∀ j, trb X j = true → trb R.2 j = true := fun j h => a1 j (by rw [trb_6, h, Bool.or_true])
        have Ri : R.2 5 i = nI z := by rw [a3 i ti, x5, ez]
        have cls : ∀ C, Cls B X k p C → Cls B (ud X 6 i 1) k p C := fun C hC j hj hCj => by
          obtain ⟨u, h1, h2, h3⟩ := hC j hj hCj
          exact ⟨u, h1, by rw [x5]; exact h2, h3⟩
        have uu : ∀ j, UU (ud X 6 i 1) k j ↔ UU X k j ∧ j ≠ i := fun j => by
          unfold UU
          rw [trb_6]
          by_cases e : j = i
          · simp [e]
          · simp [e]
        -- the search from the post of i
        have sub : ∀ Z, Way X k q (f + 1) Z → Inj X k p → Way (ud X 6 i 1) k z f (fun u => Z u || (u == q)) ∧ Inj (ud X 6 i 1) k p := by
          intro Z hZ hI
          have hzq := hZ.2.2 i z hui (by omega) ez
          refine ⟨⟨?_, ?_, fun j u hj hu h1 => ?_⟩, fun j l u hj hl hu h1 h2 => ?_⟩
          · have : cnt (fun u => Z u || (u == q)) 6 = cnt Z 6 + 1 := cnt_upd (q := q) (by omega) (by simp) hZ.2.1 (fun j hj => by simp [hj])
            have := hZ.1
            omega
          · show (Z z || (z == q)) = false
            rw [hzq.1, beq_eq_false_iff_ne.mpr hzq.2]; rfl
          · rw [x5] at h1
            have hj' := (uu j).mp hj
            have := hZ.2.2 j u hj'.1 hu h1
            refine ⟨by show (Z u || (u == q)) = false; rw [this.1, beq_eq_false_iff_ne.mpr this.2]; rfl, fun e => ?_⟩
            subst e
            exact hj'.2 (hI j i u hj'.1 hui hz h1 ez)
          · rw [x5] at h1 h2
            exact hI j l u ((uu j).mp hj).1 ((uu l).mp hl).1 hu h1 h2
        by_cases c3 : R.1 = true
        · rw [if_pos c3]
          have e5 : ∀ j, ud R.2 5 i (nI q) 5 j = if j = i then nI q else R.2 5 j := fun j => ud_i
          refine ⟨⟨fun j h => by rw [trb_5]; exact tR j h, fun h => (by cases h), fun j h => ?_, fun C hC => ?_⟩, fun Z hZ hI => ⟨fun h => (by cases h), fun _ => ?_⟩⟩
          · show ud R.2 5 i (nI q) 5 j = X 5 j
            rw [e5, if_neg (fun e => by subst e; rw [hti] at h; cases h), a3 j (by rw [trb_6, h, Bool.or_true]), x5]
          · have hCi : ¬ C i := fun hCi => by
              obtain ⟨u, h1, h2, h3⟩ := hC i hik hCi
              have : u = z := by rw [ez] at h2; exact (nI_inj (by omega) (by omega) h2).symm
              subst this
              have := (a4 C (cls C hC)).1 h3
              rw [c3] at this; cases this
            refine ⟨fun hN => absurd (hN i hik hwi hfi) hCi, fun j hj hCj => ?_⟩
            show ud R.2 5 i (nI q) 5 j = X 5 j
            rw [e5, if_neg (fun e => hCi (by rw [← e]; exact hCj)), (a4 C (cls C hC)).2 j hj hCj, x5]
          · obtain ⟨hZ1, hI1⟩ := sub Z hZ hI
            obtain ⟨s1, s2, s3⟩ := (q2 _ hZ1 hI1).2 c3
            have hzq := hZ.2.2 i z hui (by omega) ez
            -- nobody behind has the post q
            have noq : ∀ j, UU X k j → j ≠ i → ¬ R.2 5 j = nI q := fun j hj hne hx => by
              rcases (s3 q hq).mp ⟨j, (uu j).mpr ⟨hj, hne⟩, hx⟩ with e | ⟨l, hl, h1⟩
              · exact hzq.2 e.symm
              · rw [x5] at h1
                exact absurd rfl (hZ.2.2 l q ((uu l).mp hl).1 (by omega) h1).2
            refine ⟨fun j hj => ?_, fun j l u hj hl hu h1 h2 => ?_, fun u hu => ⟨fun ⟨j, hj, h1⟩ => ?_, fun h1 => ?_⟩⟩
            · show ud R.2 5 i (nI q) 5 j = -1 ∨ ∃ t, t < p ∧ ud R.2 5 i (nI q) 5 j = nI t ∧ _
              rw [e5]
              by_cases e : j = i
              · subst e; rw [if_pos rfl]; exact Or.inr ⟨q, hq, rfl, hwi, hfi⟩
              · rw [if_neg e]; exact s1 j hj
            · have h1' : ud R.2 5 i (nI q) 5 j = nI u := h1
              have h2' : ud R.2 5 i (nI q) 5 l = nI u := h2
              rw [e5] at h1' h2'
              by_cases e1 : j = i <;> by_cases e2 : l = i
              · rw [e1, e2]
              · rw [if_pos e1] at h1'; rw [if_neg e2, ← h1'] at h2'
                exact absurd h2' (noq l hl e2)
              · rw [if_neg e1] at h1'; rw [if_pos e2] at h2'; rw [← h2'] at h1'
                exact absurd h1' (noq j hj e1)
              · rw [if_neg e1] at h1'; rw [if_neg e2] at h2'
                exact s2 j l u ((uu j).mpr ⟨hj, e1⟩) ((uu l).mpr ⟨hl, e2⟩) hu h1' h2'
            · have h1' : ud R.2 5 i (nI q) 5 j = nI u := h1
              rw [e5] at h1'
              by_cases e1 : j = i
              · rw [if_pos e1] at h1'; exact Or.inl (nI_inj (by omega) (by omega) h1').symm
              · rw [if_neg e1] at h1'
                rcases (s3 u hu).mp ⟨j, (uu j).mpr ⟨hj, e1⟩, h1'⟩ with e | ⟨l, hl, h3⟩
                · right; exact ⟨i, hui, by rw [e]; exact ez⟩
                · right; rw [x5] at h3; exact ⟨l, ((uu l).mp hl).1, h3⟩
            · rcases h1 with rfl | ⟨j, hj, h1⟩
              · exact ⟨i, hui, by show ud R.2 5 i (nI u) 5 i = nI u; rw [ud_eq]⟩
              · have : ∃ l, UU (ud X 6 i 1) k l ∧ R.2 5 l = nI u := by
                  refine (s3 u hu).mpr ?_
                  by_cases e : j = i
                  · left; subst e; rw [ez] at h1; exact (nI_inj (by omega) (by omega) h1).symm
                  · right; exact ⟨j, (uu j).mpr ⟨hj, e⟩, by rw [x5]; exact h1⟩
                obtain ⟨l, hl, h3⟩ := this
                have hl' := (uu l).mp hl
                refine ⟨l, hl'.1, ?_⟩
                show ud R.2 5 i (nI q) 5 l = nI u
                rw [e5, if_neg hl'.2]; exact h3
        · rw [if_neg c3]
          have c3' : R.1 = false := by simpa using c3
          have r5 : ∀ j, R.2 5 j = X 5 j := fun j => by rw [a2 c3' j, x5]
          have hV2 : Val B R.2 k p := fun j hj => by rw [r5]; exact hV j hj
          obtain ⟨b1, b2⟩ := it R.2 hV2
          obtain ⟨d1, d2, d3, d4⟩ := b1
          have cls2 : ∀ C, Cls B X k p C → Cls B R.2 k p C := fun C hC j hj hCj => by
            obtain ⟨u, h1, h2, h3⟩ := hC j hj hCj
            exact ⟨u, h1, by rw [r5]; exact h2, h3⟩
          have uu2 : ∀ j, UU R.2 k j → UU X k j := fun j hj => ⟨hj.1, by
            cases e : trb X j with
            | false => rfl
            | true => have := tR j e; rw [hj.2] at this; cases this⟩
          refine ⟨⟨fun j h => d1 j (tR j h), fun hb j => by rw [d2 hb j, r5], fun j h => by rw [d3 j (tR j h), r5], fun C hC => ⟨fun hN => (d4 C (cls2 C hC)).1 hN, fun j hj hCj => by rw [(d4 C (cls2 C hC)).2 j hj hCj, r5]⟩⟩, fun Z hZ hI => ?_⟩
          obtain ⟨hZ1, hI1⟩ := sub Z hZ hI
          obtain ⟨y1, y2⟩ := (q2 _ hZ1 hI1).1 c3'
          have hZ2 : Way R.2 k q (f + 1) Z := ⟨hZ.1, hZ.2.1, fun j u hj hu h1 => by rw [r5] at h1; exact hZ.2.2 j u (uu2 j hj) hu h1⟩
          have hI2 : Inj R.2 k p := fun j l u hj hl hu h1 h2 => by rw [r5] at h1 h2; exact hI j l u (uu2 j hj) (uu2 l hl) hu h1 h2
          obtain ⟨w1, w2⟩ := b2 Z hZ2 hI2
          refine ⟨fun hb => ?_, fun hb => ?_⟩
          · obtain ⟨v1, v2⟩ := w1 hb
            refine ⟨fun j h1 h2 h3 h4 => ?_, fun j hj h1 h2 => ?_⟩
            · by_cases e : j = i
              · subst e; exact d1 j (a1 j ti)
              · exact v1 j (by omega) h2 h3 h4
            · by_cases e : trb R.2 j = true
              · by_cases e1 : j = i
                · subst e1
                  exact ⟨z, hz, ez, fun l hl h3 h4 => d1 l (y1 l hl h3 h4)⟩
                · obtain ⟨u, g1, g2, g3⟩ := y2 j hj e (by rw [trb_6, decide_eq_false e1, h2]; rfl)
                  rw [x5] at g2
                  exact ⟨u, g1, g2, fun l hl h3 h4 => d1 l (g3 l hl h3 h4)⟩
              · obtain ⟨u, g1, g2, g3⟩ := v2 j hj h1 (by simpa using e)
                rw [r5] at g2
                exact ⟨u, g1, g2, g3⟩
          · obtain ⟨s1, s2, s3⟩ := w2 hb
            have old : ∀ j, UU X k j → ¬ UU R.2 k j → (fpi rec B q k t R.2).2 5 j = X 5 j := fun j hj hn => by
              have : trb R.2 j = true := by
                cases e : trb R.2 j with
                | true => rfl
                | false => exact absurd ⟨hj.1, e⟩ hn
              rw [d3 j this, r5]
            -- a new one and an old one do not share a post
            have mixd : ∀ j l u, UU R.2 k j → UU X k l → ¬ UU R.2 k l → u < p → (fpi rec B q k t R.2).2 5 j = nI u → X 5 l = nI u → False := by
              intro j l u hj hl hnl hu h1 h2
              rcases (s3 u hu).mp ⟨j, hj, h1⟩ with e | ⟨j', hj', h3⟩
              · subst e; exact (hZ.2.2 l u hl (by omega) h2).2 rfl
              · rw [r5] at h3
                have := hI j' l u (uu2 j' hj') hl hu h3 h2
                subst this; exact hnl hj'
            refine ⟨s1, fun j l u hj hl hu h1 h2 => ?_, fun u hu => ⟨fun ⟨j, hj, h1⟩ => ?_, fun h1 => ?_⟩⟩
            · by_cases e1 : UU R.2 k j <;> by_cases e2 : UU R.2 k l
              · exact s2 j l u e1 e2 hu h1 h2
              · rw [old l hl e2] at h2; exact (mixd j l u e1 hl e2 hu h1 h2).elim
              · rw [old j hj e1] at h1; exact (mixd l j u e2 hj e1 hu h2 h1).elim
              · rw [old j hj e1] at h1; rw [old l hl e2] at h2
                exact hI j l u hj hl hu h1 h2
            · by_cases e1 : UU R.2 k j
              · rcases (s3 u hu).mp ⟨j, e1, h1⟩ with e | ⟨l, hl, h3⟩
                · exact Or.inl e
                · rw [r5] at h3; exact Or.inr ⟨l, uu2 l hl, h3⟩
              · rw [old j hj e1] at h1; exact Or.inr ⟨j, hj, h1⟩
            · rcases h1 with e | ⟨j, hj, h1⟩
              · obtain ⟨l, hl, h3⟩ := (s3 u hu).mpr (Or.inl e)
                exact ⟨l, uu2 l hl, h3⟩
              · by_cases e1 : UU R.2 k j
                · obtain ⟨l, hl, h3⟩ := (s3 u hu).mpr (Or.inr ⟨j, e1, by rw [r5]; exact h1⟩)
                  exact ⟨l, uu2 l hl, h3⟩
                · exact ⟨j, hj, by rw [old j hj e1]; exact h1⟩
theorem fpB_sp (hp : p ≤ 6) (hk : k ≤ 10) : ∀ f, SP B k p f (fpB B k f) := by
  intro f
  induction f with
  | zero =>
    intro q X hq hV
    refine ⟨⟨fun _ h => h, fun _ _ => rfl, fun _ _ => rfl, fun C hC => ⟨fun _ => rfl, fun _ _ _ => rfl⟩⟩, fun Z hZ hI => ?_⟩
    exfalso
    have l : cnt Z 6 < 6 := cnt_lt_of (P := Z) (P' := fun _ => true) (c := q) (n := 6) (by omega) hZ.2.1 rfl (fun _ _ _ => rfl)
    have := hZ.1
    omega
  | succ f ih =>
    intro q X hq hV
    obtain ⟨r1, r2⟩ := fpi_sp hp hk ih hq k (Nat.le_refl k) X hV
    refine ⟨r1, fun Z hZ hI => ⟨fun hb => ?_, (r2 Z hZ hI).2⟩⟩
    obtain ⟨a, b⟩ := (r2 Z hZ hI).1 hb
    exact ⟨fun j hj h1 h2 => a j (by omega) hj h1 h2, b⟩
end
