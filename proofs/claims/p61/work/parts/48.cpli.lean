/-! CLASS AND MODEL TOGETHER, part 18: blocking pairs in the order of preference. -/
/-- sorted by preference -/
def Sd (B : Bd) (R : Nat → Int32) (t : Nat) : Prop := ∀ i j, i < j → j < t → poB B (nt (R i)) (nt (R j)) = true
section
variable {B : Bd} {s : Nat → Int32} {k p : Nat} {g : Nat → Nat}
/-- a post goes to its place -/
theorem Sd_ins (h : CP B s k p g) {t : Nat} (ht : t < p) : ∀ (l : Nat) (R : Nat → Int32), l ≤ t → (∀ j, j ≤ t → j ≠ l → ∃ q, q < t ∧ R j = nI q) → (∀ i j, i < j → j ≤ t → i ≠ l → j ≠ l → poB B (nt (R i)) (nt (R j)) = true) → (∀ j, l < j → j ≤ t → poB B t (nt (R j)) = true) → Sd B (insL B t l R) (t + 1) := by
  have hp := CP_p h
  have so := po_SO h (fun _ => true)
  intro l
  induction l with
  | zero =>
    intro R _ hV hS hT i j hij hj
    rw [insL]
    show poB B (nt (if i = 0 then nI t else R i)) (nt (if j = 0 then nI t else R j)) = true
    rw [if_neg (show ¬ j = 0 by omega)]
    by_cases e : i = 0
    · rw [if_pos e, nt_nI (by omega)]; exact hT j (by omega) (by omega)
    · rw [if_neg e]; exact hS i j hij (by omega) e (by omega)
  | succ l ih =>
    intro R hl hV hS hT
    obtain ⟨q, hq, eq⟩ := hV l (by omega) (by omega)
    have en : (R l).toNatClampNeg = q := by rw [eq, nI_clamp (by omega)]
    rw [insL, en]
    by_cases hc : poB B t q = true
    · rw [if_pos hc]
      refine ih _ (by omega) (fun j hj hjl => ?_) (fun i j hij hj hil hjl => ?_) (fun j hlj hj => ?_)
      · by_cases e : j = l + 1
        · exact ⟨q, hq, by rw [if_pos e]; exact eq⟩
        · rw [if_neg e]; exact hV j hj e
      · by_cases e1 : i = l + 1 <;> by_cases e2 : j = l + 1
        · omega
        · simp only [if_pos e1, if_neg e2]
          exact hS l j (by omega) hj (by omega) e2
        · simp only [if_neg e1, if_pos e2]
          exact hS i l (by omega) (by omega) e1 (by omega)
        · simp only [if_neg e1, if_neg e2]
          exact hS i j hij hj e1 e2
      · by_cases e : j = l + 1
        · simp only [if_pos e]; rw [eq, nt_nI (by omega)]; exact hc
        · simp only [if_neg e]; exact hT j (by omega) hj
    · rw [if_neg hc]
      intro i j hij hj
      show poB B (nt (if i = l + 1 then nI t else R i)) (nt (if j = l + 1 then nI t else R j)) = true
      have ht2 : poB B q t = true := (so.1 t q ht (by omega) rfl rfl (by omega)).resolve_left hc
      by_cases e1 : i = l + 1 <;> by_cases e2 : j = l + 1
      · omega
      · rw [if_pos e1, if_neg e2, nt_nI (by omega)]; exact hT j (by omega) (by omega)
      · rw [if_neg e1, if_pos e2, nt_nI (by omega)]
        by_cases e3 : i = l
        · rw [e3, eq, nt_nI (by omega)]; exact ht2
        · obtain ⟨u, hu, eu⟩ := hV i (by omega) e1
          have := hS i l (by omega) (by omega) e1 (by omega)
          rw [eu, eq, nt_nI (by omega), nt_nI (by omega)] at this
          rw [eu, nt_nI (by omega)]
          exact so.2.2 u q t (by omega) (by omega) ht this ht2
      · rw [if_neg e1, if_neg e2]; exact hS i j hij (by omega) e1 e2
theorem Sd_srt (h : CP B s k p g) (R : Nat → Int32) : ∀ t, t ≤ p → Sd B (srt B R t) t := by
  intro t
  induction t with
  | zero => intro _ i j _ hj; omega
  | succ t ih =>
    intro ht
    rw [srt]
    have hR : RV (srt B R t) t t := by
      -- places below t hold posts below t
      have : ∀ u, u ≤ t → RV (srt B R u) u u := by
        intro u
        induction u with
        | zero => intro _ j hj; omega
        | succ u iu =>
          intro hu
          rw [srt]
          refine RV_ins (p := u + 1) (by omega) u _ (Nat.le_refl u) fun j hj hne => ?_
          obtain ⟨q, hq, e⟩ := iu (by omega) j (by omega)
          exact ⟨q, by omega, e⟩
      exact this t (Nat.le_refl t)
    refine Sd_ins h (by omega) t _ (Nat.le_refl t) (fun j hj hne => hR j (by omega)) (fun i j hij hj hi hj2 => ih (by omega) i j hij (by omega)) (fun j hj hj2 => by omega)
/-- a count over the sorted posts -/
theorem srt_ij (h : CP B s k p g) {R : Nat → Int32} (hS : Sd B R p) (hR : RV R p p) : IJ (fun j => nt (R j)) p p := by
  have hp := CP_p h
  have so := po_SO h (fun _ => true)
  have key : ∀ i j, i < p → j < p → i < j → nt (R i) ≠ nt (R j) := by
    intro i j hi hj hij e
    have h1 := hS i j hij hj
    obtain ⟨q, hq, eq⟩ := hR i hi
    rw [← e, eq, nt_nI (by omega)] at h1
    have := so.2.1 q q hq hq h1
    rw [h1] at this; cases this
  refine ⟨fun i hi => ?_, fun i j hi hj e => ?_⟩
  · obtain ⟨q, hq, eq⟩ := hR i hi
    show nt (R i) < p
    rw [eq, nt_nI (by omega)]; exact hq
  · refine Classical.byContradiction fun hn => ?_
    by_cases hl : i < j
    · exact key i j hi hj hl e
    · exact key j i hj hi (by omega) e.symm
theorem ij_sur {f : Nat → Nat} {n : Nat} (h : IJ f n n) : ∀ a, a < n → ∃ i, i < n ∧ f i = a := by
  intro a ha
  refine Classical.byContradiction fun hn => ?_
  have h1 : cnt (fun _ => true) n ≤ cnt (fun b => !(b == a)) n := cnt_inj (f := f) (fun i hi _ => ⟨h.1 i hi, by
    have : f i ≠ a := fun e => hn ⟨i, hi, e⟩
    simp [this]⟩) (fun i j hi hj _ _ e => h.2 i j hi hj e)
  have h2 : cnt (fun b => !(b == a)) n < cnt (fun _ => true) n := cnt_lt_of ha (by simp) rfl (fun _ _ _ => rfl)
  omega
theorem cnt_below {P : Nat → Bool} {m : Nat} : ∀ {n : Nat}, m ≤ n → cnt (fun j => decide (j < m) && P j) n = cnt P m := by
  intro n
  induction n with
  | zero => intro h; have : m = 0 := by omega
            subst this; rfl
  | succ n ih =>
    intro h
    by_cases e : m = n + 1
    · subst e
      exact cnt_cg fun i hi => by rw [decide_eq_true hi, Bool.true_and]
    · rw [cnt_f (by rw [decide_eq_false (by omega)]; rfl), ih (by omega)]
theorem cbo_eq (h : CP B s k p g) {R : Nat → Int32} (hS : Sd B R p) (hR : RV R p p) {i : Nat} (hi : i < k) : cbo B k p R i = cnt (ibB B k i) p := by
  have hp := CP_p h
  have hij := srt_ij h hS hR
  have so := po_SO h (fun _ => true)
  have hRn : ∀ j, j < p → R j = nI (nt (R j)) := fun j hj => by
    obtain ⟨q, hq, eq⟩ := hR j hj
    rw [eq, nt_nI (by omega)]
  unfold cbo
  rw [cnt_ij hij (p := ibB B k i) (fun a ha _ => ij_sur hij a ha)]
  -- where the applicant's own post stands
  obtain ⟨m, hm, em, hcut⟩ : ∃ m, m ≤ p ∧ (fst (fun j => R j == B 7 i) p).getD p = m ∧ ∀ j, j < p → ((!(B 7 i == nI (nt (R j))) && (waB B i || poB B (nt (R j)) (qB B i))) = decide (j < m)) := by
    rcases CP_pv h i hi with e | ⟨t, ht, e⟩
    · refine ⟨p, Nat.le_refl p, ?_, fun j hj => ?_⟩
      · have : fst (fun j => R j == B 7 i) p = none := fst_of0 fun j hj => by
          rw [hRn j hj, e, beq_eq_false_iff_ne]; exact nI_nm1 (by have := hij.1 j hj; simp only [] at this; omega)
        rw [this]; rfl
      · have hw : waB B i = true := by unfold waB; rw [e]; rfl
        have hne : (B 7 i == nI (nt (R j))) = false := by
          rw [e, beq_eq_false_iff_ne]; exact fun hx => nI_nm1 (by have := hij.1 j hj; simp only [] at this; omega) hx.symm
        rw [hw, hne, decide_eq_true hj]; rfl
    · obtain ⟨m, hm, hmt⟩ := ij_sur hij t ht
      have hRm : R m = nI t := by rw [hRn m hm]; exact congrArg nI hmt
      have uq : ∀ j, j < p → R j = nI t → j = m := fun j hj hx => hij.2 j m hj hm (by show nt (R j) = nt (R m); rw [hx, hRm])
      have hw : waB B i = false := by unfold waB; rw [e, beq_eq_false_iff_ne]; exact nI_nm1 (by omega)
      have hqB : qB B i = t := by unfold qB; rw [e]; exact nI_clamp (by omega)
      refine ⟨m, by omega, ?_, fun j hj => ?_⟩
      · have : fst (fun j => R j == B 7 i) p = some m := fst_u hm (by rw [hRm, e]; simp) fun j hj hx => uq j hj (by rw [← e]; simpa using hx)
        rw [this]; rfl
      · rw [hw, hqB, Bool.false_or, e]
        have hjp : nt (R j) < p := hij.1 j hj
        have hmt' : nt (R m) = t := hmt
        by_cases hjm : j < m
        · have h1 := hS j m hjm hm
          rw [hmt'] at h1
          have hne : (nI t == nI (nt (R j))) = false := by
            rw [beq_eq_false_iff_ne]; intro hx
            have := nI_inj (by omega) (by omega) hx
            rw [← this] at h1
            have h2 := so.2.1 t t ht ht h1
            rw [h1] at h2; cases h2
          rw [h1, hne, decide_eq_true hjm]; rfl
        · rw [decide_eq_false hjm]
          by_cases e3 : j = m
          · subst e3; rw [hmt']; simp
          · have h1 := hS m j (by omega) hj
            rw [hmt'] at h1
            rw [so.2.1 t (nt (R j)) ht hjp h1, Bool.and_false]
  rw [em, ← cnt_below hm]
  refine cnt_cg fun j hj => ?_
  show (decide (j < m) && boS B k R i j) = ibB B k i (nt (R j))
  unfold ibB boS
  have hc := hcut j hj
  have en : (R j).toNatClampNeg = nt (R j) := rfl
  rw [en, ← hc]
  cases ftB B i (nt (R j)) <;> cases wtB B k (nt (R j)) i <;> cases (B 7 i == nI (nt (R j))) <;> cases (waB B i || poB B (nt (R j)) (qB B i)) <;> rfl
theorem boT_eq (h : CP B s k p g) {R : Nat → Int32} (hS : Sd B R p) (hR : RV R p p) : ∀ i, i ≤ k → boT B k p R i = bpS B k p i := by
  intro i
  induction i with
  | zero => intro _; rfl
  | succ i ih => intro hi; rw [boT, bpS, ih (by omega), cbo_eq h hS hR (by omega)]
theorem O_bo (h : CP B s k p g) (R : Nat → Int32) : boT B k p (srt B R p) k = bpM s p 10 := by
  rw [boT_eq h (Sd_srt h R p (Nat.le_refl p)) (RV_srt p (Nat.le_refl p)) k (Nat.le_refl k), Q_bp h]
end
