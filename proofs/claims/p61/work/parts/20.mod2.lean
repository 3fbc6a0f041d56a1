/-! THE MODEL'S METHODS over the picture, part 2: posts, hiring, matching, days. -/
theorem lt_N {x : Int32} {p : Nat} (hp : p ≤ 6) (h : inR x 0 (nI p - 1) = true) : ∃ q, q < p ∧ x = nI q := (inR_nI (by omega)).mp h
theorem po_fil (s : Nat → Int32) (q a w : Nat) : po (su s (63 + 5 * q + w) (nI a)) q w = nI a := su_eq ..
theorem po_ne {s : Nat → Int32} {q t w : Nat} {v : Int32} (h : t ≠ q) (hw : w < 5) : po (su s (63 + 5 * q + 4) v) t w = po s t w := su_ne (by omega)
theorem po_w {s : Nat → Int32} {q t w : Nat} {v : Int32} (hw : w < 4) : po (su s (63 + 5 * q + 4) v) t w = po s t w := su_ne (by omega)
theorem sl_p {s : Nat → Int32} {q a w : Nat} {v : Int32} (ha : a < 10) (hw : w < 6) : sl (su s (63 + 5 * q + 4) v) a w = sl s a w := su_ne (by omega)
theorem po_s {s : Nat → Int32} {q a w v : Nat} {x : Int32} (ha : a < 10) (hw : w < 6) : po (su s (3 + 6 * a + w) x) q v = po s q v := su_ne (by omega)
theorem nx_ex {s : Nat → Int32} {p a : Nat} (h : nxM s p = some a) : a < 10 ∧ wM s p a = true ∧ ∃ q, faM s p a true = some q ∧ q < p ∧ po s q 4 = 0 := by
  have := best_lt h
  simp only [Bool.and_eq_true] at this
  obtain ⟨h1, h2, h3⟩ := this
  refine ⟨h1, h2, ?_⟩
  cases e : faM s p a true with
  | none => rw [e] at h3; simp at h3
  | some q =>
    have := best_lt e
    simp only [Bool.not_true, Bool.false_or, Bool.and_eq_true, beq_iff_eq] at this
    exact ⟨q, rfl, this.1, this.2.2⟩
theorem cnt_upd {p p' : Nat → Bool} {n q : Nat} (hq : q < n) (h1 : p q = true) (h2 : p' q = false) (h3 : ∀ j, j ≠ q → p' j = p j) : cnt p n = cnt p' n + 1 := by
  have eqv : ∀ n, n ≤ q → cnt p' n = cnt p n := by
    intro n
    induction n with
    | zero => intro _; rfl
    | succ n ih => intro hn; rw [cnt, cnt, ih (by omega), h3 n (by omega)]
  induction n with
  | zero => omega
  | succ n ih =>
    by_cases e : q = n
    · subst e; rw [cnt_t h1, cnt_f h2, eqv q (Nat.le_refl _)]
    · rw [cnt, cnt, ih (by omega), h3 n (fun e2 => e e2.symm)]; omega
theorem va_fil {s : Nat → Int32} {p a q : Nat} (hq : q < p) (ha : a < 10) (h0 : po s q 4 = 0) : vaM s p = vaM (filS s q a) p + 1 := by
  unfold vaM
  refine cnt_upd hq (by simp [h0]) ?_ ?_
  · have : ¬ nI (a + 1) = 0 := nI_ne0 (by omega) (by omega)
    unfold filS; rw [po_fil]; simpa using this
  · intro j hj; unfold filS; rw [po_ne hj (by omega)]
theorem nx_va {s : Nat → Int32} {p a : Nat} (h : nxM s p = some a) : 0 < vaM s p := by
  obtain ⟨_, _, q, _, hq, h0⟩ := nx_ex h
  rw [va_fil (a := 0) hq (by omega) h0]; omega
theorem FV_fil {s : Nat → Int32} {p a q : Nat} (h : FV s p) (ha : a < 10) : FV (filS s q a) p := by
  intro t ht
  by_cases e : t = q
  · subst e; unfold filS; rw [po_fil]; exact Or.inr ⟨a, ha, rfl⟩
  · unfold filS; rw [po_ne e (by omega)]; exact h t ht
theorem pdL_n {s : Nat → Int32} {p : Nat} (hF : FV s p) : ∀ q, q ≤ p → p ≤ 6 → (∀ j, j < 3 → (pdL s q).1 j = s j) ∧ (∀ t w, w < 4 → po (pdL s q).1 t w = po s t w) ∧ (∀ t, q ≤ t → po (pdL s q).1 t 4 = po s t 4) ∧ FV (pdL s q).1 p ∧ (∀ a w, w < 3 ∨ w = 5 → a < 10 → sl (pdL s q).1 a w = sl s a w) := by
  intro q
  induction q with
  | zero => intro _ _; exact ⟨fun _ _ => rfl, fun _ _ _ => rfl, fun _ _ => rfl, hF, fun _ _ _ _ => rfl⟩
  | succ q ih =>
    intro hq hp
    obtain ⟨i1, i2, i3, i4, i5⟩ := ih (by omega) hp
    rw [pdL]
    split
    · exact ⟨i1, i2, fun t ht => i3 t (by omega), i4, i5⟩
    · rename_i hne
      obtain ⟨a, ha, hq4⟩ : ∃ a, a < 10 ∧ po (pdL s q).1 q 4 = nI (a + 1) := by
        rcases i4 q (by omega) with h | h
        · exact absurd h hne
        · exact h
      have ea : (po (pdL s q).1 q 4 - 1).toNatClampNeg = a := by rw [hq4, nI_pred, nI_clamp (by omega)]
      rw [ea]
      have r1 : ∀ j, j < 3 → rnS (pdL s q).1 q a j = (pdL s q).1 j := fun j hj => by unfold rnS; rw [su_ne (by omega), su_ne (by omega)]
      have r2 : ∀ t w, po (rnS (pdL s q).1 q a) t w = po (pdL s q).1 t w := fun t w => by unfold rnS; rw [po_s ha (by omega), po_s ha (by omega)]
      have r5 : ∀ a' w, w < 3 ∨ w = 5 → a' < 10 → sl (rnS (pdL s q).1 q a) a' w = sl (pdL s q).1 a' w := fun a' w hw ha' => by
        unfold rnS
        show su (su _ _ _) _ _ (3 + 6 * a' + w) = _
        rw [su_ne (by omega), su_ne (by omega)]; rfl
      split
      · refine ⟨fun j hj => (r1 j hj).trans (i1 j hj), fun t w hw => (r2 t w).trans (i2 t w hw), fun t ht => (r2 t 4).trans (i3 t (by omega)), fun t ht => ?_, fun a' w hw ha' => (r5 a' w hw ha').trans (i5 a' w hw ha')⟩
        rw [r2]; exact i4 t ht
      · refine ⟨fun j hj => ?_, fun t w hw => ?_, fun t ht => ?_, fun t ht => ?_, fun a' w hw ha' => ?_⟩
        · exact (su_ne (by omega)).trans ((r1 j hj).trans (i1 j hj))
        · exact (po_w hw).trans ((r2 t w).trans (i2 t w hw))
        · exact (po_ne (by omega) (by omega)).trans ((r2 t 4).trans (i3 t (by omega)))
        · by_cases e : t = q
          · subst e; left; exact su_eq ..
          · rw [show po (su (rnS (pdL s q).1 q a) (63 + 5 * q + 4) 0) t 4 = po (rnS (pdL s q).1 q a) t 4 from po_ne e (by omega), r2]; exact i4 t ht
        · exact (sl_p ha' (by omega)).trans ((r5 a' w hw ha').trans (i5 a' w hw ha'))
theorem pdN_n {s : Nat → Int32} {p : Nat} (hF : FV s p) (hp : p ≤ 6) : ∀ t, (pdN s p t).1 2 = s 2 ∧ (pdN s p t).1 0 = s 0 ∧ FV (pdN s p t).1 p := by
  intro t
  induction t with
  | zero => exact ⟨rfl, rfl, hF⟩
  | succ t ih =>
    obtain ⟨i1, i2, i3, i4, i5⟩ := pdL_n ih.2.2 p (Nat.le_refl _) hp
    refine ⟨?_, ?_, ?_⟩
    · exact (su_ne (s := (pdL (pdN s p t).1 p).1) (i := 1) (j := 2) (v := (pdN s p t).1 1 + 1) (by omega)).trans ((i1 2 (by omega)).trans ih.1)
    · exact (su_ne (s := (pdL (pdN s p t).1 p).1) (i := 1) (j := 0) (v := (pdN s p t).1 1 + 1) (by omega)).trans ((i1 0 (by omega)).trans ih.2.1)
    · intro q hq
      have e : po (pdS (pdN s p t).1 p) q 4 = po (pdL (pdN s p t).1 p).1 q 4 := by unfold po pdS; exact su_ne (by omega)
      have := i4 q hq
      rw [← e] at this
      rw [pdN]
      exact this
theorem fa_lt {s : Nat → Int32} {p a q : Nat} {v : Bool} (h : faM s p a v = some q) : q < p := (best_lt h).1
theorem cd_lt {s : Nat → Int32} {p a q : Nat} (h : cdM s p q = some a) : a < 10 := (best_lt h).1
section
variable {G : Glb} {A n r p u : Nat} {H : Hp} {m : Mm} {D : Bd} {s : Nat → Int32}
theorem fil_2 {s : Nat → Int32} {q a : Nat} : filS s q a 2 = s 2 := su_ne (by omega)
end
