/-! THE FACTS that the first two checks ask for. -/
theorem d_msk {x : UInt64} (h : x.toNat % 2 ^ 63 < 2047 * 2 ^ 52) : x &&& 0x7fffffffffffffff ≤ 0x7ff0000000000000 := by
  rw [UInt64.le_iff_toNat_le, UInt64.toNat_and]
  show x.toNat &&& (2 ^ 63 - 1) ≤ 2047 * 2 ^ 52
  rw [Nat.and_two_pow_sub_one_eq_mod]
  omega
theorem dd_ok (x : Int32) {y : Int32} (h : ¬ y = 0) : FP.ddiv (FP.i2d x) (FP.i2d y) &&& 0x7fffffffffffffff ≤ 0x7ff0000000000000 := by
  refine d_msk ?_
  have h2 := FP.Core.i2d_big (FP.Core.int32_ne h)
  have h3 : (FP.ddiv (FP.i2d x) (FP.i2d y)).toNat % 2 ^ 63 < (1056 + (1074 - 52 - 1) - 1023 + 3) * 2 ^ 52 := FP.Core.ddiv_mag (a := FP.i2d x) (b := FP.i2d y) (FP.Core.i2d_mag x) h2.1 h2.2 (by decide) (by decide)
  omega
theorem ff_ok : ∀ p, p < 7 → ∀ v, v < 7 → p ≠ 0 → (FP.fdiv (FP.i2f (nI p - nI v)) (FP.i2f (nI p)) &&& 0x7fffffff ≤ 0x7f800000) ∧ Op.cmpValue (FP.fcmp (FP.fdiv (FP.i2f (nI p - nI v)) (FP.i2f (nI p))) (FP.fdiv (FP.i2f (nI p - nI v)) (FP.i2f (nI p)))) .l = 0 := by decide +kernel
section
variable {B : Bd} {s : Nat → Int32} {k p : Nat} {g : Nat → Nat}
theorem fa_b8 (h : CP B s k p g) : ∀ i, i < k → bcI (B 8 i) = nI (cnt (fun j => rfB B j i) k) := by
  intro i hi
  have hk := CP_k h
  obtain ⟨V, h1, h2, h3⟩ := CP_gv h hi
  rw [h2, bt_bcI V h1]
  congr 1
  unfold pcn
  rw [cnt_ext (P := fun j => V.testBit j) hk fun j hj hb => by
    refine Classical.byContradiction fun hn => ?_
    rw [h3 j (by omega)] at hb; cases hb]
  refine cnt_cg fun j hj => ?_
  unfold rfB
  rw [h2]
  exact (bt_ush V h1 j (by omega)).symm
theorem fa_rk (h : CP B s k p g) (x : Int32) : (∃ i, rkB B k x = some i) ↔ inR x 0 (nI k - 1) = true := by
  have hk := CP_k h
  have lt : ∀ j, j < k → cnt (fun l => orB B l j) k < k := fun j hj => by
    have h1 := cnt_lt_of (P := fun l => orB B l j) (P' := fun _ => true) hj (or_irr h hj) rfl (fun _ _ _ => rfl)
    have h2 := cnt_le (fun _ => true) k
    omega
  rw [inR_nI (by omega)]
  constructor
  · rintro ⟨i, e⟩
    have hi := fst_some e
    have e2 : nI (cnt (fun j => orB B j i) k) = x := by have := hi.2.1; simpa using this
    exact ⟨_, lt i hi.1, e2.symm⟩
  · rintro ⟨j, hj, rfl⟩
    obtain ⟨i, hi, e⟩ := ij_sur (f := fun j => cnt (fun l => orB B l j) k) ⟨fun j hj => lt j hj, fun a b ha hb e => rk_inj h ha hb e⟩ j hj
    exact fst_ex ⟨i, hi, by simp only [beq_iff_eq]; exact congrArg nI e⟩
theorem fa_r1 (h : CP B s k p g) : ∀ t, t < k → ∃ j, j < k ∧ rkB B k (nI t) = some j := by
  intro t ht
  obtain ⟨j, e⟩ := (fa_rk h (nI t)).mpr ((inR_nI (by have := CP_k h; omega)).mpr ⟨t, ht, rfl⟩)
  exact ⟨j, (fst_some e).1, e⟩
theorem fa_r2 (h : CP B s k p g) : ∀ t j j', t + 1 < k → rkB B k (nI t) = some j → rkB B k (nI (t + 1)) = some j' → orB B j j' = true := by
  intro t j j' ht e e'
  have hk := CP_k h
  have so := or_SO h (fun _ => true)
  have c1 := fst_some e
  have c2 := fst_some e'
  have n1 : cnt (fun l => orB B l j) k = t := by
    have := c1.2.1
    rw [beq_iff_eq] at this
    exact nI_inj (by have := cnt_le (fun l => orB B l j) k; omega) (by omega) this
  have n2 : cnt (fun l => orB B l j') k = t + 1 := by
    have := c2.2.1
    rw [beq_iff_eq] at this
    exact nI_inj (by have := cnt_le (fun l => orB B l j') k; omega) (by omega) this
  have hne : j ≠ j' := fun z => by rw [z] at n1; omega
  rcases so.1 j j' c1.1 c2.1 rfl rfl hne with h1 | h1
  · exact h1
  · have := cnt_lt_of (P := fun l => orB B l j') (P' := fun l => orB B l j) c2.1 (or_irr h c2.1) h1 (fun l hl h2 => so.2.2 l j' j hl c2.1 c1.1 h2 h1)
    omega
theorem fa_rn (h : CP B s k p g) : rkB B k (nI k) = none := by
  have hk := CP_k h
  cases e : rkB B k (nI k) with
  | none => rfl
  | some j =>
    have := (fa_rk h (nI k)).mp ⟨j, e⟩
    rw [inR_out (by omega)] at this; cases this
theorem fa_no (h : CP B s k p g) (hk0 : 0 < k) : fx B k (B 2 (k - 1) + 1) = none := by
  cases e : fx B k (B 2 (k - 1) + 1) with
  | none => rfl
  | some i =>
    exfalso
    obtain ⟨hi, e2⟩ := fx_k e
    obtain ⟨x, hx, ex⟩ := CP_id h (show k - 1 < k by omega)
    have h1 := CP_as h (show k - 1 < k by omega) hi
    rw [e2, ex, nI_s1, nt_nI (by omega), nt_nI (by omega)] at h1
    have := h1.mp (by omega)
    omega
theorem fa_m1 (h : CP B s k p g) : fx B k (-1) = none := by
  cases e : fx B k (-1) with
  | none => rfl
  | some i =>
    obtain ⟨hi, e2⟩ := fx_k e
    exact absurd e2 (CF_id h i hi)
theorem fa_wf (h : CP B s k p g) : ∀ i q, i < k → q < p → fh B k (nI q) = some i → waB B i = false ∧ B 7 i = nI q ∧ ftB B i q = true := by
  intro i q hi hq e
  have hp := CP_p h
  have e7 : B 7 i = nI q := by have := (fst_some e).2.1; simpa using this
  have hne : ¬ B 7 i = -1 := by rw [e7]; exact nI_nm1 (by omega)
  have hw : waB B i = false := by
    cases hw : waB B i with
    | false => rfl
    | true => unfold waB at hw; exact absurd (by simpa using hw) hne
  have hf := h.1.2.2.2.2 i hi hne
  have eq : nt (B 7 i) = q := by rw [e7, nt_nI (by omega)]
  rw [eq] at hf
  exact ⟨hw, e7, hf⟩
theorem fa_12 (h : CP B s k p g) : ∀ q, q < p → ¬ B 12 q = 50 → B 12 q < 50 := by
  intro q hq hne
  obtain ⟨w, hw, e⟩ := (h.1.2.2.1 q hq).2.2.1
  rw [e] at hne ⊢
  rw [show (50 : Int32) = nI 50 from rfl, nI_ltI (by omega) (by omega)]
  have : w ≠ 50 := fun z => hne (by rw [z]; rfl)
  omega
theorem fa_va (h : CP B s k p g) : bcI (vac B p k) = nI (cnt (vqB B k) p) := by rw [Q_vac h, Q_va h]; rfl
/-- the wages, by posts and by applicants -/
theorem sm_post {f : Nat → Int32} {F : Nat → Nat → Bool} {p : Nat} : ∀ {k : Nat}, (∀ i j q, i < k → j < k → q < p → F i q = true → F j q = true → i = j) → sm (fun i => sm (fun q => if F i q = true then f q else 0) p) k = sm (fun q => if (∃ i, i < k ∧ F i q = true) then f q else 0) p := by
  intro k
  induction k with
  | zero =>
    intro _
    refine (sm_0 fun q _ => ?_).symm
    rw [if_neg]; rintro ⟨i, hi, _⟩; omega
  | succ k ih =>
    intro h
    show sm _ k + _ = _
    rw [ih (fun i j q hi hj => h i j q (by omega) (by omega))]
    have add : ∀ (u v : Nat → Int32) (n : Nat), sm u n + sm v n = sm (fun q => u q + v q) n := by
      intro u v n
      induction n with
      | zero => rfl
      | succ n ih2 =>
        show (sm u n + u n) + (sm v n + v n) = sm (fun q => u q + v q) n + (u n + v n)
        rw [← ih2]; ac_rfl
    rw [add]
    refine sm_cg fun q hq => ?_
    by_cases h1 : F k q = true
    · have n1 : ¬ ∃ i, i < k ∧ F i q = true := by
        rintro ⟨i, hi, e⟩
        have := h i k q (by omega) (by omega) hq e h1
        omega
      rw [if_neg n1, if_pos h1, if_pos ⟨k, by omega, h1⟩, Int32.zero_add]
    · by_cases h2 : ∃ i, i < k ∧ F i q = true
      · obtain ⟨i, hi, e⟩ := h2
        rw [if_pos ⟨i, hi, e⟩, if_neg h1, if_pos ⟨i, by omega, e⟩, Int32.add_zero]
      · have n2 : ¬ ∃ i, i < k + 1 ∧ F i q = true := by
          rintro ⟨i, hi, e⟩
          by_cases e3 : i = k
          · rw [e3] at e; exact h1 e
          · exact h2 ⟨i, by omega, e⟩
        rw [if_neg h2, if_neg h1, if_neg n2, Int32.add_zero]
theorem sm_at {f : Nat → Int32} {c : Nat} : ∀ {n : Nat}, c < n → sm (fun q => if (decide (q = c)) = true then f q else 0) n = f c := by
  intro n
  induction n with
  | zero => intro h; omega
  | succ n ih =>
    intro h
    show sm (fun q => if (decide (q = c)) = true then f q else 0) n + (if (decide (n = c)) = true then f n else 0) = f c
    by_cases e : c = n
    · subst e
      rw [sm_0 fun q hq => if_neg (by rw [decide_eq_false (show ¬ q = c by omega)]; decide), if_pos (decide_eq_true rfl), Int32.zero_add]
    · rw [ih (by omega), if_neg (by rw [decide_eq_false (show ¬ n = c by omega)]; decide), Int32.add_zero]
theorem fa_wg (h : CP B s k p g) : sm (pwB B) k = sm (wgL B k) p := by
  have hp := CP_p h
  have hk := CP_k h
  have e1 : sm (pwB B) k = sm (fun i => sm (fun q => if (B 7 i == nI q) = true then B 13 q else 0) p) k := by
    refine sm_cg fun i hi => ?_
    unfold pwB
    rcases CP_pv h i hi with e | ⟨u, hu, e⟩
    · have hw : waB B i = true := by unfold waB; rw [e]; rfl
      rw [if_pos hw, sm_0 fun q hq => by
        have : ¬ (-1 : Int32) = nI q := fun z => nI_nm1 (i := q) (by omega) z.symm
        rw [e, if_neg (by simpa using this)]]
    · have hw : waB B i = false := by unfold waB; rw [e]; simpa using nI_nm1 (i := u) (by omega)
      have eq : qB B i = u := by unfold qB; rw [e]; exact nI_clamp (by omega)
      rw [if_neg (by rw [hw]; decide), eq, ← sm_at (f := B 13) hu]
      refine sm_cg fun q hq => ?_
      rw [e]
      by_cases e2 : q = u
      · subst e2; simp
      · have : ¬ nI u = nI q := by rw [nI_eq (by omega) (by omega)]; omega
        rw [if_neg (by simpa using e2), if_neg (by simpa using this)]
  rw [e1, sm_post (F := fun i q => B 7 i == nI q) (f := B 13) fun i j q hi hj hq a b => ?_]
  · refine sm_cg fun q hq => ?_
    unfold wgL
    cases e2 : fh B k (nI q) with
    | none =>
      rw [if_neg, if_neg (by decide)]
      rintro ⟨i, hi, e3⟩
      have := fst_none e2 i hi
      have e4 : (B 7 i == nI q) = true := e3
      rw [e4] at this; cases this
    | some i =>
      have := fst_some e2
      rw [if_pos ⟨i, this.1, this.2.1⟩]; rfl
  · have a' : B 7 i = nI q := by simpa using a
    have b' : B 7 j = nI q := by simpa using b
    have h1 := fh_some h (show q < 6 by omega) hi a'
    have h2 := fh_some h (show q < 6 by omega) hj b'
    rw [h1] at h2
    exact Option.some.inj h2
theorem fa_AF (h : CP B s k p g) {C : Nat} (hC : CB B k C) (hl : C < 1000000) : ∀ i, i < k → AF B i := by
  intro i hi
  obtain ⟨w, w1, w2⟩ := CP_wh h hi
  obtain ⟨rr, r1, r2⟩ := CP_ra h hi
  obtain ⟨V, v1, v2, _⟩ := CP_gv h hi
  obtain ⟨c, c1, c2⟩ := hC.2 i hi
  have hs := CP_sh h hi
  have hch : chr (B 3 i) = B 3 i := chr_sh (Or.inr hs)
  obtain ⟨sh, s1, s2⟩ : ∃ sh, sh < 128 ∧ B 3 i = nI sh := by
    rcases hs with e | e | e
    · exact ⟨99, by omega, e⟩
    · exact ⟨115, by omega, e⟩
    · exact ⟨110, by omega, e⟩
  exact ⟨sh, w, rr, pcn V, c, ⟨hch.trans s2, s1⟩, ⟨w2, w1⟩, ⟨r2, r1⟩, ⟨by rw [v2, bt_bcI V v1], pcn_le V⟩, c2, by omega⟩
end
