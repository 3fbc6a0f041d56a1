/-! THE LAW'S SIXTH CHECK: matched. -/
theorem cnt_sum {P Q R : Nat → Bool} : ∀ {n : Nat}, (∀ i, i < n → P i = (Q i || R i)) → (∀ i, i < n → Q i = true → R i = true → False) → cnt P n = cnt Q n + cnt R n := by
  intro n
  induction n with
  | zero => intro _ _; rfl
  | succ n ih =>
    intro h1 h2
    have e := ih (fun i hi => h1 i (by omega)) (fun i hi => h2 i (by omega))
    have a1 := h1 n (by omega)
    have a2 := h2 n (by omega)
    show cnt P n + _ = (cnt Q n + _) + (cnt R n + _)
    rw [e, a1]
    cases e1 : Q n <;> cases e2 : R n
    · simp
    · simp; omega
    · simp; omega
    · exact (a2 e1 e2).elim
theorem cnt_ext {P : Nat → Bool} {p : Nat} : ∀ {n : Nat}, p ≤ n → (∀ i, i < n → P i = true → i < p) → cnt P n = cnt P p := by
  intro n
  induction n with
  | zero => intro h _; have : p = 0 := by omega
            subst this; rfl
  | succ n ih =>
    intro h h1
    by_cases e : p = n + 1
    · subst e; rfl
    · have hn : P n = false := by
        cases hP : P n with
        | false => rfl
        | true => have := h1 n (by omega) hP; omega
      show cnt P n + (if P n = true then 1 else 0) = _
      rw [ih (by omega) (fun i hi => h1 i (by omega)), hn]; rfl
section
variable {B X B' : Bd} {s : Nat → Int32} {k p : Nat} {g : Nat → Nat} {f : Nat → Bool}
theorem mat_md (h : CP B s k p g) (hS : ST B X k p) : MD B (hhB B X 6) X k (fun q => !(X 3 q == -1)) := by
  have hk := CP_k h
  obtain ⟨c1, c2⟩ := hh_7 (B := B) hS.1 hk 6 (Nat.le_refl _)
  refine ⟨fun c hc => hh_c hc 6, fun q i hq hi _ e => c1 q i hq e hi fun u hu eu => hS.2.2.1 i u q hi hu hq eu e, fun i hi hn => c2 i hi fun q hq e => hn q hq ?_ e, fun q _ hf e => ?_⟩
  · have : ¬ nI i = -1 := nI_nm1 (by omega)
    simp [e, this]
  · simp [e] at hf
theorem mat_f (h : CP B s k p g) (hS : ST B X k p) {q : Nat} (hq : q < 6) (hf : (!(X 3 q == -1)) = true) : ∃ i, i < k ∧ X 3 q = nI i ∧ q < p ∧ vcB B k q = true ∧ waB B i = true ∧ ftB B i q = true := by
  rcases hS.1 q hq with e | ⟨i, hi, e⟩
  · simp [e] at hf
  · exact ⟨i, hi, e, hS.2.1 i q hi hq e⟩
theorem mat_le (h : CP B s k p g) (hS : ST B X k p) : cnt (fun q => !(X 3 q == -1)) 6 ≤ lm B k p p (mkT (waB B) k) := by
  have hp := CP_p h
  have hk := CP_k h
  have e1 : cnt (fun q => !(X 3 q == -1)) 6 = cnt (fun q => decide (q < 6) && !(X 3 q == -1)) p := by
    rw [cnt_ext hp fun i hi hf => (mat_f h hS hi hf).choose_spec.2.2.1]
    exact cnt_cg fun i hi => by rw [decide_eq_true (show i < 6 by omega)]; rfl
  rw [e1]
  refine (lm_is hk p (Nat.le_refl _) (mkT (waB B) k)).2 _ ⟨fun t ht => ?_, fun t => nt (X 3 t), fun t ht => ?_, fun t u ht hu e => ?_⟩
  · rw [Bool.and_eq_true, decide_eq_true_eq] at ht
    obtain ⟨i, a1, a2, a3, _⟩ := mat_f h hS ht.1 ht.2
    exact ⟨by omega, a3⟩
  · rw [Bool.and_eq_true, decide_eq_true_eq] at ht
    obtain ⟨i, a1, a2, a3, a4, a5, a6⟩ := mat_f h hS ht.1 ht.2
    have e2 : nt (X 3 t) = i := by rw [a2, nt_nI (by omega)]
    show nt (X 3 t) < k ∧ (mkT (waB B) k).testBit (nt (X 3 t)) = true ∧ ftB B (nt (X 3 t)) t = true ∧ vqB B k t = true
    rw [e2]
    exact ⟨a1, by rw [mkT_b, decide_eq_true a1, a5]; rfl, a6, a4⟩
  · rw [Bool.and_eq_true, decide_eq_true_eq] at ht hu
    obtain ⟨i, a1, a2, _⟩ := mat_f h hS ht.1 ht.2
    obtain ⟨j, b1, b2, _⟩ := mat_f h hS hu.1 hu.2
    have e' : i = j := by
      have : nt (X 3 t) = nt (X 3 u) := e
      rw [a2, b2, nt_nI (by omega), nt_nI (by omega)] at this
      exact this
    exact hS.2.2.1 i t u a1 ht.1 hu.1 a2 (by rw [e']; exact b2)
theorem mat_vc (h : CP B s k p g) (hS : ST B X k p) (hM : MD B B' X k (fun q => !(X 3 q == -1))) : cnt (vcB B k) p = cnt (vcB B' k) p + cnt (fun q => !(X 3 q == -1)) 6 := by
  have hp := CP_p h
  rw [cnt_ext (P := fun q => !(X 3 q == -1)) hp fun i hi hf => (mat_f h hS hi hf).choose_spec.2.2.1]
  refine cnt_sum (fun q hq => ?_) (fun q hq h1 h2 => ?_)
  · have hv := md_vc h hS hM hq
    cases e1 : (!(X 3 q == -1)) with
    | true =>
      obtain ⟨i, a1, a2, a3, a4, _⟩ := mat_f h hS (by omega) e1
      rw [a4, Bool.or_true]
    | false =>
      rw [Bool.or_false]
      cases e2 : vcB B k q with
      | true => exact (hv.mpr ⟨e2, e1⟩).symm
      | false =>
        cases e3 : vcB B' k q with
        | false => rfl
        | true => have := (hv.mp e3).1; rw [e2] at this; cases this
  · have := ((md_vc h hS hM hq).mp h1).2
    rw [h2] at this; cases this
theorem mat_no (h : CP B s k p g) (hS : ST B X k p) (hM : MD B B' X k (fun q => !(X 3 q == -1))) {i q : Nat} (hi : i < k) (hq : q < p) (hw : waB B' i = true) (hv : vcB B' k q = true) (hf : ftB B' i q = true) : False := by
  have hp := CP_p h
  have hk := CP_k h
  rw [md_ft hM] at hf
  obtain ⟨w1, w2⟩ := (md_wa h hS hM hi).mp hw
  obtain ⟨v1, v2⟩ := (md_vc h hS hM hq).mp hv
  have nb : ∀ {t j : Nat}, j < k → X 3 t = nI j → (!(X 3 t == -1)) = true := by
    intro t j hj e
    have : ¬ nI j = -1 := nI_nm1 (by omega)
    simp [e, this]
  rcases hS.2.2.2 i q hi hq w1 v1 hf with ⟨t, t1, t2, _⟩ | ⟨j, j1, j2, _⟩
  · exact w2 t (by omega) (nb hi t2) t2
  · have := nb j1 j2
    rw [v2] at this; cases this
end
theorem lm_zero {B : Bd} {k p : Nat} (hk : k ≤ 10) (h : ∀ i q, i < k → q < p → waB B i = true → vcB B k q = true → ftB B i q = true → False) : lm B k p p (mkT (waB B) k) = 0 := by
  obtain ⟨⟨T, ⟨c1, f, c2, _⟩, c3⟩, _⟩ := lm_is (B := B) hk p (Nat.le_refl _) (mkT (waB B) k)
  rw [← c3]
  refine cnt_0 fun t ht => ?_
  cases hT : T t with
  | false => rfl
  | true =>
    obtain ⟨a1, a2, a3, a4⟩ := c2 t hT
    rw [mkT_b, Bool.and_eq_true] at a2
    exact (h (f t) t a1 ht a2.2 a4 a3).elim
theorem lbS_0 {B : Bd} {k p : Nat} (h : ∀ i q, i < k → q < p → waB B i = true → vcB B k q = true → ftB B i q = true → False) : lbS B k p true k = 0 := by
  have key : ∀ n, n ≤ k → lbS B k p true n = 0 := by
    intro n
    induction n with
    | zero => intro _; rfl
    | succ n ih =>
      intro hn
      show lbS B k p true n + cnt (lbB B k true n) p = 0
      rw [ih (by omega), cnt_0 fun q hq => ?_]
      cases e : lbB B k true n q with
      | false => rfl
      | true =>
        unfold lbB ibB at e
        simp only [Bool.and_eq_true, Bool.not_true, Bool.false_or] at e
        exact (h n q (by omega) hq e.2.1 e.2.2 e.1.1).elim
  exact key k (Nat.le_refl k)
section
variable {G : Glb} {A n r C dn : Nat} {H : Hp} {mm : Mm} {Bt : Nat → Bd} {fl : Nat → Nat}
/-- a matching, its board named -/
theorem mat_1 {s : Nat → Int32} {k p : Nat} {g : Nat → Nat} (hg : GF G fl) (hJ : JT mm C dn Bt) (cp : CP (mm 0) s k p g) (n r d : Nat) : ∃ X mm' Bt' s', ST (mm 0) X k p ∧ call G (d + 5) 80 [.ref (ad A 11 0)] (S A H mm n r) = vI (nI (cnt (fun q => !(X 3 q == -1)) 6)) (S A H mm' n r) ∧ mm' 0 = hhB (mm 0) X 6 ∧ CP (mm' 0) s' k p g ∧ JT mm' C 0 Bt' := by
  obtain ⟨s0, k0, p0, g0, u, cp0, cb, hn0, _, _, _, _, hu, hu8, hh, _⟩ := JT_get hJ
  have hk := CP_k cp
  have hkk : k0 = k := (nI_eq (by have := CP_k cp0; omega) (by omega)).mp (hn0.symm.trans (CF_n cp))
  subst hkk
  have e := s80 (G := G) (A := A) (n := n) (r := r) (H := H) (m := mm) (u := u) hg (CF_n cp) hk (CF_p cp) (CP_p cp) hu hu8 hh d
  obtain ⟨c1, c2⟩ := O_ma cp (mm 11)
  have ema : maM mm k0 p = gsB (mm 0) k0 p (vac (mm 0) p k0) 60 (X0g (mm 11)) := rfl
  have hJ0 : JT mm C 0 (exB Bt 0 (mm 0)) := ⟨hJ.1, HI_0 hJ.2.1, hJ.2.2⟩
  have hP : PUSH mm (fiM (sb (sb (bgM mm) 11 (maM mm k0 p)) 0 (hhB (mm 0) (maM mm k0 p) 6)) u) (hhB (mm 0) (maM mm k0 p) 6) := by
    refine ⟨sb (sb (bgM mm) 11 (maM mm k0 p)) 0 (hhB (mm 0) (maM mm k0 p) 6), u, hu, hu8, rfl, fun b h0 h1 h11 => by rw [sb_ne h0, sb_ne h11, bg_ne h1], sb_eq .., ?_, fun c i hc => ?_⟩
    · rw [sb_ne (by omega), sb_ne (by omega)]; unfold bgM; rw [sb_eq]
    · rw [sb_ne (by omega), sb_eq, ema, gsB_n (by omega) (by omega), X0g_n (by omega) (by omega)]
  obtain ⟨j1, j2⟩ := JT_push hJ0 (by omega) hP (if_pos rfl) ⟨_, _, _, _, c1, CB_c cb (by rw [hh_c (by omega)]) (fun j _ => by rw [hh_c (by omega)])⟩
  exact ⟨maM mm k0 p, _, exB Bt 0 (mm 0), (mtL p (vaM s p) s).1, ST_gs cp (mm 11), e, j2, by rw [j2]; exact c1, ⟨j1.1, HI_0 j1.2.1, j1.2.2⟩⟩
theorem s193 (hg : GF G fl) (hJ : JT mm C dn Bt) (hk9 : True) (d n r : Nat) : ∃ mm' n' r', call G (d + 14) 193 [.ref (ad A 11 0)] (S A H mm n r) = vI 1 (S A H mm' n' r') ∧ n ≤ n' ∧ n' ≤ n + 70 ∧ r' ≤ r + 420 := by
  obtain ⟨s, k, p, g, u, cp, cb, hn, hk, hp, hq, hv, hu, hu8, hh, hid⟩ := JT_get hJ
  obtain ⟨X1, hX1⟩ : ∃ X1, X1 = (cpS (mm 0) k (vac (mm 0) p k) (X0p (mm 11)) p).2 := ⟨_, rfl⟩
  have f1 := s81 (G := G) (A := A) (n := n) (r := r) (H := H) (m := mm) hn hk hp hq (d + 4)
  rw [(O_mo cp (mm 11) X1).1, ← hX1, lm_mx cp] at f1
  have f0 := s67 (G := G) (A := A) (n := n) (r := r) (H := H) (m := mm) hn hk hp hq (d + 11)
  rw [Q_vac cp, Q_va cp] at f0
  have m10 : sb mm 11 X1 0 = mm 0 := sb_ne (by omega)
  have hJ1 : JT (sb mm 11 X1) C dn Bt := JT_keep hJ (KEEP_11 fun c i hc => by rw [hX1, cpS_n (by omega) (by omega), X0p_n (by omega)])
  obtain ⟨X, mm2, B2, s2, hS, f2, e20, cp2, hJ2⟩ := mat_1 (G := G) (A := A) (H := H) hg hJ1 (s := s) (k := k) (p := p) (g := g) (by rw [m10]; exact cp) n r (d + 8)
  rw [m10] at hS e20
  have hM := mat_md cp hS
  rw [← e20] at hM
  have hle := mat_le cp hS
  have hvc := mat_vc cp hS hM
  have hno := fun i q hi hq' hw hv' hf => mat_no cp hS hM (i := i) (q := q) hi hq' hw hv' hf
  obtain ⟨c, hc⟩ : ∃ c, c = cnt (fun q => !(X 3 q == -1)) 6 := ⟨_, rfl⟩
  rw [← hc] at f2 hle hvc
  have hlm : lm (mm 0) k p p (mkT (waB (mm 0)) k) ≤ p := lm_le p _
  have hn2 := CF_n cp2
  have hp2 := CF_p cp2
  have hv2 := CP_pv cp2
  have f3 := s67 (G := G) (A := A) (n := n) (r := r) (H := H) (m := mm2) hn2 hk hp2 hq (d + 11)
  rw [Q_vac cp2, Q_va cp2] at f3
  obtain ⟨n1, r1, e191, a1, a2, a3⟩ := s191 (G := G) (A := A) (H := H) (m := mm2) (CF_f cp2) (CF_o cp2) hn2 hk hp2 hq hv2 (CF_id cp2) (CF_0 cp2) true (d + 7) n r
  rw [lbS_0 hno, bI_t] at e191
  obtain ⟨X', mm3, B3, s3, hS3, f4, e30, cp3, hJ3⟩ := mat_1 (G := G) (A := A) (H := H) hg hJ2 cp2 n1 r1 (d + 8)
  have hle3 := mat_le cp2 hS3
  rw [lm_zero hk hno] at hle3
  have hc0 : cnt (fun q => !(X' 3 q == -1)) 6 = 0 := by omega
  rw [hc0] at f4
  obtain ⟨Y, hY, f5⟩ := s94 (G := G) (A := A) (n := n1) (r := r1) (H := H) (mm := mm3) cp3 (d + 3)
  refine ⟨sb mm3 11 Y, n1, r1, ?_, a1, a2, by omega⟩
  have hvp : cnt (vcB (mm 0) k) p ≤ p := cnt_le _ p
  rw [b193_e, if_pos rcX0, cI_of f0, if_pos rcX0, cI_of f1, if_pos rcX0, cI_of f2, if_neg (by rw [nI_ltI (by omega) (by omega)]; omega), if_pos rcX0, cI_of f3, if_pos ?_, cI_of e191, if_pos (show nI 0 = 0 from rfl), if_pos rcX0, cI_of f4, if_pos (show nI 0 = 0 from rfl), if_pos rcX0, cI_of f5, if_neg not1]
  · rfl
  · show nI (cnt (vcB (mm2 0) k) p) = nI (cnt (vcB (mm 0) k) p) - nI c
    rw [hvc, nI_sub (by omega), show cnt (vcB (mm2 0) k) p + c - c = cnt (vcB (mm2 0) k) p by omega]
end
