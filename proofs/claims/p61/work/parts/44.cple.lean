/-! CLASS AND MODEL TOGETHER, part 14: the model's matching is the class's. -/
section
variable {B : Bd} {s : Nat → Int32} {k p : Nat} {g : Nat → Nat}
/-- who can be hired next, of the model, as positions -/
def cnB (B : Bd) (k p i : Nat) : Bool := waB B i && (best (fun q => ftB B i q && vcB B k q) (poB B) p).isSome
theorem Q_nx (h : CP B s k p g) : nxM s p = (best (cnB B k p) (orB B) k).map g := by
  unfold nxM
  rw [best_ij (CP_g h) (p := fun a => wM s p a && (faM s p a true).isSome) (lt' := orB B) (fun a ha h1 => Q_wi h ha (by simp only [Bool.and_eq_true] at h1; exact h1.1)) (fun i j hi hj => Q_be h hi hj) (or_SO h _)]
  congr 1
  exact best_cg (fun i hi => by rw [Q_w h hi, Q_fv h hi]; rfl) (fun _ _ _ _ => rfl)
/-- part of a matching done -/
def MD (B B' X : Bd) (k : Nat) (f : Nat → Bool) : Prop := (∀ c, c ≠ 7 → B' c = B c) ∧ (∀ q i, q < 6 → i < k → f q = true → X 3 q = nI i → B' 7 i = nI q) ∧ (∀ i, i < 10 → (∀ q, q < 6 → f q = true → ¬ X 3 q = nI i) → B' 7 i = B 7 i) ∧ ∀ q, q < 6 → f q = true → ¬ X 3 q = -1
theorem md_or {B' X : Bd} {f : Nat → Bool} (hM : MD B B' X k f) : orB B' = orB B := by
  funext i j
  have e := hM.1
  unfold orB ptB
  rw [e 4 (by omega), e 5 (by omega), e 8 (by omega)]
theorem md_po {B' X : Bd} {f : Nat → Bool} (hM : MD B B' X k f) : poB B' = poB B := by
  funext i j
  have e := hM.1
  unfold poB
  rw [e 13 (by omega)]
theorem md_ft {B' X : Bd} {f : Nat → Bool} (hM : MD B B' X k f) : ftB B' = ftB B := by
  funext i j
  have e := hM.1
  unfold ftB
  rw [e 10 (by omega), e 3 (by omega), e 4 (by omega), e 11 (by omega), e 12 (by omega), e 5 (by omega)]
theorem vc_t {B : Bd} {q : Nat} (h : vcB B k q = true) : ∀ i, i < k → ¬ B 7 i = nI q := by
  intro i hi hx
  unfold vcB at h
  cases e : fh B k (nI q) with
  | none => have := fst_none e i hi; rw [hx] at this; simp at this
  | some j => rw [e] at h; cases h
theorem vc_f {B : Bd} {q : Nat} (h : vcB B k q = false) : ∃ i, i < k ∧ B 7 i = nI q := by
  unfold vcB at h
  cases e : fh B k (nI q) with
  | none => rw [e] at h; cases h
  | some j => have := fst_some e; exact ⟨j, this.1, by have := this.2.1; simpa using this⟩
theorem vc_of {B : Bd} {q : Nat} (h : ∀ i, i < k → ¬ B 7 i = nI q) : vcB B k q = true := by
  cases e : vcB B k q with
  | true => rfl
  | false => obtain ⟨i, hi, hx⟩ := vc_f e; exact absurd hx (h i hi)
theorem md_vc (h : CP B s k p g) {B' X : Bd} {f : Nat → Bool} (hS : ST B X k p) (hM : MD B B' X k f) {q : Nat} (hq : q < p) : vcB B' k q = true ↔ vcB B k q = true ∧ f q = false := by
  have hp := CP_p h
  have hk := CP_k h
  constructor
  · intro hv
    have hn := vc_t hv
    constructor
    · refine vc_of fun i hi hx => ?_
      refine hn i hi ?_
      rw [hM.2.2.1 i (by omega) fun t ht h1 h2 => ?_]
      · exact hx
      · have := (hS.2.1 i t hi ht h2).2.2.1
        unfold waB at this; rw [hx] at this; exact nI_nm1 (i := q) (by omega) (by simpa using this)
    · cases e : f q with
      | false => rfl
      | true =>
        rcases hS.1 q (by omega) with h0 | ⟨j, hj, h0⟩
        · exact absurd h0 (hM.2.2.2 q (by omega) e)
        · exact absurd (hM.2.1 q j (by omega) hj e h0) (hn j hj)
  · rintro ⟨hv, hf⟩
    refine vc_of fun i hi hx => ?_
    by_cases hex : ∃ t, t < 6 ∧ f t = true ∧ X 3 t = nI i
    · obtain ⟨t, ht, h1, h2⟩ := hex
      rw [hM.2.1 t i ht hi h1 h2] at hx
      have := nI_inj (by omega) (by omega) hx
      subst this; rw [hf] at h1; cases h1
    · rw [hM.2.2.1 i (by omega) fun t ht h1 h2 => hex ⟨t, ht, h1, h2⟩] at hx
      exact vc_t hv i hi hx
theorem md_wa (h : CP B s k p g) {B' X : Bd} {f : Nat → Bool} (hS : ST B X k p) (hM : MD B B' X k f) {i : Nat} (hi : i < k) : waB B' i = true ↔ waB B i = true ∧ ∀ q, q < 6 → f q = true → ¬ X 3 q = nI i := by
  have hp := CP_p h
  have hk := CP_k h
  constructor
  · intro hw
    have hno : ∀ q, q < 6 → f q = true → ¬ X 3 q = nI i := fun q hq h1 h2 => by
      have := hM.2.1 q i hq hi h1 h2
      unfold waB at hw; rw [this] at hw; exact nI_nm1 (i := q) (by omega) (by simpa using hw)
    refine ⟨?_, hno⟩
    have := hM.2.2.1 i (by omega) hno
    unfold waB at hw ⊢; rw [← this]; exact hw
  · rintro ⟨hw, hno⟩
    have := hM.2.2.1 i (by omega) hno
    unfold waB at hw ⊢; rw [this]; exact hw
theorem cn_t {B : Bd} {i : Nat} (h : cnB B k p i = true) : waB B i = true ∧ ∃ q, q < p ∧ ftB B i q = true ∧ vcB B k q = true := by
  unfold cnB at h
  rw [Bool.and_eq_true] at h
  obtain ⟨q, e⟩ := Option.isSome_iff_exists.mp h.2
  have hb := best_lt e
  have h2 : (ftB B i q && vcB B k q) = true := hb.2
  rw [Bool.and_eq_true] at h2
  exact ⟨h.1, q, hb.1, h2.1, h2.2⟩
theorem cn_of {B : Bd} {i q : Nat} (hw : waB B i = true) (hq : q < p) (hf : ftB B i q = true) (hv : vcB B k q = true) : cnB B k p i = true := by
  unfold cnB
  rw [hw, Bool.true_and]
  cases e : best (fun q => ftB B i q && vcB B k q) (poB B) p with
  | some t => rfl
  | none =>
    have := best_none e q hq
    have h3 : (ftB B i q && vcB B k q) = false := this
    rw [hf, hv] at h3; cases h3
/-- the model hires whom the class hires -/
theorem md_s (h : CP B s k p g) {B' X : Bd} {s' : Nat → Int32} {f : Nat → Bool} (hS : ST B X k p) (hM : MD B B' X k f) (h' : CP B' s' k p g) {i q : Nat} (hb : best (cnB B' k p) (orB B') k = some i) (hq : best (fun q => ftB B' i q && vcB B' k q) (poB B') p = some q) : i < k ∧ q < p ∧ X 3 q = nI i ∧ f q = false ∧ waB B' i = true ∧ vcB B' k q = true ∧ ftB B' i q = true := by
  have hp := CP_p h
  have b1 := best_is (or_SO h' _) i hb
  have b2 := best_is (po_SO h' _) q hq
  have oso := or_SO h (fun _ => true)
  have pso := po_SO h (fun _ => true)
  rw [md_or hM] at b1
  rw [md_po hM] at b2
  obtain ⟨hi, hci, hbi⟩ := b1
  obtain ⟨hqp, hcq, hbq⟩ := b2
  obtain ⟨hw', _⟩ := cn_t hci
  have hcq' : (ftB B' i q && vcB B' k q) = true := hcq
  rw [Bool.and_eq_true] at hcq'
  obtain ⟨hf', hv'⟩ := hcq'
  obtain ⟨hw, hno⟩ := (md_wa h hS hM hi).mp hw'
  obtain ⟨hv, hfq⟩ := (md_vc h hS hM hqp).mp hv'
  have hf : ftB B i q = true := by rw [← md_ft hM]; exact hf'
  refine ⟨hi, hqp, ?_, hfq, hw', hv', hf'⟩
  rcases hS.2.2.2 i q hi hqp hw hv hf with ⟨t, ht, hx, rfl | hl⟩ | ⟨j, hj, hx, hl⟩
  · exact hx
  · exfalso
    have hft : f t = false := by
      cases e : f t with
      | false => rfl
      | true => exact absurd hx (hno t (by omega) e)
    obtain ⟨_, a2, _, a4⟩ := hS.2.1 i t hi (by omega) hx
    have hne : t ≠ q := fun e => by subst e; have := pso.2.1 t t ht ht hl; rw [hl] at this; cases this
    have h1 := hbq t ht (by
      show (ftB B' i t && vcB B' k t) = true
      rw [md_ft hM, a4, (md_vc h hS hM ht).mpr ⟨a2, hft⟩]; rfl) hne
    have := pso.2.1 t q ht hqp hl
    rw [h1] at this; cases this
  · exfalso
    obtain ⟨_, a2, a3, a4⟩ := hS.2.1 j q hj (by omega) hx
    have hwj : waB B' j = true := (md_wa h hS hM hj).mpr ⟨a3, fun t ht h1 h2 => by
      have := hS.2.2.1 j t q hj ht (by omega) h2 hx
      subst this; rw [hfq] at h1; cases h1⟩
    have hne : j ≠ i := fun e => by subst e; have := or_irr h hj; rw [hl] at this; cases this
    have h1 := hbi j hj (cn_of hwj hqp (by rw [md_ft hM]; exact a4) hv') hne
    have := oso.2.1 j i hj hi hl
    rw [h1] at this; cases this
theorem md_n (h : CP B s k p g) {B' X : Bd} {s' : Nat → Int32} {f : Nat → Bool} (hS : ST B X k p) (hM : MD B B' X k f) (h' : CP B' s' k p g) (hb : best (cnB B' k p) (orB B') k = none) : ∀ q, q < 6 → f q = !(X 3 q == -1) := by
  have hp := CP_p h
  intro q hq
  cases e : f q with
  | true => have := hM.2.2.2 q hq e; simp [this]
  | false =>
    rcases hS.1 q hq with h0 | ⟨i, hi, h0⟩
    · rw [h0]; rfl
    · exfalso
      obtain ⟨a1, a2, a3, a4⟩ := hS.2.1 i q hi hq h0
      have hw : waB B' i = true := (md_wa h hS hM hi).mpr ⟨a3, fun t ht h1 h2 => by
        have := hS.2.2.1 i t q hi ht hq h2 h0
        subst this; rw [e] at h1; cases h1⟩
      have := best_none hb i hi
      rw [cn_of hw a1 (by rw [md_ft hM]; exact a4) ((md_vc h hS hM a1).mpr ⟨a2, e⟩)] at this
      cases this
theorem mt_all (h : CP B s k p g) {X : Bd} (hS : ST B X k p) : ∀ (t : Nat) (B' : Bd) (s' : Nat → Int32) (f : Nat → Bool), MD B B' X k f → CP B' s' k p g → vaM s' p ≤ t → ∃ B'', MD B B'' X k (fun q => !(X 3 q == -1)) ∧ CP B'' (mtL p t s').1 k p g ∧ cnt f 6 + (mtL p t s').2 = cnt (fun q => !(X 3 q == -1)) 6 := by
  have hp := CP_p h
  have hk := CP_k h
  have fin : ∀ (B' : Bd) (s' : Nat → Int32) (f : Nat → Bool), MD B B' X k f → CP B' s' k p g → nxM s' p = none → ∃ B'', MD B B'' X k (fun q => !(X 3 q == -1)) ∧ CP B'' s' k p g ∧ cnt f 6 + 0 = cnt (fun q => !(X 3 q == -1)) 6 := by
    intro B' s' f hM h' hn
    rw [Q_nx h'] at hn
    have hb : best (cnB B' k p) (orB B') k = none := by
      cases e : best (cnB B' k p) (orB B') k with
      | none => rfl
      | some i => rw [e] at hn; cases hn
    have hf := md_n h hS hM h' hb
    refine ⟨B', ⟨hM.1, fun q i hq hi h1 => hM.2.1 q i hq hi (by rw [hf q hq]; exact h1), fun i hi h1 => hM.2.2.1 i hi fun q hq h2 => h1 q hq (by show (!(X 3 q == -1)) = true; rw [← hf q hq]; exact h2), fun q hq h1 => hM.2.2.2 q hq (by rw [hf q hq]; exact h1)⟩, h', ?_⟩
    rw [Nat.add_zero]; exact cnt_cg hf
  intro t
  induction t with
  | zero =>
    intro B' s' f hM h' hv
    have hn : nxM s' p = none := by
      cases e : nxM s' p with
      | none => rfl
      | some a => have := nx_va e; omega
    obtain ⟨B'', m1, m2, m3⟩ := fin B' s' f hM h' hn
    exact ⟨B'', m1, m2, m3⟩
  | succ t ih =>
    intro B' s' f hM h' hv
    rw [mtL_s]
    cases e : nxM s' p with
    | none =>
      have e1 : mtN p s' = none := by unfold mtN; rw [e]
      rw [e1]
      exact fin B' s' f hM h' e
    | some a =>
      have e0 := e
      rw [Q_nx h'] at e
      cases hb : best (cnB B' k p) (orB B') k with
      | none => rw [hb] at e; cases e
      | some i =>
        rw [hb] at e
        have ea : g i = a := by simpa using e
        have hi := (best_lt hb).1
        obtain ⟨_, _, q, hq1, hq2, hq3⟩ := nx_ex e0
        have e2 : faM s' p (g i) true = some q := by rw [ea]; exact hq1
        have e3 := e2
        rw [Q_fv h' hi] at e3
        obtain ⟨hik, hqp, hx, hfq, hw', hv', hft'⟩ := md_s h hS hM h' hb e3
        have e1 : mtN p s' = some (filS s' q (g i)) := by unfold mtN; rw [e0, ← ea]; simp only [e2]
        rw [e1]
        have hfh : fh B' k (nI q) = none := by
          have := hv'
          unfold vcB at this
          cases e4 : fh B' k (nI q) with
          | none => rfl
          | some j => rw [e4] at this; cases this
        have cp := CP_hi h' hik hqp hw' hfh hft'
        have hgi := IJ_lt (CP_g h) hik
        have hva := va_fil hqp hgi (poq_n h' hqp hfh)
        have hMD : MD B (ud B' 7 i (nI q)) X k (fun u => f u || (u == q)) := by
          refine ⟨fun c hc => by rw [ud_nc hc]; exact hM.1 c hc, fun u j hu hj h1 h2 => ?_, fun j hj h1 => ?_, fun u hu h1 => ?_⟩
          · rw [ud_i]
            by_cases hji : j = i
            · subst hji
              rw [if_pos rfl, hS.2.2.1 j u q hj hu (by omega) h2 hx]
            · rw [if_neg hji]
              simp only [Bool.or_eq_true, beq_iff_eq] at h1
              rcases h1 with h1 | h1
              · exact hM.2.1 u j hu hj h1 h2
              · subst h1; rw [hx] at h2
                exact absurd (nI_inj (by omega) (by omega) h2).symm hji
          · rw [ud_i]
            have hji : j ≠ i := fun e => h1 q (by omega) (by simp) (by rw [e]; exact hx)
            rw [if_neg hji]
            exact hM.2.2.1 j hj fun u hu h2 => h1 u hu (by simp [h2])
          · simp only [Bool.or_eq_true, beq_iff_eq] at h1
            rcases h1 with h1 | h1
            · exact hM.2.2.2 u hu h1
            · subst h1; rw [hx]; exact nI_nm1 (by omega)
        obtain ⟨B'', m1, m2, m3⟩ := ih (ud B' 7 i (nI q)) (filS s' q (g i)) (fun u => f u || (u == q)) hMD cp (by omega)
        refine ⟨B'', m1, m2, ?_⟩
        show cnt f 6 + ((mtL p t (filS s' q (g i))).2 + 1) = _
        have : cnt (fun u => f u || (u == q)) 6 = cnt f 6 + 1 := cnt_upd (q := q) (by omega) (by simp) hfq (fun j hj => by simp [hj])
        omega
theorem hh_c {X : Bd} {c : Nat} (hc : c ≠ 7) : ∀ t, hhB B X t c = B c := by
  intro t
  induction t with
  | zero => rfl
  | succ t ih =>
    rw [hhB]
    split
    · exact ih
    · rw [ud_nc hc]; exact ih
theorem hh_7 {X : Bd} (hX : HV X k) (hk : k ≤ 10) : ∀ t, t ≤ 6 → (∀ q i, q < t → X 3 q = nI i → i < k → (∀ u, u < 6 → X 3 u = nI i → u = q) → hhB B X t 7 i = nI q) ∧ ∀ i, i < 10 → (∀ q, q < t → ¬ X 3 q = nI i) → hhB B X t 7 i = B 7 i := by
  intro t
  induction t with
  | zero => intro _; exact ⟨fun q i hq => by omega, fun i _ _ => rfl⟩
  | succ t ih =>
    intro ht
    obtain ⟨i1, i2⟩ := ih (by omega)
    rw [hhB]
    rcases hX t (by omega) with h0 | ⟨j, hj, h0⟩
    · rw [if_pos h0]
      refine ⟨fun q i hq hx hi hu => ?_, fun i hi h1 => i2 i hi fun q hq => h1 q (by omega)⟩
      by_cases hqt : q = t
      · subst hqt; rw [h0] at hx; exact absurd hx.symm (nI_nm1 (by omega))
      · exact i1 q i (by omega) hx hi hu
    · rw [if_neg (by rw [h0]; exact nI_nm1 (by omega)), h0, nI_clamp (by omega)]
      refine ⟨fun q i hq hx hi hu => ?_, fun i hi h1 => ?_⟩
      · rw [ud_i]
        by_cases hij : i = j
        · subst hij; rw [if_pos rfl, hu t (by omega) h0]
        · rw [if_neg hij]
          have hqt : q ≠ t := fun e => by subst e; rw [h0] at hx; exact hij (nI_inj (by omega) (by omega) hx).symm
          exact i1 q i (by omega) hx hi hu
      · rw [ud_i, if_neg (fun e => h1 t (by omega) (by rw [e]; exact h0))]
        exact i2 i hi fun q hq => h1 q (by omega)
theorem O_ma (h : CP B s k p g) (X : Bd) : CP (hhB B (gsB B k p (vac B p k) 60 (X0g X)) 6) (mtL p (vaM s p) s).1 k p g ∧ cnt (fun q => !(gsB B k p (vac B p k) 60 (X0g X) 3 q == -1)) 6 = (mtL p (vaM s p) s).2 := by
  have hS := ST_gs h X
  generalize gsB B k p (vac B p k) 60 (X0g X) = Y at hS
  have hk := CP_k h
  have h0 : MD B B Y k (fun _ => false) := ⟨fun _ _ => rfl, fun _ _ _ _ h1 => (by cases h1), fun _ _ _ => rfl, fun _ _ h1 => (by cases h1)⟩
  obtain ⟨B'', m1, m2, m3⟩ := mt_all h hS (vaM s p) B s _ h0 h (Nat.le_refl _)
  have cel : ∀ c i, i < 10 → B'' c i = hhB B Y 6 c i := by
    intro c i hi
    by_cases h7 : c = 7
    · subst h7
      obtain ⟨a1, a2⟩ := hh_7 (B := B) hS.1 hk 6 (Nat.le_refl _)
      by_cases hex : ∃ q, q < 6 ∧ Y 3 q = nI i
      · obtain ⟨q, hq, hx⟩ := hex
        have hik : i < k := by
          rcases hS.1 q hq with e | ⟨j, hj, e⟩
          · rw [hx] at e; exact absurd e (nI_nm1 (by omega))
          · rw [hx] at e; have := nI_inj (by omega) (by omega) e; omega
        rw [a1 q i hq hx hik (fun u hu hxu => hS.2.2.1 i u q hik hu hq hxu hx)]
        exact m1.2.1 q i hq hik (by show (!(Y 3 q == -1)) = true; rw [hx]; simp [nI_nm1 (show i < 2 ^ 31 by omega)]) hx
      · have hno : ∀ q, q < 6 → ¬ Y 3 q = nI i := fun q hq hx => hex ⟨q, hq, hx⟩
        rw [a2 i hi hno]
        exact m1.2.2.1 i hi fun q hq _ => hno q hq
    · rw [hh_c h7, m1.1 c h7]
  refine ⟨CP_ext m2 ⟨⟨cel 0 2 (by omega), cel 1 0 (by omega), cel 1 1 (by omega), cel 9 0 (by omega)⟩, fun c i _ _ hi => cel c i hi, fun c i _ _ hi => cel c i (by omega)⟩ (fun _ _ => rfl), ?_⟩
  · have : cnt (fun _ => false) 6 = 0 := rfl
    omega
end
