/-! THE BOARD IS DRAWN. -/
def BZ : Nat → Bd := fun _ _ _ => 0
def NSB (B : Bd) (k : Nat) : Prop := ∀ i, i < k → rfB B i i = false
theorem inR_w {a b c : Nat} (h1 : a ≤ b) (h2 : b ≤ c) (h : c < 2 ^ 31) : inR (nI b) (nI a) (nI c) = true := by
  unfold inR
  rw [decide_eq_false (show ¬ nI b < nI a by rw [nI_ltI (by omega) (by omega)]; omega), decide_eq_false (show ¬ nI c < nI b by rw [nI_ltI (by omega) (by omega)]; omega)]
  rfl
theorem nI_mm (a b : Nat) : nI a * nI b = nI (a * b) := by unfold nI; rw [Int32.ofNat_mul]
section
variable {G : Glb} {A n r C : Nat} {H : Hp} {mm : Mm} {Bt : Nat → Bd} {fl : Nat → Nat}
theorem OPR_use {C' dn : Nat} {Φ : Int32 → Bd → Prop} {Ψ : Int32 → Prop} {F : Res} (hJ : JT mm C dn Bt) (h : OPR A H mm n r C' Φ Ψ F) : ∃ v mm' n' r', F = vI v (S A H mm' n' r') ∧ n ≤ n' ∧ n' ≤ n + 1 ∧ r' ≤ r + 6 ∧ ((v < 0 ∧ Ψ v ∧ mm' 0 = mm 0 ∧ JT mm' C 0 BZ) ∨ (¬ v < 0 ∧ JT mm' C' 0 BZ ∧ Φ v (mm' 0))) := by
  obtain ⟨v, mm', n', r', e, a1, a2, a3, h⟩ := h
  refine ⟨v, mm', n', r', e, a1, a2, a3, ?_⟩
  rcases h with ⟨h1, h2, hk⟩ | ⟨h1, B', hp, hR, hΦ⟩
  · have := JT_keep hJ hk
    exact Or.inl ⟨h1, h2, hk.1 0 (by omega) (by omega), this.1, HI_0 this.2.1, this.2.2⟩
  · have hJ0 : JT mm C 0 (exB Bt 0 (mm 0)) := ⟨hJ.1, HI_0 hJ.2.1, hJ.2.2⟩
    obtain ⟨j1, j2⟩ := JT_push hJ0 (by omega) hp (if_pos rfl) hR
    exact Or.inr ⟨h1, ⟨j1.1, HI_0 j1.2.1, j1.2.2⟩, by rw [j2]; exact hΦ⟩
/-- a drawn shape -/
theorem sh40 (hgs : GS G) (hK : KT G A H 166 [99, 115, 110]) {y : Nat} (hy : y < 2 ^ 31) (n r d : Nat) : call G (d + 4) 40 [.int (nI y)] (S A H mm n r) = vI ([99, 115, 110].getD (y % 3) 0) (S A H mm n r) ∧ shp ([99, 115, 110].getD (y % 3) 0) = true := by
  obtain ⟨a, ea, hx⟩ := hK
  obtain ⟨va, hr, -⟩ := TX_r hx mm n r
  have h3 : y % 3 < 3 := Nat.mod_lt _ (by omega)
  constructor
  · obtain ⟨c, hc, e⟩ := hx.1.1 (y % 3) h3
    rw [b40_e, ea]
    simp only [gR_sm]
    rw [if_pos hr.1, show nI y - nI y / 3 * 3 = nI (y % 3) from nI_rm (b := 3) hy (by omega) (by omega), cI_of (s315t hgs hr hx.1.1 hx.1.2 h3 d), e, if_pos (asc_all c hc).2]
    rfl
  · have : y % 3 = 0 ∨ y % 3 = 1 ∨ y % 3 = 2 := by omega
    rcases this with e | e | e <;> rw [e] <;> rfl
def DRW (mm : Mm) (C j q : Nat) : Prop := JT mm C 0 BZ ∧ mm 0 1 0 = nI j ∧ mm 0 1 1 = nI j ∧ mm 0 9 0 = nI q ∧ (∀ i, i < j → mm 0 2 i = nI i) ∧ NSB (mm 0) j
theorem rf_same {B B' : Bd} {i j : Nat} (h : B' 8 j = B 8 j) : rfB B' i j = rfB B i j := by unfold rfB; rw [h]
theorem rf_0 (i : Nat) (hi : i < 10) {B : Bd} (h : B 8 i = 0) : rfB B i i = false := by
  unfold rfB
  rw [h]
  have := bt_ush 0 (by omega) i hi
  rw [Nat.zero_testBit] at this
  exact this
theorem drw_add (hg : GF G fl) {j q : Nat} (hD : DRW mm C j q) (hC : C < 1000000) (hj : j < 10) {sh : Int32} (hsh : shp sh = true) {w rr : Nat} (hw : w ≤ 100) (hr : rr ≤ 50) (n r d : Nat) : ∃ mm' n' r', call G (d + 7) 2 [.ref (ad A 11 0), .int sh, .int (nI w), .int (nI rr)] (S A H mm n r) = vI (nI j) (S A H mm' n' r') ∧ DRW mm' (C + 1) (j + 1) q ∧ n ≤ n' ∧ n' ≤ n + 1 ∧ r' ≤ r + 6 := by
  obtain ⟨hJ, h1, h2, h3, h4, h5⟩ := hD
  obtain ⟨v, mm', n', r', e, a1, a2, a3, h⟩ := OPR_use hJ (op_2 (A := A) (H := H) (n := n) (r := r) hg hJ hC sh (nI w) (nI rr) d)
  have key : ∀ k, mm 0 1 0 = nI k → k ≤ 10 → k = j := fun k hk hk10 => (nI_eq (by omega) (by omega)).mp (hk.symm.trans h1)
  rcases h with ⟨_, ⟨k, k1, k2, k3⟩, _⟩ | ⟨_, hJ', k, k1, k2, k3, k4⟩
  · exfalso
    have := key k k1 k2
    subst this
    refine k3 ?_
    unfold tAd
    rw [hsh, show inR (nI w) 0 100 = true from inR_w (a := 0) (c := 100) (Nat.zero_le _) hw (by omega), show inR (nI rr) 0 50 = true from inR_w (a := 0) (c := 50) (Nat.zero_le _) hr (by omega)]
    show (if (true && (true && true)) = true then (if k < 10 then ((0 : Nat), _) else _) else _).1 = 0
    rw [if_pos (show (true && (true && true)) = true from rfl), if_pos hj]
  · have := key k k1 k2
    subst this
    rw [k4, h2] at e
    refine ⟨mm', n', r', e, ⟨hJ', ?_, ?_, ?_, fun i hi => ?_, fun i hi => ?_⟩, a1, a2, a3⟩
    · rw [k3]; unfold apB; rw [ud_ni (by omega), ud_eq]
    · rw [k3]; unfold apB; rw [ud_eq, h2, nI_s1]
    · rw [k3]; unfold apB
      rw [ud_nc (by omega), ud_nc (by omega), ud_nc (by omega), ud_nc (by omega), ud_nc (by omega), ud_nc (by omega), ud_nc (by omega), ud_nc (by omega), ud_nc (by omega)]; exact h3
    · have e2 : mm' 0 2 i = ud (mm 0) 2 k (mm 0 1 1) 2 i := by
        rw [k3]; unfold apB
        rw [ud_nc (by omega), ud_nc (by omega), ud_nc (by omega), ud_nc (by omega), ud_nc (by omega), ud_nc (by omega), ud_nc (by omega), ud_nc (by omega)]
      rw [e2]
      by_cases ei : i = k
      · subst ei; rw [ud_eq, h2]
      · rw [ud_ni ei]; exact h4 i (by omega)
    · have e8 : ∀ i, mm' 0 8 i = if i = k then 0 else mm 0 8 i := by
        intro i
        rw [k3]; unfold apB
        rw [ud_nc (by omega), ud_nc (by omega)]
        by_cases ei : i = k
        · subst ei; rw [ud_eq, if_pos rfl]
        · rw [ud_ni ei, if_neg ei, ud_nc (by omega), ud_nc (by omega), ud_nc (by omega), ud_nc (by omega), ud_nc (by omega), ud_nc (by omega)]
      by_cases ei : i = k
      · exact rf_0 i (by omega) (by rw [e8, if_pos ei])
      · rw [rf_same (B := mm 0) (by rw [e8, if_neg ei])]; exact h5 i (by omega)
theorem drw_open (hg : GF G fl) {j q : Nat} (hD : DRW mm C j q) (hq : q < 6) {sh : Int32} (hsh : ((sh == 42) || shp sh) = true) {lo hi pay : Nat} (hlo : lo ≤ 100) (hhi : hi ≤ 50) (hp1 : 1 ≤ pay) (hp2 : pay ≤ 99) (n r d : Nat) : ∃ mm' n' r', call G (d + 7) 18 [.ref (ad A 11 0), .int sh, .int (nI lo), .int (nI hi), .int (nI pay)] (S A H mm n r) = vI (nI q) (S A H mm' n' r') ∧ DRW mm' C j (q + 1) ∧ n ≤ n' ∧ n' ≤ n + 1 ∧ r' ≤ r + 6 := by
  obtain ⟨hJ, h1, h2, h3, h4, h5⟩ := hD
  obtain ⟨v, mm', n', r', e, a1, a2, a3, h⟩ := OPR_use hJ (op_18 (A := A) (H := H) (n := n) (r := r) hg hJ sh (nI lo) (nI hi) (nI pay) d)
  have key : ∀ k, mm 0 9 0 = nI k → k ≤ 6 → k = q := fun k hk hk6 => (nI_eq (by omega) (by omega)).mp (hk.symm.trans h3)
  rcases h with ⟨_, ⟨k, k1, k2, k3⟩, _⟩ | ⟨_, hJ', k, k1, k2, k3, k4⟩
  · exfalso
    have := key k k1 k2
    subst this
    refine k3 ?_
    unfold tOp
    rw [hsh, show inR (nI lo) 0 100 = true from inR_w (a := 0) (c := 100) (Nat.zero_le _) hlo (by omega), show inR (nI hi) 0 50 = true from inR_w (a := 0) (c := 50) (Nat.zero_le _) hhi (by omega), show inR (nI pay) 1 99 = true from inR_w (a := 1) (c := 99) hp1 hp2 (by omega)]
    show (if (true && (true && (true && true))) = true then (if k < 6 then ((0 : Nat), _) else _) else _).1 = 0
    rw [if_pos (show (true && (true && (true && true))) = true from rfl), if_pos hq]
  · have := key k k1 k2
    subst this
    rw [k4] at e
    have ec : ∀ c, c < 9 → mm' 0 c = mm 0 c := by
      intro c hc; rw [k3]; unfold apP; rw [ud_nc (by omega), ud_nc (by omega), ud_nc (by omega), ud_nc (by omega), ud_nc (by omega)]
    refine ⟨mm', n', r', e, ⟨hJ', by rw [ec 1 (by omega)]; exact h1, by rw [ec 1 (by omega)]; exact h2, ?_, fun i hi => by rw [ec 2 (by omega)]; exact h4 i hi, fun i hi => ?_⟩, a1, a2, a3⟩
    · rw [k3]; unfold apP; rw [ud_eq]
    · rw [rf_same (B := mm 0) (by rw [ec 8 (by omega)])]; exact h5 i hi
/-- between two of the later changes -/
def DRX (mm : Mm) (C N P : Nat) : Prop := JT mm C 0 BZ ∧ mm 0 1 0 = nI N ∧ mm 0 9 0 = nI P ∧ (∀ i, i < N → mm 0 2 i = nI i) ∧ NSB (mm 0) N
theorem DRX_4 {mm' : Mm} {C' N P : Nat} (h : DRX mm C N P) (hJ : JT mm' C' 0 BZ) (h4 : LV4 (mm 0) (mm' 0)) : DRX mm' C' N P := by
  obtain ⟨_, h1, h2, h3, h5⟩ := h
  obtain ⟨e1, e2, e8, e9⟩ := h4
  exact ⟨hJ, by rw [e1]; exact h1, by rw [e9]; exact h2, fun i hi => by rw [e2]; exact h3 i hi, fun i hi => by rw [rf_same (B := mm 0) (by rw [e8])]; exact h5 i hi⟩
theorem DRX_k {mm' : Mm} {C' N P : Nat} (h : DRX mm C N P) (hJ : JT mm' C' 0 BZ) (e : mm' 0 = mm 0) : DRX mm' C' N P := DRX_4 h hJ ⟨by rw [e], by rw [e], by rw [e], by rw [e]⟩
theorem DRX_fx {N P : Nat} (h : DRX mm C N P) (hN : N ≤ 10) {i : Nat} (hi : i < N) {k : Nat} (hk : mm 0 1 0 = nI k) (hk10 : k ≤ 10) : ¬ fx (mm 0) k (nI i) = none := by
  have : k = N := (nI_eq (by omega) (by omega)).mp (hk.symm.trans h.2.1)
  subst this
  intro e
  have h2 := fst_none e i hi
  rw [h.2.2.2.1 i hi] at h2
  simp at h2
theorem rf_or {B : Bd} {s : Nat → Int32} {k p : Nat} {g : Nat → Nat} (h : CP B s k p g) {b a : Nat} (hb : b < k) (ha : a < k) (hab : a ≠ b) : rfB (ud B 8 b (B 8 b ||| one a)) b b = rfB B b b := by
  have hk := CP_k h
  obtain ⟨V, v1, v2, _⟩ := CP_gv h hb
  unfold rfB
  rw [ud_eq, v2, bt_or V v1 a (by omega)]
  have e1 := bt_ush (V ||| 2 ^ a) (bt_orl v1 (by omega)) b (by omega)
  have e2 := bt_ush V v1 b (by omega)
  rw [e1, e2, bt_orb]
  simp [hab]
/-- what a later change leaves -/
def CHG (A : Nat) (H : Hp) (n r C N P : Nat) (F : Res) : Prop := ∃ v mm' n' r', F = vI v (S A H mm' n' r') ∧ ¬ v = -1 ∧ DRX mm' (C + 2970) N P ∧ n ≤ n' ∧ n' ≤ n + 1 ∧ r' ≤ r + 6
theorem DRX_le {C' N P : Nat} (h : DRX mm C N P) (hC : C ≤ C') : DRX mm C' N P := ⟨JT_le h.1 hC, h.2⟩
theorem nn_m1 {v : Int32} (h : ¬ v < 0) : ¬ v = -1 := fun e => h (by rw [e]; decide)
theorem chg_rf (hg : GF G fl) {N P : Nat} (hD : DRX mm C N P) (hN : N ≤ 10) {a b : Nat} (ha : a < N) (hb : b < N) (n r d : Nat) : CHG A H n r C N P (call G (d + 7) 13 [.ref (ad A 11 0), .int (nI a), .int (nI b)] (S A H mm n r)) := by
  have hJ := hD.1
  obtain ⟨v, mm', n', r', e, a1, a2, a3, h⟩ := OPR_use hJ (op_13 (A := A) (H := H) (n := n) (r := r) hg hJ (nI a) (nI b) d)
  rcases h with ⟨_, hΨ, e0, hJ'⟩ | ⟨hv, hJ', k, i, g, k1, k2, k3, k4, k5, k6⟩
  · refine ⟨v, mm', n', r', e, fun hv => ?_, DRX_le (DRX_k hD hJ' e0) (by omega), a1, a2, a3⟩
    obtain ⟨k, k1, k2, k3⟩ := hΨ hv
    rcases k3 with k3 | k3
    · exact DRX_fx hD hN ha k1 k2 k3
    · exact DRX_fx hD hN hb k1 k2 k3
  · have hk : k = N := (nI_eq (by omega) (by omega)).mp (k1.symm.trans hD.2.1)
    subst hk
    obtain ⟨_, h1, h2, h3, h5⟩ := hD
    have ec : ∀ c, c ≠ 8 → mm' 0 c = mm 0 c := fun c hc => by rw [k6]; exact ud_nc hc
    refine ⟨v, mm', n', r', e, nn_m1 hv, ⟨JT_le hJ' (by omega), by rw [ec 1 (by omega)]; exact h1, by rw [ec 9 (by omega)]; exact h2, fun t ht => by rw [ec 2 (by omega)]; exact h3 t ht, fun t ht => ?_⟩, a1, a2, a3⟩
    obtain ⟨s, k0, p0, g0, u, cp, cb, hn0, hk0, _⟩ := JT_get hJ
    have hkk : k0 = k := (nI_eq (by omega) (by omega)).mp (hn0.symm.trans h1)
    subst hkk
    by_cases et : t = i
    · subst et
      rw [k6, rf_or cp ht k4 k5]; exact h5 t ht
    · rw [rf_same (B := mm 0) (by rw [k6, ud_ni et])]; exact h5 t ht
theorem chg_hi (hg : GF G fl) {N P : Nat} (hD : DRX mm C N P) (hP : P ≤ 6) {q : Nat} (hq : q < P) (x : Int32) (n r d : Nat) : CHG A H n r C N P (call G (d + 7) 29 [.ref (ad A 11 0), .int (nI q), .int x] (S A H mm n r)) := by
  have hJ := hD.1
  obtain ⟨v, mm', n', r', e, a1, a2, a3, h⟩ := OPR_use hJ (op_29 (A := A) (H := H) (n := n) (r := r) hg hJ (nI q) x d)
  rcases h with ⟨_, hΨ, e0, hJ'⟩ | ⟨hv, hJ', h4⟩
  · refine ⟨v, mm', n', r', e, fun hv => ?_, DRX_le (DRX_k hD hJ' e0) (by omega), a1, a2, a3⟩
    obtain ⟨p, p1, p2, p3⟩ := hΨ hv
    have : p = P := (nI_eq (by omega) (by omega)).mp (p1.symm.trans hD.2.2.1)
    subst this
    rw [(inR_nI (by omega)).mpr ⟨q, hq, rfl⟩] at p3; cases p3
  · exact ⟨v, mm', n', r', e, nn_m1 hv, DRX_le (DRX_4 hD hJ' h4) (by omega), a1, a2, a3⟩
theorem chg_hb (hg : GF G fl) {N P : Nat} (hD : DRX mm C N P) (hP : P ≤ 6) {q : Nat} (hq : q < P) (n r d : Nat) : CHG A H n r C N P (call G (d + 7) 30 [.ref (ad A 11 0), .int (nI q)] (S A H mm n r)) := by
  have hJ := hD.1
  obtain ⟨v, mm', n', r', e, a1, a2, a3, h⟩ := OPR_use hJ (op_30 (A := A) (H := H) (n := n) (r := r) hg hJ (nI q) d)
  rcases h with ⟨_, hΨ, e0, hJ'⟩ | ⟨hv, hJ', h4⟩
  · refine ⟨v, mm', n', r', e, fun hv => ?_, DRX_le (DRX_k hD hJ' e0) (by omega), a1, a2, a3⟩
    obtain ⟨p, p1, p2, p3⟩ := hΨ hv
    have : p = P := (nI_eq (by omega) (by omega)).mp (p1.symm.trans hD.2.2.1)
    subst this
    rw [(inR_nI (by omega)).mpr ⟨q, hq, rfl⟩] at p3; cases p3
  · exact ⟨v, mm', n', r', e, nn_m1 hv, DRX_le (DRX_4 hD hJ' h4) (by omega), a1, a2, a3⟩
theorem chg_pd (hg : GF G fl) {N P : Nat} (hD : DRX mm C N P) {t : Nat} (h1 : 1 ≤ t) (h3 : t ≤ 30) (n r d : Nat) : CHG A H n r C N P (call G (d + 7) 32 [.ref (ad A 11 0), .int (nI t)] (S A H mm n r)) := by
  have hJ := hD.1
  obtain ⟨v, mm', n', r', e, a1, a2, a3, h⟩ := OPR_use hJ (op_32 (A := A) (H := H) (n := n) (r := r) hg hJ (nI t) d)
  rcases h with ⟨_, hΨ, e0, hJ'⟩ | ⟨hv, hJ', h4⟩
  · exfalso
    have hΨ' : inR (nI t) 1 30 = false := hΨ
    rw [show inR (nI t) 1 30 = true from inR_w (a := 1) (c := 30) h1 h3 (by omega)] at hΨ'; cases hΨ'
  · exact ⟨v, mm', n', r', e, nn_m1 hv, DRX_4 hD hJ' h4, a1, a2, a3⟩
end
