/-! THE LAW'S LOOP, part 0: the state between two calls. -/
def HE (A : Nat) (H0 H : Hp) : Prop := ∀ q, q < A → H q = H0 q
theorem STR_c {G : Glb} {H H' : Hp} {A a : Nat} {t : List Nat} (h : STR G H A a t) (he : HE A H H') : STR G H' A a t := by
  obtain ⟨h1, h2, h3, va, h4, h5, h6⟩ := h
  exact ⟨h1, h2, h3, va, h4, h5, by rw [he va h4]; exact h6⟩
theorem KN_c {G : Glb} {H H' : Hp} {A : Nat} {kd : Nat → Nat} (h : KN G H A kd) (he : HE A H H') : KN G H' A kd := by
  obtain ⟨⟨ka, h1, h2, ty, fl, h3, h4⟩, h5⟩ := h
  refine ⟨⟨ka, h1, h2, ty, fl, h3, by rw [he ka h2]; exact h4⟩, fun i hi => ?_⟩
  obtain ⟨⟨f, a, b⟩, c⟩ := h5 i hi
  exact ⟨⟨f, a, STR_c b he⟩, c⟩
theorem SW_c {G : Glb} {H H' : Hp} {A : Nat} (h : SW G H A) (he : HE A H H') : SW G H' A := by
  obtain ⟨sw, fl, h1, h2, h3⟩ := h
  exact ⟨sw, fl, h1, h2, by rw [he sw h2]; exact h3⟩
theorem DG_c {G : Glb} {H H' : Hp} {A : Nat} (h : DG G H A) (he : HE A H H') : DG G H' A := by
  obtain ⟨⟨a, fl, h1, h2, h3⟩, a', fl', g1, g2, g3⟩ := h
  exact ⟨⟨a, fl, h1, h2, by rw [he a h1]; exact h3⟩, a', fl', g1, g2, by rw [he a' g1]; exact g3⟩
theorem WS_c {G : Glb} {H H' : Hp} {A : Nat} (h : WS G H A) (he : HE A H H') : WS G H' A := by
  intro i hi
  obtain ⟨a, h1, h2⟩ := h i hi
  exact ⟨a, h1, STR_c h2 he⟩
theorem HE_trans {A : Nat} {H0 H H' : Hp} (h : HE A H0 H) (h' : HE A H H') : HE A H0 H' := fun q hq => (h' q hq).trans (h q hq)
theorem HE_set {A q : Nat} {H : Hp} {c : Cel} (h : A ≤ q) : HE A H (hset H q c) := fun x hx => hset_ne (by omega)
theorem HE_KP {A : Nat} {H H' : Hp} (h : KP A H H') : HE A H H' := fun q hq => h q (Or.inl hq)
/-- what the two outs hold -/
def lC (x : Int64) : Cel := .inl (.long, true, [.long x])
def dC (x : UInt64) : Cel := .inl (.double, true, [.double x])
def LX (A : Nat) (H : Hp) : Prop := (∃ x, H (A + 177) = some (lC x)) ∧ ∃ x, H (A + 178) = some (dC x)
theorem LX_KP {A : Nat} {H H' : Hp} (h : LX A H) (hk : KP A H H') : LX A H' := by
  obtain ⟨⟨x, h1⟩, y, h2⟩ := h
  exact ⟨⟨x, by rw [hk _ (Or.inr (Or.inl rfl))]; exact h1⟩, y, by rw [hk _ (Or.inr (Or.inr rfl))]; exact h2⟩
theorem lC_w {A n r : Nat} {H : Hp} {m : Mm} (h : LX A H) (y : Int64) : aW (S A H m n r) (fun t => t == .long) (A + 177) 0 (.long y) = some (S A (hset H (A + 177) (lC y)) m n r) := by
  obtain ⟨⟨x, h1⟩, _⟩ := h
  have hf : FR A (A + 177) := Or.inl (Nat.le_refl _)
  unfold aW
  rw [S_fr hf, h1]
  show (if ((FieldType.long == .long) = true ∧ ¬ (0 : Int32) < 0 ∧ (0 : Int32).toNatClampNeg < [Value.long x].length) then some (wset (S A H m n r) (A + 177) (.inl (.long, true, [Value.long x].set (0 : Int32).toNatClampNeg (narrow .long (.long y))))) else none) = _
  rw [if_pos ⟨rfl, by decide, by show (0 : Int32).toNatClampNeg < 1; decide⟩]
  exact congrArg some (S_frw (A := A) hf H m n r (lC y))
theorem lC_r {A n r : Nat} {H : Hp} {m : Mm} {y : Int64} (h : H (A + 177) = some (lC y)) : aJ (S A H m n r) (A + 177) 0 = some y := by
  have hf : FR A (A + 177) := Or.inl (Nat.le_refl _)
  unfold aJ aV aL
  rw [S_fr hf, h]
  rfl
def LU (mm : Mm) (D : Bd) (C : Nat) : Prop := ∃ u, u ≤ 8 ∧ mm 11 0 4 = nI u ∧ D 0 5 = nI u ∧ HW (mm 11) ∧ HD (mm 11) ∧ ∀ v, v < u → RE (mm (hix (mm 11) v)) (pst D v) C
def LSv (mm : Mm) (D : Bd) (C : Nat) : Prop := (mm 11 0 5 = 0 ∧ D 0 3 = 0) ∨ (mm 11 0 5 = 1 ∧ D 0 3 = 1 ∧ RE (mm 2) (D 3) C)
def LI (mm : Mm) (D : Bd) : Prop := ∃ L, WZ (mm 11) L ∧ D 0 10 = nI L ∧ ∀ i, i < L → mm 11 12 i = D 6 i
def LEr (x y : Int32) : Prop := (x = -1 ∧ y = -1) ∨ ∃ e, e ≤ 60 ∧ x = nI e ∧ y = nI e
def LO (A : Nat) (H : Hp) (n r : Nat) (D : Bd) (t : Nat) : Prop := ∃ cap tx, OUTP A H n cap D tx ∧ n ≤ A + 179 + cap + 2 * t ∧ r ≤ 3000 + 2 * cap + 70 * t
def LJ (A : Nat) (H0 : Hp) (mm : Mm) (D : Bd) (s : Nat → Int32) (H : Hp) (n r t : Nat) : Prop := mm 12 = us D 1 s ∧ (∃ C, C ≤ 2970 * t ∧ RE (mm 0) s C ∧ LU mm D C ∧ LSv mm D C) ∧ LI mm D ∧ (LEr (mm 11 0 9) (D 0 13) ∧ LEr (mm 11 0 10) (D 0 14)) ∧ LO A H n r D t ∧ HE A H0 H ∧ LX A H
theorem LU_le {mm : Mm} {D : Bd} {C C' : Nat} (h : LU mm D C) (hC : C ≤ C') : LU mm D C' := by
  obtain ⟨u, h1, h2, h3, h4, h5, h6⟩ := h
  exact ⟨u, h1, h2, h3, h4, h5, fun v hv => RE_ext (h6 v hv) (EB_rfl _) (fun _ _ => rfl) hC⟩
theorem LSv_le {mm : Mm} {D : Bd} {C C' : Nat} (h : LSv mm D C) (hC : C ≤ C') : LSv mm D C' := by
  rcases h with h | ⟨h1, h2, h3⟩
  · exact Or.inl h
  · exact Or.inr ⟨h1, h2, RE_ext h3 (EB_rfl _) (fun _ _ => rfl) hC⟩
/-- the same but for what may change in a question -/
def SAME (mm mm1 : Mm) : Prop := (∀ b, b ≠ 1 → b ≠ 11 → b ≠ 12 → mm1 b = mm b) ∧ ∀ c i, c < 3 ∨ 9 ≤ c → mm1 11 c i = mm 11 c i
def SAMD (D D' : Bd) : Prop := (∀ i, i ≠ 6 → i ≠ 11 → i ≠ 12 → i ≠ 16 → D' 0 i = D 0 i) ∧ ∀ c, 3 ≤ c → c < 7 → D' c = D c
def SBK (A : Nat) (H : Hp) (n : Nat) (H' : Hp) (n' : Nat) : Prop := ∀ cap tx, SB A H cap tx n → SB A H' cap tx n'
theorem SAME_rfl (mm : Mm) : SAME mm mm := ⟨fun _ _ _ _ => rfl, fun _ _ _ => rfl⟩
theorem SAME_trans {a b c : Mm} (h : SAME a b) (h' : SAME b c) : SAME a c := ⟨fun x h1 h2 h3 => (h'.1 x h1 h2 h3).trans (h.1 x h1 h2 h3), fun c i hc => (h'.2 c i hc).trans (h.2 c i hc)⟩
theorem SAME_11 {mm : Mm} {X : Bd} (h : ∀ c i, c < 3 ∨ 9 ≤ c → X c i = mm 11 c i) : SAME mm (sb mm 11 X) := ⟨fun b _ h11 _ => sb_ne h11, fun c i hc => by rw [sb_eq]; exact h c i hc⟩
theorem SAME_bg (mm : Mm) : SAME mm (bgM mm) := ⟨fun b h1 _ _ => bg_ne h1, fun c i _ => by rw [bg_ne (by omega)]⟩
theorem SAMD_6 (D : Bd) (v : Int32) : SAMD D (ud D 0 6 v) := ⟨fun i h _ _ _ => ud_ni h, fun c h _ => ud_nc (by omega)⟩
theorem SAMD_k (D : Bd) (s : Nat → Int32) (v : Int32) : SAMD D (ud (kD D s) 0 6 v) := ⟨fun i h _ _ _ => by unfold kD; rw [ud_ni h, us_ne (by omega), ud_ni h], fun c h1 h2 => by unfold kD; rw [ud_nc (by omega), us_ne (by omega), ud_nc (by omega)]⟩
theorem SAMD_rfl (D : Bd) : SAMD D D := ⟨fun _ _ _ _ _ => rfl, fun _ _ _ => rfl⟩
theorem SAMD_trans {a b c : Bd} (h : SAMD a b) (h' : SAMD b c) : SAMD a c := ⟨fun i h1 h2 h3 h4 => (h'.1 i h1 h2 h3 h4).trans (h.1 i h1 h2 h3 h4), fun c h1 h2 => (h'.2 c h1 h2).trans (h.2 c h1 h2)⟩
theorem WZ_c {X Y : Bd} {L : Nat} (h : WZ X L) (h' : ∀ i, Y 11 i = X 11 i) : WZ Y L := by
  obtain ⟨a, b, ⟨x, c, d⟩, y, e, f⟩ := h
  exact ⟨by rw [h']; exact a, b, ⟨x, c, by rw [h']; exact d⟩, y, e, by rw [h']; exact f⟩
theorem HW_c {X Y : Bd} (h : HW X) (h' : ∀ i, Y 1 i = X 1 i) : HW Y := fun i hi => by rw [h']; exact h i hi
theorem HD_c {X Y : Bd} (h : HD X) (h' : ∀ i, Y 1 i = X 1 i) : HD Y := fun i j hi hj hx => h i j hi hj (by rw [← h', ← h']; exact hx)
theorem LJ_same {A : Nat} {H0 : Hp} {mm mm1 : Mm} {D D' : Bd} {s : Nat → Int32} {H H' : Hp} {n r t n' r' t' : Nat} (h : LJ A H0 mm D s H n r t) (hm : SAME mm mm1) (hD : SAMD D D') (hE : HE A H H') (hx : LX A H') (hsb : SBK A H n H' n') (hn : n' + 2 * t ≤ n + 2 * t') (hr : r' + 70 * t ≤ r + 70 * t') (ht : t ≤ t') : LJ A H0 (sb mm1 12 (us D' 1 s)) D' s H' n' r' t' := by
  obtain ⟨h12, ⟨C, hC, hR, hU, hS⟩, hI, ⟨hE1, hE2⟩, ⟨cap, tx, ⟨o1, o2, o3, o4⟩, o5, o6⟩, hHE, hLX⟩ := h
  have m0 : sb mm1 12 (us D' 1 s) 0 = mm 0 := by rw [sb_ne (by omega), hm.1 0 (by omega) (by omega) (by omega)]
  have m2 : sb mm1 12 (us D' 1 s) 2 = mm 2 := by rw [sb_ne (by omega), hm.1 2 (by omega) (by omega) (by omega)]
  have m11 : ∀ c i, c < 3 ∨ 9 ≤ c → sb mm1 12 (us D' 1 s) 11 c i = mm 11 c i := fun c i hc => by rw [sb_ne (by omega)]; exact hm.2 c i hc
  refine ⟨by rw [sb_eq], ⟨C, by omega, by rw [m0]; exact hR, ?_, ?_⟩, ?_, ⟨?_, ?_⟩, ⟨cap, tx, ⟨hsb cap tx o1, o2, ?_, fun i hi => ?_⟩, by omega, by omega⟩, HE_trans hHE hE, hx⟩
  · obtain ⟨u, h1, h2, h3, h4, h5, h6⟩ := hU
    refine ⟨u, h1, by rw [m11 0 4 (by omega)]; exact h2, by rw [hD.1 5 (by omega) (by omega) (by omega) (by omega)]; exact h3, HW_c h4 fun i => m11 1 i (by omega), HD_c h5 fun i => m11 1 i (by omega), fun v hv => ?_⟩
    have e : hix (sb mm1 12 (us D' 1 s) 11) v = hix (mm 11) v := by unfold hix; rw [m11 1 v (by omega)]
    obtain ⟨a1, a2, _⟩ := hix_e h4 (show v < 8 by omega)
    rw [e, sb_ne (by omega), hm.1 _ (by omega) (by omega) (by omega)]
    have := h6 v hv
    unfold pst at this ⊢
    rw [hD.2 4 (by omega) (by omega)]; exact this
  · rcases hS with ⟨h1, h2⟩ | ⟨h1, h2, h3⟩
    · exact Or.inl ⟨by rw [m11 0 5 (by omega)]; exact h1, by rw [hD.1 3 (by omega) (by omega) (by omega) (by omega)]; exact h2⟩
    · exact Or.inr ⟨by rw [m11 0 5 (by omega)]; exact h1, by rw [hD.1 3 (by omega) (by omega) (by omega) (by omega)]; exact h2, by rw [m2, hD.2 3 (by omega) (by omega)]; exact h3⟩
  · obtain ⟨L, h1, h2, h3⟩ := hI
    exact ⟨L, WZ_c h1 fun i => m11 11 i (by omega), by rw [hD.1 10 (by omega) (by omega) (by omega) (by omega)]; exact h2, fun i hi => by rw [m11 12 i (by omega), hD.2 6 (by omega) (by omega)]; exact h3 i hi⟩
  · rw [m11 0 9 (by omega), hD.1 13 (by omega) (by omega) (by omega) (by omega)]; exact hE1
  · rw [m11 0 10 (by omega), hD.1 14 (by omega) (by omega) (by omega) (by omega)]; exact hE2
  · rw [hD.1 8 (by omega) (by omega) (by omega) (by omega)]; exact o3
  · rw [hD.2 5 (by omega) (by omega)]; exact o4 i hi
/-- a change -/
theorem LJ_ch {A : Nat} {H0 : Hp} {mm M : Mm} {D : Bd} {s s' : Nat → Int32} {H H' : Hp} {n r t n' r' u : Nat} {B' : Bd} (h : LJ A H0 mm D s H n r t) (hu : mm 11 0 4 = nI u) (hu8 : u ≤ 8) (hm : ∀ b, b ≠ 0 → b ≠ 1 → b ≠ 11 → b ≠ 12 → M b = mm b) (hm0 : M 0 = B') (hm1 : M 1 = cpB (mm 1) (mm 0)) (hm11 : ∀ c i, c < 3 ∨ 9 ≤ c → M 11 c i = mm 11 c i) (hR' : RE B' s' (2970 * (t + 1))) (hE : HE A H H') (hx : LX A H') (hsb : SBK A H n H' n') (hn : n' ≤ n + 2) (hr : r' ≤ r + 70) : LJ A H0 (sb (fiM M u) 12 (us (enD (kD D s) u) 1 s')) (enD (kD D s) u) s' H' n' r' (t + 1) := by
  obtain ⟨h12, ⟨C, hC, hR, ⟨u', w1, w2, w3, w4, w5, w6⟩, hS⟩, hI, ⟨hE1, hE2⟩, ⟨cap, tx, ⟨o1, o2, o3, o4⟩, o5, o6⟩, hHE, hLX⟩ := h
  have : u' = u := by rw [hu] at w2; exact (nI_inj (by omega) (by omega) w2).symm
  subst this
  have hW : HW (M 11) := HW_c w4 fun i => hm11 1 i (by omega)
  have hDD : HD (M 11) := HD_c w5 fun i => hm11 1 i (by omega)
  have hP : ∀ v, v < u' → RE (M (hix (M 11) v)) (pst D v) (2970 * (t + 1)) := by
    intro v hv
    have e : hix (M 11) v = hix (mm 11) v := by unfold hix; rw [hm11 1 v (by omega)]
    obtain ⟨a1, a2, _⟩ := hix_e w4 (show v < 8 by omega)
    rw [e, hm _ (by omega) (by omega) (by omega) (by omega)]
    exact RE_ext (w6 v hv) (EB_rfl _) (fun _ _ => rfl) (by omega)
  have h0 : RE (M 1) s (2970 * (t + 1)) := by rw [hm1]; exact RE_cp hR (fun _ _ => rfl) (by omega)
  obtain ⟨f1, f2, f3, f4, f5, f6, f7⟩ := fi_HS hW hDD w1 hP h0
  obtain ⟨e1, e2, e3, e4⟩ := en_o (D := D) (s := s) w1
  have n11 : ∀ X, sb (fiM M u') 12 X 11 = fiM M u' 11 := fun X => sb_ne (by omega)
  have c11 : ∀ c i, c ≠ 0 → c ≠ 1 → c < 3 ∨ 9 ≤ c → sb (fiM M u') 12 (us (enD (kD D s) u') 1 s') 11 c i = mm 11 c i := fun c i g0 g1 g2 => by
    rw [n11, f6 c i g0 g1]; exact hm11 c i g2
  have c110 : ∀ i, i ≠ 4 → sb (fiM M u') 12 (us (enD (kD D s) u') 1 s') 11 0 i = mm 11 0 i := fun i hi => by
    rw [n11, f7 i hi]; exact hm11 0 i (by omega)
  have hfu : frU u' < 8 := by unfold frU; split <;> omega
  refine ⟨by rw [sb_eq], ⟨2970 * (t + 1), Nat.le_refl _, ?_, ⟨frU u' + 1, by omega, by rw [n11]; exact f3, e1, by rw [n11]; exact f1, by rw [n11]; exact f2, fun v hv => ?_⟩, ?_⟩, ?_, ⟨?_, ?_⟩, ⟨cap, tx, ⟨hsb cap tx o1, o2, ?_, fun i hi => ?_⟩, by omega, by omega⟩, HE_trans hHE hE, hx⟩
  · rw [sb_ne (by omega), f5 0 (by omega), hm0]; exact hR'
  · obtain ⟨a1, a2, _⟩ := hix_e f1 (show v < 8 by omega)
    rw [n11, sb_ne (by omega)]
    exact RE_ext (f4 v hv) (EB_rfl _) (fun j hj => (en_P w1 hv hj).symm) (Nat.le_refl _)
  · rcases hS with ⟨h1, h2⟩ | ⟨h1, h2, h3⟩
    · exact Or.inl ⟨by rw [c110 5 (by omega)]; exact h1, by rw [e3 3 (by omega) (by omega)]; exact h2⟩
    · refine Or.inr ⟨by rw [c110 5 (by omega)]; exact h1, by rw [e3 3 (by omega) (by omega)]; exact h2, ?_⟩
      rw [sb_ne (by omega), f5 2 (by omega), hm 2 (by omega) (by omega) (by omega) (by omega), e2 3 (by omega) (by omega) (by omega)]
      exact RE_ext h3 (EB_rfl _) (fun _ _ => rfl) (by omega)
  · obtain ⟨L, h1, h2, h3⟩ := hI
    exact ⟨L, WZ_c h1 fun i => c11 11 i (by omega) (by omega) (by omega), by rw [e3 10 (by omega) (by omega)]; exact h2, fun i hi => by rw [c11 12 i (by omega) (by omega) (by omega), e2 6 (by omega) (by omega) (by omega)]; exact h3 i hi⟩
  · rw [c110 9 (by omega), e3 13 (by omega) (by omega)]; exact hE1
  · rw [c110 10 (by omega), e3 14 (by omega) (by omega)]; exact hE2
  · rw [e3 8 (by omega) (by omega)]; exact o3
  · rw [e2 5 (by omega) (by omega) (by omega)]; exact o4 i hi
