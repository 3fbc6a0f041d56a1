/-! THE COMMANDS' TEXT in the class over the picture: what commands do. -/
def kO (B : Bd) : Nat := (B 1 0).toNatClampNeg
def pO (B : Bd) : Nat := (B 9 0).toNatClampNeg
theorem WB_kO {B : Bd} {k p : Nat} (h : WB B k p) : kO B = k ∧ pO B = p := by
  obtain ⟨h1, h2, h3, h4, h5⟩ := h
  unfold kO pO
  rw [h1, h3, nI_clamp (by omega), nI_clamp (by omega)]; exact ⟨rfl, rfl⟩
def swv (i : Nat) : Int32 := if i < 8 then nI (i + 1) else 0
/-- the switch over the kinds -/
def SW (G : Glb) (H : Hp) (A : Nat) : Prop := ∃ sw fl, G 1 417 = some (.ref sw) ∧ sw < A ∧ AK (H sw) .int fl 9 (fun i => .int (swv i))
def pf (B Z : Bd) (k p i : Nat) : Nat × Bd × Bd := match i with
  | 0 => ((tAd B k (Z 11 5) (Z 14 0) (Z 14 1)).1, (tAd B k (Z 11 5) (Z 14 0) (Z 14 1)).2, Z)
  | 1 => ((tLv B k (Z 14 0)).1, (tLv B k (Z 14 0)).2, Z)
  | 2 => ((tOp B p (Z 11 5) (Z 14 0) (Z 14 1) (Z 14 2)).1, (tOp B p (Z 11 5) (Z 14 0) (Z 14 1) (Z 14 2)).2, Z)
  | 3 => ((tCl B k p (Z 14 0)).1, (tCl B k p (Z 14 0)).2, Z)
  | 4 => ((tHi B k p (Z 14 0) (Z 14 1)).1, (tHi B k p (Z 14 0) (Z 14 1)).2, Z)
  | 5 => ((tDi B k p (Z 14 0)).1, (tDi B k p (Z 14 0)).2, Z)
  | 6 => ((tRf B k (Z 14 0) (Z 14 1)).1, (tRf B k (Z 14 0) (Z 14 1)).2, Z)
  | 7 => (0, hhB B (gsB B k p (vac B p k) 60 (X0g Z)) 6, gsB B k p (vac B p k) 60 (X0g Z))
  | _ => (0, dayB B k, Z)
theorem pf_6 {B Z : Bd} {k p i : Nat} : (pf B Z k p i).1 < 6 := by
  unfold pf
  split
  · exact tAd_x.2
  · exact tLv_x.2
  · exact tOp_x.2
  · exact tCl_x.2
  · exact tHi_x.2
  · exact tDi_x.2
  · exact tRf_x.2
  · show (0 : Nat) < 6; omega
  · show (0 : Nat) < 6; omega
theorem pf_WB {B Z : Bd} {k p i : Nat} (h : WB B k p) : ∃ k' p', WB (pf B Z k p i).2.1 k' p' := by
  unfold pf
  split
  · obtain ⟨k', h'⟩ := WB_tAd h (Z 11 5) (Z 14 0) (Z 14 1); exact ⟨_, _, h'⟩
  · obtain ⟨k', h'⟩ := WB_tLv h (Z 14 0); exact ⟨_, _, h'⟩
  · obtain ⟨k', h'⟩ := WB_tOp h (Z 11 5) (Z 14 0) (Z 14 1) (Z 14 2); exact ⟨_, _, h'⟩
  · obtain ⟨k', h'⟩ := WB_tCl h (Z 14 0); exact ⟨_, _, h'⟩
  · exact ⟨_, _, WB_tHi h _ _⟩
  · exact ⟨_, _, WB_tDi h _⟩
  · exact ⟨_, _, WB_tRf h _ _⟩
  · exact ⟨_, _, WB_hh h (HP_gs _ _ (HP_0 _ _)) 6 (Nat.le_refl _)⟩
  · exact ⟨_, _, WB_day h⟩
theorem pf_Z {B Z : Bd} {k p i c : Nat} (h3 : c ≠ 3) (h4 : c ≠ 4) : (pf B Z k p i).2.2 c = Z c := by
  unfold pf
  split <;> first | rfl | skip
  exact (gsB_n h3 h4 _ _).trans (X0g_n h3 h4)
def stO (Z : Bd) : PS := ((Z 11 4).toNatClampNeg, Z 11 5, (Z 11 7).toNatClampNeg, Z 14)
theorem em_self {Z : Bd} {a k : Nat} (h4 : Z 11 4 = nI a) (ha : a < 2 ^ 31) (h7 : Z 11 7 = nI k) (hk : k < 2 ^ 31) : em Z (stO Z) = Z := by
  unfold em stO
  simp only []
  rw [h4, h7, nI_clamp ha, nI_clamp hk, ← h4, ← h7]
  have u : ∀ (B : Bd) (c i : Nat) (v : Int32), B c i = v → ud B c i v = B := by
    intro B c i v hv
    unfold ud
    have : (fun j => if j = i then v else B c j) = B c := by
      funext j; by_cases e : j = i
      · subst e; simp [hv]
      · simp [e]
    rw [this, us_self]
  rw [u Z 11 4 _ rfl, u Z 11 5 _ rfl, u Z 11 7 _ rfl, us_self]
def runC (c : Nat → Int32) (L cc : Nat) : Nat → Bd → Bd → Int32 × Bd × Bd
  | 0 => fun B Z => (-1, B, Z)
  | t + 1 => fun B Z => match (ra c L (Z 13 (cc - (t + 1))).toNatClampNeg 9 (Z 13 (cc - (t + 1))).toNatClampNeg (stO Z)).1 with
    | none => (nI (cc - (t + 1)), B, em Z (ra c L (Z 13 (cc - (t + 1))).toNatClampNeg 9 (Z 13 (cc - (t + 1))).toNatClampNeg (stO Z)).2)
    | some i => if (pf B (em Z (ra c L (Z 13 (cc - (t + 1))).toNatClampNeg 9 (Z 13 (cc - (t + 1))).toNatClampNeg (stO Z)).2) (kO B) (pO B) i).1 = 0 then
        runC c L cc t (pf B (em Z (ra c L (Z 13 (cc - (t + 1))).toNatClampNeg 9 (Z 13 (cc - (t + 1))).toNatClampNeg (stO Z)).2) (kO B) (pO B) i).2.1 (pf B (em Z (ra c L (Z 13 (cc - (t + 1))).toNatClampNeg 9 (Z 13 (cc - (t + 1))).toNatClampNeg (stO Z)).2) (kO B) (pO B) i).2.2
      else (nI (cc - (t + 1)), (pf B (em Z (ra c L (Z 13 (cc - (t + 1))).toNatClampNeg 9 (Z 13 (cc - (t + 1))).toNatClampNeg (stO Z)).2) (kO B) (pO B) i).2.1, (pf B (em Z (ra c L (Z 13 (cc - (t + 1))).toNatClampNeg 9 (Z 13 (cc - (t + 1))).toNatClampNeg (stO Z)).2) (kO B) (pO B) i).2.2)
theorem runC_s (c : Nat → Int32) (L cc t : Nat) (B Z : Bd) : runC c L cc (t + 1) B Z = match (ra c L (Z 13 (cc - (t + 1))).toNatClampNeg 9 (Z 13 (cc - (t + 1))).toNatClampNeg (stO Z)).1 with
    | none => (nI (cc - (t + 1)), B, em Z (ra c L (Z 13 (cc - (t + 1))).toNatClampNeg 9 (Z 13 (cc - (t + 1))).toNatClampNeg (stO Z)).2)
    | some i => if (pf B (em Z (ra c L (Z 13 (cc - (t + 1))).toNatClampNeg 9 (Z 13 (cc - (t + 1))).toNatClampNeg (stO Z)).2) (kO B) (pO B) i).1 = 0 then
        runC c L cc t (pf B (em Z (ra c L (Z 13 (cc - (t + 1))).toNatClampNeg 9 (Z 13 (cc - (t + 1))).toNatClampNeg (stO Z)).2) (kO B) (pO B) i).2.1 (pf B (em Z (ra c L (Z 13 (cc - (t + 1))).toNatClampNeg 9 (Z 13 (cc - (t + 1))).toNatClampNeg (stO Z)).2) (kO B) (pO B) i).2.2
      else (nI (cc - (t + 1)), (pf B (em Z (ra c L (Z 13 (cc - (t + 1))).toNatClampNeg 9 (Z 13 (cc - (t + 1))).toNatClampNeg (stO Z)).2) (kO B) (pO B) i).2.1, (pf B (em Z (ra c L (Z 13 (cc - (t + 1))).toNatClampNeg 9 (Z 13 (cc - (t + 1))).toNatClampNeg (stO Z)).2) (kO B) (pO B) i).2.2) := rfl
/-- the text of the commands holds together -/
def WZ (Z : Bd) (L : Nat) : Prop := Z 11 1 = nI L ∧ L ≤ 60 ∧ (∃ a, a ≤ 60 ∧ Z 11 4 = nI a) ∧ ∃ k, k ≤ 3 ∧ Z 11 7 = nI k
theorem WZ_em {Z : Bd} {L : Nat} (h : WZ Z L) : em Z (stO Z) = Z ∧ (stO Z).2.2.1 ≤ 3 ∧ (stO Z).1 ≤ 60 := by
  obtain ⟨_, _, ⟨a, ha, h4⟩, k, hk, h7⟩ := h
  refine ⟨em_self h4 (by omega) h7 (by omega), ?_, ?_⟩
  · show (Z 11 7).toNatClampNeg ≤ 3
    rw [h7, nI_clamp (by omega)]; exact hk
  · show (Z 11 4).toNatClampNeg ≤ 60
    rw [h4, nI_clamp (by omega)]; exact ha
section
variable {G : Glb} {A n r k p : Nat} {H : Hp} {m : Mm}
theorem s113 {kd : Nat → Nat} {fl : Nat → Nat} (hg : GF G fl) (hk : KN G H A kd) (hs : SW G H A) (hw : WB (m 0) k p) {i : Nat} (hi : i < 9) (d : Nat) : call G (d + 6) 113 [.ref (ad A 11 0), .ref (kd i)] (S A H m n r) = vR (fl (pf (m 0) (m 11) k p i).1) (S A H (sb (sb m 11 (pf (m 0) (m 11) k p i).2.2) 0 (pf (m 0) (m 11) k p i).2.1) n r) := by
  obtain ⟨hn, hk10, hp, hq, hv⟩ := hw
  obtain ⟨sw, fls, hsw1, hsw2, hsw3⟩ := hs
  obtain ⟨_, ho, hm⟩ := hk.2 i hi
  have hrc : rcvG G (S A H m n r) (kd i) 101 = true := by
    unfold rcvG
    show cond (Nat.ble 100 101) (G 2019 (kd i)).isSome _ = true
    exact hm
  have esw : ∀ {β : Type} (K : Int32 → Option β), (aI (S A H m n r) okI sw (nI i)).bind K = K (swv i) := by
    intro β K
    unfold aI; rw [AK_v hsw2 hsw3 rfl hi (by omega)]; rfl
  have e310 : call G (d + 5) 310 [.ref (kd i)] (S A H m n r) = vI (nI i) (S A H m n r) := by rw [b310_e, ho]; rfl
  rw [b113_e]
  simp (disch := first | assumption | omega | (refine sbh ?_ ?_ <;> first | assumption | omega) | (refine sbPV ?_ ?_ <;> first | assumption | omega)) only [rcB0, ↓rfB0_0b, ↓rfB0_1b, ↓rfB0_2b, ↓wfB0_2b, rcB1, ↓rfB1_0b, ↓wfB1_0b, ↓rfB1_1b, ↓wfB1_1b, ↓rfB1_2b, ↓rfB1_3b, ↓rfB1_4b, ↓rfB1_5b, ↓rfB1_6b, ↓rfB1_7b, ↓rfB1_8b, ↓raB2b, ↓waB2b, ↓naB2b, ↓raB3b, ↓waB3b, ↓naB3b, ↓raB4b, ↓waB4b, ↓naB4b, ↓raB5b, ↓waB5b, ↓naB5b, ↓raB6b, ↓waB6b, ↓naB6b, ↓raB7b, ↓waB7b, ↓naB7b, ↓raB8b, ↓waB8b, ↓naB8b, rcB9, ↓rfB9_0b, ↓wfB9_0b, ↓rfB9_1b, ↓rfB9_2b, ↓rfB9_3b, ↓rfB9_4b, ↓raB10b, ↓waB10b, ↓naB10b, ↓raB11b, ↓waB11b, ↓naB11b, ↓raB12b, ↓waB12b, ↓naB12b, ↓raB13b, ↓waB13b, ↓naB13b, rcX0, ↓rfX0_0b, ↓rfX0_1b, ↓rfX0_2b, ↓rfX0_3b, ↓rfX0_4b, ↓wfX0_4b, ↓rfX0_5b, ↓wfX0_5b, ↓rfX0_6b, ↓rfX0_7b, ↓rfX0_8b, ↓rfX0_9b, ↓wfX0_9b, ↓rfX0_10b, ↓wfX0_10b, rcX2, ↓rfX2_0b, ↓rfX2_1b, ↓rfX2_2b, ↓rfX2_3b, ↓rfX2_4b, ↓rfX2_5b, ↓raX3b, ↓waX3b, ↓naX3b, ↓raX4b, ↓waX4b, ↓naX4b, ↓raX5b, ↓waX5b, ↓naX5b, ↓raX6b, ↓waX6b, ↓naX6b, ↓raX7b, ↓waX7b, ↓raX7L0b, ↓waX7L0b, ↓naX7b, ↓raX8b, ↓waX8b, ↓naX8b, rcX11, ↓rfX11_0b, ↓rfX11_1b, ↓wfX11_1b, ↓rfX11_2b, ↓rfX11_3b, ↓wfX11_3b, ↓rfX11_4b, ↓wfX11_4b, ↓rfX11_5b, ↓wfX11_5b, ↓rfX11_6b, ↓rfX11_7b, ↓wfX11_7b, ↓raX12b, ↓waX12b, ↓naX12b, ↓raX13b, ↓waX13b, ↓naX13b, ↓raX14b, ↓waX14b, ↓raX14L0b, ↓waX14L0b, ↓raX14L1b, ↓waX14L1b, ↓raX14L2b, ↓waX14L2b, ↓naX14b, ↓caB2b, ↓caB2Lb, ↓caB3b, ↓caB3Lb, ↓caB4b, ↓caB4Lb, ↓caB5b, ↓caB5Lb, ↓caB6b, ↓caB6Lb, ↓caB7b, ↓caB7Lb, ↓caB8b, ↓caB8Lb, ↓caB10b, ↓caB10Lb, ↓caB11b, ↓caB11Lb, ↓caB12b, ↓caB12Lb, ↓caB13b, ↓caB13Lb, ↓raHb, ↓raH0b, ↓waHb, ↓waH7b, Option.bind_some, cI_ok, cR_ok, cV_ok, cN_ok, cN_nu, cI_ex, cR_ex, cV_ex, gI_sm, gR_sm, sb_eq, sb_sb, wexc_S, ↓reduceIte, eq_self, vI_def, vV_def, vR_def, nI_1, true_and, and_true, hsw1, hrc, e310, ↓esw]
  have hg2 := hg
  obtain ⟨⟨g0, _, _, _, _, _⟩, _, _⟩ := hg2
  have hc : i = 0 ∨ i = 1 ∨ i = 2 ∨ i = 3 ∨ i = 4 ∨ i = 5 ∨ i = 6 ∨ i = 7 ∨ i = 8 := by omega
  rcases hc with e | e | e | e | e | e | e | e | e
  · subst e
    rw [b113_16]
    show run G (d + 6) 113 64 _ [] _ = _
    rw [b113_64]
    simp (disch := first | assumption | omega | (refine sbh ?_ ?_ <;> first | assumption | omega) | (refine sbPV ?_ ?_ <;> first | assumption | omega)) only [rcB0, ↓rfB0_0b, ↓rfB0_1b, ↓rfB0_2b, ↓wfB0_2b, rcB1, ↓rfB1_0b, ↓wfB1_0b, ↓rfB1_1b, ↓wfB1_1b, ↓rfB1_2b, ↓rfB1_3b, ↓rfB1_4b, ↓rfB1_5b, ↓rfB1_6b, ↓rfB1_7b, ↓rfB1_8b, ↓raB2b, ↓waB2b, ↓naB2b, ↓raB3b, ↓waB3b, ↓naB3b, ↓raB4b, ↓waB4b, ↓naB4b, ↓raB5b, ↓waB5b, ↓naB5b, ↓raB6b, ↓waB6b, ↓naB6b, ↓raB7b, ↓waB7b, ↓naB7b, ↓raB8b, ↓waB8b, ↓naB8b, rcB9, ↓rfB9_0b, ↓wfB9_0b, ↓rfB9_1b, ↓rfB9_2b, ↓rfB9_3b, ↓rfB9_4b, ↓raB10b, ↓waB10b, ↓naB10b, ↓raB11b, ↓waB11b, ↓naB11b, ↓raB12b, ↓waB12b, ↓naB12b, ↓raB13b, ↓waB13b, ↓naB13b, rcX0, ↓rfX0_0b, ↓rfX0_1b, ↓rfX0_2b, ↓rfX0_3b, ↓rfX0_4b, ↓wfX0_4b, ↓rfX0_5b, ↓wfX0_5b, ↓rfX0_6b, ↓rfX0_7b, ↓rfX0_8b, ↓rfX0_9b, ↓wfX0_9b, ↓rfX0_10b, ↓wfX0_10b, rcX2, ↓rfX2_0b, ↓rfX2_1b, ↓rfX2_2b, ↓rfX2_3b, ↓rfX2_4b, ↓rfX2_5b, ↓raX3b, ↓waX3b, ↓naX3b, ↓raX4b, ↓waX4b, ↓naX4b, ↓raX5b, ↓waX5b, ↓naX5b, ↓raX6b, ↓waX6b, ↓naX6b, ↓raX7b, ↓waX7b, ↓raX7L0b, ↓waX7L0b, ↓naX7b, ↓raX8b, ↓waX8b, ↓naX8b, rcX11, ↓rfX11_0b, ↓rfX11_1b, ↓wfX11_1b, ↓rfX11_2b, ↓rfX11_3b, ↓wfX11_3b, ↓rfX11_4b, ↓wfX11_4b, ↓rfX11_5b, ↓wfX11_5b, ↓rfX11_6b, ↓rfX11_7b, ↓wfX11_7b, ↓raX12b, ↓waX12b, ↓naX12b, ↓raX13b, ↓waX13b, ↓naX13b, ↓raX14b, ↓waX14b, ↓raX14L0b, ↓waX14L0b, ↓raX14L1b, ↓waX14L1b, ↓raX14L2b, ↓waX14L2b, ↓naX14b, ↓caB2b, ↓caB2Lb, ↓caB3b, ↓caB3Lb, ↓caB4b, ↓caB4Lb, ↓caB5b, ↓caB5Lb, ↓caB6b, ↓caB6Lb, ↓caB7b, ↓caB7Lb, ↓caB8b, ↓caB8Lb, ↓caB10b, ↓caB10Lb, ↓caB11b, ↓caB11Lb, ↓caB12b, ↓caB12Lb, ↓caB13b, ↓caB13Lb, ↓raHb, ↓raH0b, ↓waHb, ↓waH7b, Option.bind_some, cI_ok, cR_ok, cV_ok, cN_ok, cN_nu, cI_ex, cR_ex, cV_ex, gI_sm, gR_sm, sb_eq, sb_sb, wexc_S, ↓reduceIte, eq_self, vI_def, vV_def, vR_def, nI_1, true_and, and_true, ↓s137c, pf, sb_self]
  · subst e
    rw [b113_16]
    show run G (d + 6) 113 85 _ [] _ = _
    rw [b113_85]
    simp (disch := first | assumption | omega | (refine sbh ?_ ?_ <;> first | assumption | omega) | (refine sbPV ?_ ?_ <;> first | assumption | omega)) only [rcB0, ↓rfB0_0b, ↓rfB0_1b, ↓rfB0_2b, ↓wfB0_2b, rcB1, ↓rfB1_0b, ↓wfB1_0b, ↓rfB1_1b, ↓wfB1_1b, ↓rfB1_2b, ↓rfB1_3b, ↓rfB1_4b, ↓rfB1_5b, ↓rfB1_6b, ↓rfB1_7b, ↓rfB1_8b, ↓raB2b, ↓waB2b, ↓naB2b, ↓raB3b, ↓waB3b, ↓naB3b, ↓raB4b, ↓waB4b, ↓naB4b, ↓raB5b, ↓waB5b, ↓naB5b, ↓raB6b, ↓waB6b, ↓naB6b, ↓raB7b, ↓waB7b, ↓naB7b, ↓raB8b, ↓waB8b, ↓naB8b, rcB9, ↓rfB9_0b, ↓wfB9_0b, ↓rfB9_1b, ↓rfB9_2b, ↓rfB9_3b, ↓rfB9_4b, ↓raB10b, ↓waB10b, ↓naB10b, ↓raB11b, ↓waB11b, ↓naB11b, ↓raB12b, ↓waB12b, ↓naB12b, ↓raB13b, ↓waB13b, ↓naB13b, rcX0, ↓rfX0_0b, ↓rfX0_1b, ↓rfX0_2b, ↓rfX0_3b, ↓rfX0_4b, ↓wfX0_4b, ↓rfX0_5b, ↓wfX0_5b, ↓rfX0_6b, ↓rfX0_7b, ↓rfX0_8b, ↓rfX0_9b, ↓wfX0_9b, ↓rfX0_10b, ↓wfX0_10b, rcX2, ↓rfX2_0b, ↓rfX2_1b, ↓rfX2_2b, ↓rfX2_3b, ↓rfX2_4b, ↓rfX2_5b, ↓raX3b, ↓waX3b, ↓naX3b, ↓raX4b, ↓waX4b, ↓naX4b, ↓raX5b, ↓waX5b, ↓naX5b, ↓raX6b, ↓waX6b, ↓naX6b, ↓raX7b, ↓waX7b, ↓raX7L0b, ↓waX7L0b, ↓naX7b, ↓raX8b, ↓waX8b, ↓naX8b, rcX11, ↓rfX11_0b, ↓rfX11_1b, ↓wfX11_1b, ↓rfX11_2b, ↓rfX11_3b, ↓wfX11_3b, ↓rfX11_4b, ↓wfX11_4b, ↓rfX11_5b, ↓wfX11_5b, ↓rfX11_6b, ↓rfX11_7b, ↓wfX11_7b, ↓raX12b, ↓waX12b, ↓naX12b, ↓raX13b, ↓waX13b, ↓naX13b, ↓raX14b, ↓waX14b, ↓raX14L0b, ↓waX14L0b, ↓raX14L1b, ↓waX14L1b, ↓raX14L2b, ↓waX14L2b, ↓naX14b, ↓caB2b, ↓caB2Lb, ↓caB3b, ↓caB3Lb, ↓caB4b, ↓caB4Lb, ↓caB5b, ↓caB5Lb, ↓caB6b, ↓caB6Lb, ↓caB7b, ↓caB7Lb, ↓caB8b, ↓caB8Lb, ↓caB10b, ↓caB10Lb, ↓caB11b, ↓caB11Lb, ↓caB12b, ↓caB12Lb, ↓caB13b, ↓caB13Lb, ↓raHb, ↓raH0b, ↓waHb, ↓waH7b, Option.bind_some, cI_ok, cR_ok, cV_ok, cN_ok, cN_nu, cI_ex, cR_ex, cV_ex, gI_sm, gR_sm, sb_eq, sb_sb, wexc_S, ↓reduceIte, eq_self, vI_def, vV_def, vR_def, nI_1, true_and, and_true, ↓s138c, pf, sb_self]
  · subst e
    rw [b113_16]
    show run G (d + 6) 113 96 _ [] _ = _
    rw [b113_96]
    simp (disch := first | assumption | omega | (refine sbh ?_ ?_ <;> first | assumption | omega) | (refine sbPV ?_ ?_ <;> first | assumption | omega)) only [rcB0, ↓rfB0_0b, ↓rfB0_1b, ↓rfB0_2b, ↓wfB0_2b, rcB1, ↓rfB1_0b, ↓wfB1_0b, ↓rfB1_1b, ↓wfB1_1b, ↓rfB1_2b, ↓rfB1_3b, ↓rfB1_4b, ↓rfB1_5b, ↓rfB1_6b, ↓rfB1_7b, ↓rfB1_8b, ↓raB2b, ↓waB2b, ↓naB2b, ↓raB3b, ↓waB3b, ↓naB3b, ↓raB4b, ↓waB4b, ↓naB4b, ↓raB5b, ↓waB5b, ↓naB5b, ↓raB6b, ↓waB6b, ↓naB6b, ↓raB7b, ↓waB7b, ↓naB7b, ↓raB8b, ↓waB8b, ↓naB8b, rcB9, ↓rfB9_0b, ↓wfB9_0b, ↓rfB9_1b, ↓rfB9_2b, ↓rfB9_3b, ↓rfB9_4b, ↓raB10b, ↓waB10b, ↓naB10b, ↓raB11b, ↓waB11b, ↓naB11b, ↓raB12b, ↓waB12b, ↓naB12b, ↓raB13b, ↓waB13b, ↓naB13b, rcX0, ↓rfX0_0b, ↓rfX0_1b, ↓rfX0_2b, ↓rfX0_3b, ↓rfX0_4b, ↓wfX0_4b, ↓rfX0_5b, ↓wfX0_5b, ↓rfX0_6b, ↓rfX0_7b, ↓rfX0_8b, ↓rfX0_9b, ↓wfX0_9b, ↓rfX0_10b, ↓wfX0_10b, rcX2, ↓rfX2_0b, ↓rfX2_1b, ↓rfX2_2b, ↓rfX2_3b, ↓rfX2_4b, ↓rfX2_5b, ↓raX3b, ↓waX3b, ↓naX3b, ↓raX4b, ↓waX4b, ↓naX4b, ↓raX5b, ↓waX5b, ↓naX5b, ↓raX6b, ↓waX6b, ↓naX6b, ↓raX7b, ↓waX7b, ↓raX7L0b, ↓waX7L0b, ↓naX7b, ↓raX8b, ↓waX8b, ↓naX8b, rcX11, ↓rfX11_0b, ↓rfX11_1b, ↓wfX11_1b, ↓rfX11_2b, ↓rfX11_3b, ↓wfX11_3b, ↓rfX11_4b, ↓wfX11_4b, ↓rfX11_5b, ↓wfX11_5b, ↓rfX11_6b, ↓rfX11_7b, ↓wfX11_7b, ↓raX12b, ↓waX12b, ↓naX12b, ↓raX13b, ↓waX13b, ↓naX13b, ↓raX14b, ↓waX14b, ↓raX14L0b, ↓waX14L0b, ↓raX14L1b, ↓waX14L1b, ↓raX14L2b, ↓waX14L2b, ↓naX14b, ↓caB2b, ↓caB2Lb, ↓caB3b, ↓caB3Lb, ↓caB4b, ↓caB4Lb, ↓caB5b, ↓caB5Lb, ↓caB6b, ↓caB6Lb, ↓caB7b, ↓caB7Lb, ↓caB8b, ↓caB8Lb, ↓caB10b, ↓caB10Lb, ↓caB11b, ↓caB11Lb, ↓caB12b, ↓caB12Lb, ↓caB13b, ↓caB13Lb, ↓raHb, ↓raH0b, ↓waHb, ↓waH7b, Option.bind_some, cI_ok, cR_ok, cV_ok, cN_ok, cN_nu, cI_ex, cR_ex, cV_ex, gI_sm, gR_sm, sb_eq, sb_sb, wexc_S, ↓reduceIte, eq_self, vI_def, vV_def, vR_def, nI_1, true_and, and_true, ↓s141c, pf, sb_self]
  · subst e
    rw [b113_16]
    show run G (d + 6) 113 120 _ [] _ = _
    rw [b113_120]
    simp (disch := first | assumption | omega | (refine sbh ?_ ?_ <;> first | assumption | omega) | (refine sbPV ?_ ?_ <;> first | assumption | omega)) only [rcB0, ↓rfB0_0b, ↓rfB0_1b, ↓rfB0_2b, ↓wfB0_2b, rcB1, ↓rfB1_0b, ↓wfB1_0b, ↓rfB1_1b, ↓wfB1_1b, ↓rfB1_2b, ↓rfB1_3b, ↓rfB1_4b, ↓rfB1_5b, ↓rfB1_6b, ↓rfB1_7b, ↓rfB1_8b, ↓raB2b, ↓waB2b, ↓naB2b, ↓raB3b, ↓waB3b, ↓naB3b, ↓raB4b, ↓waB4b, ↓naB4b, ↓raB5b, ↓waB5b, ↓naB5b, ↓raB6b, ↓waB6b, ↓naB6b, ↓raB7b, ↓waB7b, ↓naB7b, ↓raB8b, ↓waB8b, ↓naB8b, rcB9, ↓rfB9_0b, ↓wfB9_0b, ↓rfB9_1b, ↓rfB9_2b, ↓rfB9_3b, ↓rfB9_4b, ↓raB10b, ↓waB10b, ↓naB10b, ↓raB11b, ↓waB11b, ↓naB11b, ↓raB12b, ↓waB12b, ↓naB12b, ↓raB13b, ↓waB13b, ↓naB13b, rcX0, ↓rfX0_0b, ↓rfX0_1b, ↓rfX0_2b, ↓rfX0_3b, ↓rfX0_4b, ↓wfX0_4b, ↓rfX0_5b, ↓wfX0_5b, ↓rfX0_6b, ↓rfX0_7b, ↓rfX0_8b, ↓rfX0_9b, ↓wfX0_9b, ↓rfX0_10b, ↓wfX0_10b, rcX2, ↓rfX2_0b, ↓rfX2_1b, ↓rfX2_2b, ↓rfX2_3b, ↓rfX2_4b, ↓rfX2_5b, ↓raX3b, ↓waX3b, ↓naX3b, ↓raX4b, ↓waX4b, ↓naX4b, ↓raX5b, ↓waX5b, ↓naX5b, ↓raX6b, ↓waX6b, ↓naX6b, ↓raX7b, ↓waX7b, ↓raX7L0b, ↓waX7L0b, ↓naX7b, ↓raX8b, ↓waX8b, ↓naX8b, rcX11, ↓rfX11_0b, ↓rfX11_1b, ↓wfX11_1b, ↓rfX11_2b, ↓rfX11_3b, ↓wfX11_3b, ↓rfX11_4b, ↓wfX11_4b, ↓rfX11_5b, ↓wfX11_5b, ↓rfX11_6b, ↓rfX11_7b, ↓wfX11_7b, ↓raX12b, ↓waX12b, ↓naX12b, ↓raX13b, ↓waX13b, ↓naX13b, ↓raX14b, ↓waX14b, ↓raX14L0b, ↓waX14L0b, ↓raX14L1b, ↓waX14L1b, ↓raX14L2b, ↓waX14L2b, ↓naX14b, ↓caB2b, ↓caB2Lb, ↓caB3b, ↓caB3Lb, ↓caB4b, ↓caB4Lb, ↓caB5b, ↓caB5Lb, ↓caB6b, ↓caB6Lb, ↓caB7b, ↓caB7Lb, ↓caB8b, ↓caB8Lb, ↓caB10b, ↓caB10Lb, ↓caB11b, ↓caB11Lb, ↓caB12b, ↓caB12Lb, ↓caB13b, ↓caB13Lb, ↓raHb, ↓raH0b, ↓waHb, ↓waH7b, Option.bind_some, cI_ok, cR_ok, cV_ok, cN_ok, cN_nu, cI_ex, cR_ex, cV_ex, gI_sm, gR_sm, sb_eq, sb_sb, wexc_S, ↓reduceIte, eq_self, vI_def, vV_def, vR_def, nI_1, true_and, and_true, ↓s142c, pf, sb_self]
  · subst e
    rw [b113_16]
    show run G (d + 6) 113 131 _ [] _ = _
    rw [b113_131]
    simp (disch := first | assumption | omega | (refine sbh ?_ ?_ <;> first | assumption | omega) | (refine sbPV ?_ ?_ <;> first | assumption | omega)) only [rcB0, ↓rfB0_0b, ↓rfB0_1b, ↓rfB0_2b, ↓wfB0_2b, rcB1, ↓rfB1_0b, ↓wfB1_0b, ↓rfB1_1b, ↓wfB1_1b, ↓rfB1_2b, ↓rfB1_3b, ↓rfB1_4b, ↓rfB1_5b, ↓rfB1_6b, ↓rfB1_7b, ↓rfB1_8b, ↓raB2b, ↓waB2b, ↓naB2b, ↓raB3b, ↓waB3b, ↓naB3b, ↓raB4b, ↓waB4b, ↓naB4b, ↓raB5b, ↓waB5b, ↓naB5b, ↓raB6b, ↓waB6b, ↓naB6b, ↓raB7b, ↓waB7b, ↓naB7b, ↓raB8b, ↓waB8b, ↓naB8b, rcB9, ↓rfB9_0b, ↓wfB9_0b, ↓rfB9_1b, ↓rfB9_2b, ↓rfB9_3b, ↓rfB9_4b, ↓raB10b, ↓waB10b, ↓naB10b, ↓raB11b, ↓waB11b, ↓naB11b, ↓raB12b, ↓waB12b, ↓naB12b, ↓raB13b, ↓waB13b, ↓naB13b, rcX0, ↓rfX0_0b, ↓rfX0_1b, ↓rfX0_2b, ↓rfX0_3b, ↓rfX0_4b, ↓wfX0_4b, ↓rfX0_5b, ↓wfX0_5b, ↓rfX0_6b, ↓rfX0_7b, ↓rfX0_8b, ↓rfX0_9b, ↓wfX0_9b, ↓rfX0_10b, ↓wfX0_10b, rcX2, ↓rfX2_0b, ↓rfX2_1b, ↓rfX2_2b, ↓rfX2_3b, ↓rfX2_4b, ↓rfX2_5b, ↓raX3b, ↓waX3b, ↓naX3b, ↓raX4b, ↓waX4b, ↓naX4b, ↓raX5b, ↓waX5b, ↓naX5b, ↓raX6b, ↓waX6b, ↓naX6b, ↓raX7b, ↓waX7b, ↓raX7L0b, ↓waX7L0b, ↓naX7b, ↓raX8b, ↓waX8b, ↓naX8b, rcX11, ↓rfX11_0b, ↓rfX11_1b, ↓wfX11_1b, ↓rfX11_2b, ↓rfX11_3b, ↓wfX11_3b, ↓rfX11_4b, ↓wfX11_4b, ↓rfX11_5b, ↓wfX11_5b, ↓rfX11_6b, ↓rfX11_7b, ↓wfX11_7b, ↓raX12b, ↓waX12b, ↓naX12b, ↓raX13b, ↓waX13b, ↓naX13b, ↓raX14b, ↓waX14b, ↓raX14L0b, ↓waX14L0b, ↓raX14L1b, ↓waX14L1b, ↓raX14L2b, ↓waX14L2b, ↓naX14b, ↓caB2b, ↓caB2Lb, ↓caB3b, ↓caB3Lb, ↓caB4b, ↓caB4Lb, ↓caB5b, ↓caB5Lb, ↓caB6b, ↓caB6Lb, ↓caB7b, ↓caB7Lb, ↓caB8b, ↓caB8Lb, ↓caB10b, ↓caB10Lb, ↓caB11b, ↓caB11Lb, ↓caB12b, ↓caB12Lb, ↓caB13b, ↓caB13Lb, ↓raHb, ↓raH0b, ↓waHb, ↓waH7b, Option.bind_some, cI_ok, cR_ok, cV_ok, cN_ok, cN_nu, cI_ex, cR_ex, cV_ex, gI_sm, gR_sm, sb_eq, sb_sb, wexc_S, ↓reduceIte, eq_self, vI_def, vV_def, vR_def, nI_1, true_and, and_true, ↓s143c, pf, sb_self]
  · subst e
    rw [b113_16]
    show run G (d + 6) 113 145 _ [] _ = _
    rw [b113_145]
    simp (disch := first | assumption | omega | (refine sbh ?_ ?_ <;> first | assumption | omega) | (refine sbPV ?_ ?_ <;> first | assumption | omega)) only [rcB0, ↓rfB0_0b, ↓rfB0_1b, ↓rfB0_2b, ↓wfB0_2b, rcB1, ↓rfB1_0b, ↓wfB1_0b, ↓rfB1_1b, ↓wfB1_1b, ↓rfB1_2b, ↓rfB1_3b, ↓rfB1_4b, ↓rfB1_5b, ↓rfB1_6b, ↓rfB1_7b, ↓rfB1_8b, ↓raB2b, ↓waB2b, ↓naB2b, ↓raB3b, ↓waB3b, ↓naB3b, ↓raB4b, ↓waB4b, ↓naB4b, ↓raB5b, ↓waB5b, ↓naB5b, ↓raB6b, ↓waB6b, ↓naB6b, ↓raB7b, ↓waB7b, ↓naB7b, ↓raB8b, ↓waB8b, ↓naB8b, rcB9, ↓rfB9_0b, ↓wfB9_0b, ↓rfB9_1b, ↓rfB9_2b, ↓rfB9_3b, ↓rfB9_4b, ↓raB10b, ↓waB10b, ↓naB10b, ↓raB11b, ↓waB11b, ↓naB11b, ↓raB12b, ↓waB12b, ↓naB12b, ↓raB13b, ↓waB13b, ↓naB13b, rcX0, ↓rfX0_0b, ↓rfX0_1b, ↓rfX0_2b, ↓rfX0_3b, ↓rfX0_4b, ↓wfX0_4b, ↓rfX0_5b, ↓wfX0_5b, ↓rfX0_6b, ↓rfX0_7b, ↓rfX0_8b, ↓rfX0_9b, ↓wfX0_9b, ↓rfX0_10b, ↓wfX0_10b, rcX2, ↓rfX2_0b, ↓rfX2_1b, ↓rfX2_2b, ↓rfX2_3b, ↓rfX2_4b, ↓rfX2_5b, ↓raX3b, ↓waX3b, ↓naX3b, ↓raX4b, ↓waX4b, ↓naX4b, ↓raX5b, ↓waX5b, ↓naX5b, ↓raX6b, ↓waX6b, ↓naX6b, ↓raX7b, ↓waX7b, ↓raX7L0b, ↓waX7L0b, ↓naX7b, ↓raX8b, ↓waX8b, ↓naX8b, rcX11, ↓rfX11_0b, ↓rfX11_1b, ↓wfX11_1b, ↓rfX11_2b, ↓rfX11_3b, ↓wfX11_3b, ↓rfX11_4b, ↓wfX11_4b, ↓rfX11_5b, ↓wfX11_5b, ↓rfX11_6b, ↓rfX11_7b, ↓wfX11_7b, ↓raX12b, ↓waX12b, ↓naX12b, ↓raX13b, ↓waX13b, ↓naX13b, ↓raX14b, ↓waX14b, ↓raX14L0b, ↓waX14L0b, ↓raX14L1b, ↓waX14L1b, ↓raX14L2b, ↓waX14L2b, ↓naX14b, ↓caB2b, ↓caB2Lb, ↓caB3b, ↓caB3Lb, ↓caB4b, ↓caB4Lb, ↓caB5b, ↓caB5Lb, ↓caB6b, ↓caB6Lb, ↓caB7b, ↓caB7Lb, ↓caB8b, ↓caB8Lb, ↓caB10b, ↓caB10Lb, ↓caB11b, ↓caB11Lb, ↓caB12b, ↓caB12Lb, ↓caB13b, ↓caB13Lb, ↓raHb, ↓raH0b, ↓waHb, ↓waH7b, Option.bind_some, cI_ok, cR_ok, cV_ok, cN_ok, cN_nu, cI_ex, cR_ex, cV_ex, gI_sm, gR_sm, sb_eq, sb_sb, wexc_S, ↓reduceIte, eq_self, vI_def, vV_def, vR_def, nI_1, true_and, and_true, ↓s144c, pf, sb_self]
  · subst e
    rw [b113_16]
    show run G (d + 6) 113 156 _ [] _ = _
    rw [b113_156]
    simp (disch := first | assumption | omega | (refine sbh ?_ ?_ <;> first | assumption | omega) | (refine sbPV ?_ ?_ <;> first | assumption | omega)) only [rcB0, ↓rfB0_0b, ↓rfB0_1b, ↓rfB0_2b, ↓wfB0_2b, rcB1, ↓rfB1_0b, ↓wfB1_0b, ↓rfB1_1b, ↓wfB1_1b, ↓rfB1_2b, ↓rfB1_3b, ↓rfB1_4b, ↓rfB1_5b, ↓rfB1_6b, ↓rfB1_7b, ↓rfB1_8b, ↓raB2b, ↓waB2b, ↓naB2b, ↓raB3b, ↓waB3b, ↓naB3b, ↓raB4b, ↓waB4b, ↓naB4b, ↓raB5b, ↓waB5b, ↓naB5b, ↓raB6b, ↓waB6b, ↓naB6b, ↓raB7b, ↓waB7b, ↓naB7b, ↓raB8b, ↓waB8b, ↓naB8b, rcB9, ↓rfB9_0b, ↓wfB9_0b, ↓rfB9_1b, ↓rfB9_2b, ↓rfB9_3b, ↓rfB9_4b, ↓raB10b, ↓waB10b, ↓naB10b, ↓raB11b, ↓waB11b, ↓naB11b, ↓raB12b, ↓waB12b, ↓naB12b, ↓raB13b, ↓waB13b, ↓naB13b, rcX0, ↓rfX0_0b, ↓rfX0_1b, ↓rfX0_2b, ↓rfX0_3b, ↓rfX0_4b, ↓wfX0_4b, ↓rfX0_5b, ↓wfX0_5b, ↓rfX0_6b, ↓rfX0_7b, ↓rfX0_8b, ↓rfX0_9b, ↓wfX0_9b, ↓rfX0_10b, ↓wfX0_10b, rcX2, ↓rfX2_0b, ↓rfX2_1b, ↓rfX2_2b, ↓rfX2_3b, ↓rfX2_4b, ↓rfX2_5b, ↓raX3b, ↓waX3b, ↓naX3b, ↓raX4b, ↓waX4b, ↓naX4b, ↓raX5b, ↓waX5b, ↓naX5b, ↓raX6b, ↓waX6b, ↓naX6b, ↓raX7b, ↓waX7b, ↓raX7L0b, ↓waX7L0b, ↓naX7b, ↓raX8b, ↓waX8b, ↓naX8b, rcX11, ↓rfX11_0b, ↓rfX11_1b, ↓wfX11_1b, ↓rfX11_2b, ↓rfX11_3b, ↓wfX11_3b, ↓rfX11_4b, ↓wfX11_4b, ↓rfX11_5b, ↓wfX11_5b, ↓rfX11_6b, ↓rfX11_7b, ↓wfX11_7b, ↓raX12b, ↓waX12b, ↓naX12b, ↓raX13b, ↓waX13b, ↓naX13b, ↓raX14b, ↓waX14b, ↓raX14L0b, ↓waX14L0b, ↓raX14L1b, ↓waX14L1b, ↓raX14L2b, ↓waX14L2b, ↓naX14b, ↓caB2b, ↓caB2Lb, ↓caB3b, ↓caB3Lb, ↓caB4b, ↓caB4Lb, ↓caB5b, ↓caB5Lb, ↓caB6b, ↓caB6Lb, ↓caB7b, ↓caB7Lb, ↓caB8b, ↓caB8Lb, ↓caB10b, ↓caB10Lb, ↓caB11b, ↓caB11Lb, ↓caB12b, ↓caB12Lb, ↓caB13b, ↓caB13Lb, ↓raHb, ↓raH0b, ↓waHb, ↓waH7b, Option.bind_some, cI_ok, cR_ok, cV_ok, cN_ok, cN_nu, cI_ex, cR_ex, cV_ex, gI_sm, gR_sm, sb_eq, sb_sb, wexc_S, ↓reduceIte, eq_self, vI_def, vV_def, vR_def, nI_1, true_and, and_true, ↓s139c, pf, sb_self]
  · subst e
    rw [b113_16]
    show run G (d + 6) 113 170 _ [] _ = _
    rw [b113_170]
    simp (disch := first | assumption | omega | (refine sbh ?_ ?_ <;> first | assumption | omega) | (refine sbPV ?_ ?_ <;> first | assumption | omega)) only [rcB0, ↓rfB0_0b, ↓rfB0_1b, ↓rfB0_2b, ↓wfB0_2b, rcB1, ↓rfB1_0b, ↓wfB1_0b, ↓rfB1_1b, ↓wfB1_1b, ↓rfB1_2b, ↓rfB1_3b, ↓rfB1_4b, ↓rfB1_5b, ↓rfB1_6b, ↓rfB1_7b, ↓rfB1_8b, ↓raB2b, ↓waB2b, ↓naB2b, ↓raB3b, ↓waB3b, ↓naB3b, ↓raB4b, ↓waB4b, ↓naB4b, ↓raB5b, ↓waB5b, ↓naB5b, ↓raB6b, ↓waB6b, ↓naB6b, ↓raB7b, ↓waB7b, ↓naB7b, ↓raB8b, ↓waB8b, ↓naB8b, rcB9, ↓rfB9_0b, ↓wfB9_0b, ↓rfB9_1b, ↓rfB9_2b, ↓rfB9_3b, ↓rfB9_4b, ↓raB10b, ↓waB10b, ↓naB10b, ↓raB11b, ↓waB11b, ↓naB11b, ↓raB12b, ↓waB12b, ↓naB12b, ↓raB13b, ↓waB13b, ↓naB13b, rcX0, ↓rfX0_0b, ↓rfX0_1b, ↓rfX0_2b, ↓rfX0_3b, ↓rfX0_4b, ↓wfX0_4b, ↓rfX0_5b, ↓wfX0_5b, ↓rfX0_6b, ↓rfX0_7b, ↓rfX0_8b, ↓rfX0_9b, ↓wfX0_9b, ↓rfX0_10b, ↓wfX0_10b, rcX2, ↓rfX2_0b, ↓rfX2_1b, ↓rfX2_2b, ↓rfX2_3b, ↓rfX2_4b, ↓rfX2_5b, ↓raX3b, ↓waX3b, ↓naX3b, ↓raX4b, ↓waX4b, ↓naX4b, ↓raX5b, ↓waX5b, ↓naX5b, ↓raX6b, ↓waX6b, ↓naX6b, ↓raX7b, ↓waX7b, ↓raX7L0b, ↓waX7L0b, ↓naX7b, ↓raX8b, ↓waX8b, ↓naX8b, rcX11, ↓rfX11_0b, ↓rfX11_1b, ↓wfX11_1b, ↓rfX11_2b, ↓rfX11_3b, ↓wfX11_3b, ↓rfX11_4b, ↓wfX11_4b, ↓rfX11_5b, ↓wfX11_5b, ↓rfX11_6b, ↓rfX11_7b, ↓wfX11_7b, ↓raX12b, ↓waX12b, ↓naX12b, ↓raX13b, ↓waX13b, ↓naX13b, ↓raX14b, ↓waX14b, ↓raX14L0b, ↓waX14L0b, ↓raX14L1b, ↓waX14L1b, ↓raX14L2b, ↓waX14L2b, ↓naX14b, ↓caB2b, ↓caB2Lb, ↓caB3b, ↓caB3Lb, ↓caB4b, ↓caB4Lb, ↓caB5b, ↓caB5Lb, ↓caB6b, ↓caB6Lb, ↓caB7b, ↓caB7Lb, ↓caB8b, ↓caB8Lb, ↓caB10b, ↓caB10Lb, ↓caB11b, ↓caB11Lb, ↓caB12b, ↓caB12Lb, ↓caB13b, ↓caB13Lb, ↓raHb, ↓raH0b, ↓waHb, ↓waH7b, Option.bind_some, cI_ok, cR_ok, cV_ok, cN_ok, cN_nu, cI_ex, cR_ex, cV_ex, gI_sm, gR_sm, sb_eq, sb_sb, wexc_S, ↓reduceIte, eq_self, vI_def, vV_def, vR_def, nI_1, true_and, and_true, ↓s166c, g0, pf]
  · subst e
    rw [b113_16]
    show run G (d + 6) 113 186 _ [] _ = _
    rw [b113_186]
    simp (disch := first | assumption | omega | (refine sbh ?_ ?_ <;> first | assumption | omega) | (refine sbPV ?_ ?_ <;> first | assumption | omega)) only [rcB0, ↓rfB0_0b, ↓rfB0_1b, ↓rfB0_2b, ↓wfB0_2b, rcB1, ↓rfB1_0b, ↓wfB1_0b, ↓rfB1_1b, ↓wfB1_1b, ↓rfB1_2b, ↓rfB1_3b, ↓rfB1_4b, ↓rfB1_5b, ↓rfB1_6b, ↓rfB1_7b, ↓rfB1_8b, ↓raB2b, ↓waB2b, ↓naB2b, ↓raB3b, ↓waB3b, ↓naB3b, ↓raB4b, ↓waB4b, ↓naB4b, ↓raB5b, ↓waB5b, ↓naB5b, ↓raB6b, ↓waB6b, ↓naB6b, ↓raB7b, ↓waB7b, ↓naB7b, ↓raB8b, ↓waB8b, ↓naB8b, rcB9, ↓rfB9_0b, ↓wfB9_0b, ↓rfB9_1b, ↓rfB9_2b, ↓rfB9_3b, ↓rfB9_4b, ↓raB10b, ↓waB10b, ↓naB10b, ↓raB11b, ↓waB11b, ↓naB11b, ↓raB12b, ↓waB12b, ↓naB12b, ↓raB13b, ↓waB13b, ↓naB13b, rcX0, ↓rfX0_0b, ↓rfX0_1b, ↓rfX0_2b, ↓rfX0_3b, ↓rfX0_4b, ↓wfX0_4b, ↓rfX0_5b, ↓wfX0_5b, ↓rfX0_6b, ↓rfX0_7b, ↓rfX0_8b, ↓rfX0_9b, ↓wfX0_9b, ↓rfX0_10b, ↓wfX0_10b, rcX2, ↓rfX2_0b, ↓rfX2_1b, ↓rfX2_2b, ↓rfX2_3b, ↓rfX2_4b, ↓rfX2_5b, ↓raX3b, ↓waX3b, ↓naX3b, ↓raX4b, ↓waX4b, ↓naX4b, ↓raX5b, ↓waX5b, ↓naX5b, ↓raX6b, ↓waX6b, ↓naX6b, ↓raX7b, ↓waX7b, ↓raX7L0b, ↓waX7L0b, ↓naX7b, ↓raX8b, ↓waX8b, ↓naX8b, rcX11, ↓rfX11_0b, ↓rfX11_1b, ↓wfX11_1b, ↓rfX11_2b, ↓rfX11_3b, ↓wfX11_3b, ↓rfX11_4b, ↓wfX11_4b, ↓rfX11_5b, ↓wfX11_5b, ↓rfX11_6b, ↓rfX11_7b, ↓wfX11_7b, ↓raX12b, ↓waX12b, ↓naX12b, ↓raX13b, ↓waX13b, ↓naX13b, ↓raX14b, ↓waX14b, ↓raX14L0b, ↓waX14L0b, ↓raX14L1b, ↓waX14L1b, ↓raX14L2b, ↓waX14L2b, ↓naX14b, ↓caB2b, ↓caB2Lb, ↓caB3b, ↓caB3Lb, ↓caB4b, ↓caB4Lb, ↓caB5b, ↓caB5Lb, ↓caB6b, ↓caB6Lb, ↓caB7b, ↓caB7Lb, ↓caB8b, ↓caB8Lb, ↓caB10b, ↓caB10Lb, ↓caB11b, ↓caB11Lb, ↓caB12b, ↓caB12Lb, ↓caB13b, ↓caB13Lb, ↓raHb, ↓raH0b, ↓waHb, ↓waH7b, Option.bind_some, cI_ok, cR_ok, cV_ok, cN_ok, cN_nu, cI_ex, cR_ex, cV_ex, gI_sm, gR_sm, sb_eq, sb_sb, wexc_S, ↓reduceIte, eq_self, vI_def, vV_def, vR_def, nI_1, true_and, and_true, ↓s145c, g0, pf, sb_self]
theorem s113c {kd : Nat → Nat} {fl : Nat → Nat} (hg : GF G fl) (hk : KN G H A kd) (hs : SW G H A) (hw : WB (m 0) k p) {i : Nat} (hi : i < 9) (d : Nat) (K : Nat → St → Res) : cR (call G (d + 6) 113 [.ref (ad A 11 0), .ref (kd i)] (S A H m n r)) K = K (fl (pf (m 0) (m 11) k p i).1) (S A H (sb (sb m 11 (pf (m 0) (m 11) k p i).2.2) 0 (pf (m 0) (m 11) k p i).2.1) n r) := congrArg (fun z => cR z K) (show call G (d + 6) 113 [.ref (ad A 11 0), .ref (kd i)] (S A H m n r) = vR (fl (pf (m 0) (m 11) k p i).1) (S A H (sb (sb m 11 (pf (m 0) (m 11) k p i).2.2) 0 (pf (m 0) (m 11) k p i).2.1) n r) from by apply s113 <;> assumption)
theorem s112 (hgs : GS G) {kd : Nat → Nat} {fl : Nat → Nat} (hg : GF G fl) (hk : KN G H A kd) (hs : SW G H A) (hw : WB (m 0) k p) {L cc : Nat} (hz : WZ (m 11) L) (hcc : m 11 11 3 = nI cc) (hcc60 : cc ≤ 60) (hst : ∀ i, i < cc → ∃ a, a ≤ L ∧ m 11 13 i = nI a) (d : Nat) : call G (d + 7) 112 [.ref (ad A 11 0)] (S A H m n r) = vI (runC (cX (m 11)) L cc cc (m 0) (m 11)).1 (S A H (sb (sb m 11 (runC (cX (m 11)) L cc cc (m 0) (m 11)).2.2) 0 (runC (cX (m 11)) L cc cc (m 0) (m 11)).2.1) n r) := by
  have lp : ∀ (t i : Nat) (B Z : Bd), i + t = cc → (∃ k p, WB B k p) → WZ Z L → (∀ j, Z 12 j = m 11 12 j) → (∀ j, Z 13 j = m 11 13 j) → (∀ j, j ≠ 1 → j ≠ 4 → j ≠ 5 → j ≠ 7 → Z 11 j = m 11 11 j) → ∀ o2, run G (d + 7) 112 2 [some (.ref (ad A 11 0)), some (.int (nI i)), o2] [] (S A H (sb (sb m 11 Z) 0 B) n r) = vI (runC (cX (m 11)) L cc t B Z).1 (S A H (sb (sb m 11 (runC (cX (m 11)) L cc t B Z).2.2) 0 (runC (cX (m 11)) L cc t B Z).2.1) n r) := by
    intro t
    induction t with
    | zero =>
      intro i B Z hi hB hZ h12 h13 h11 o2
      have : i = cc := by omega
      subst this
      have h3 : Z 11 3 = nI i := by rw [h11 3 (by omega) (by omega) (by omega) (by omega)]; exact hcc
      rw [b112_2, runC]
      simp (disch := first | assumption | omega | (refine sbh ?_ ?_ <;> first | assumption | omega) | (refine sbPV ?_ ?_ <;> first | assumption | omega)) only [rcB0, ↓rfB0_0b, ↓rfB0_1b, ↓rfB0_2b, ↓wfB0_2b, rcB1, ↓rfB1_0b, ↓wfB1_0b, ↓rfB1_1b, ↓wfB1_1b, ↓rfB1_2b, ↓rfB1_3b, ↓rfB1_4b, ↓rfB1_5b, ↓rfB1_6b, ↓rfB1_7b, ↓rfB1_8b, ↓raB2b, ↓waB2b, ↓naB2b, ↓raB3b, ↓waB3b, ↓naB3b, ↓raB4b, ↓waB4b, ↓naB4b, ↓raB5b, ↓waB5b, ↓naB5b, ↓raB6b, ↓waB6b, ↓naB6b, ↓raB7b, ↓waB7b, ↓naB7b, ↓raB8b, ↓waB8b, ↓naB8b, rcB9, ↓rfB9_0b, ↓wfB9_0b, ↓rfB9_1b, ↓rfB9_2b, ↓rfB9_3b, ↓rfB9_4b, ↓raB10b, ↓waB10b, ↓naB10b, ↓raB11b, ↓waB11b, ↓naB11b, ↓raB12b, ↓waB12b, ↓naB12b, ↓raB13b, ↓waB13b, ↓naB13b, rcX0, ↓rfX0_0b, ↓rfX0_1b, ↓rfX0_2b, ↓rfX0_3b, ↓rfX0_4b, ↓wfX0_4b, ↓rfX0_5b, ↓wfX0_5b, ↓rfX0_6b, ↓rfX0_7b, ↓rfX0_8b, ↓rfX0_9b, ↓wfX0_9b, ↓rfX0_10b, ↓wfX0_10b, rcX2, ↓rfX2_0b, ↓rfX2_1b, ↓rfX2_2b, ↓rfX2_3b, ↓rfX2_4b, ↓rfX2_5b, ↓raX3b, ↓waX3b, ↓naX3b, ↓raX4b, ↓waX4b, ↓naX4b, ↓raX5b, ↓waX5b, ↓naX5b, ↓raX6b, ↓waX6b, ↓naX6b, ↓raX7b, ↓waX7b, ↓raX7L0b, ↓waX7L0b, ↓naX7b, ↓raX8b, ↓waX8b, ↓naX8b, rcX11, ↓rfX11_0b, ↓rfX11_1b, ↓wfX11_1b, ↓rfX11_2b, ↓rfX11_3b, ↓wfX11_3b, ↓rfX11_4b, ↓wfX11_4b, ↓rfX11_5b, ↓wfX11_5b, ↓rfX11_6b, ↓rfX11_7b, ↓wfX11_7b, ↓raX12b, ↓waX12b, ↓naX12b, ↓raX13b, ↓waX13b, ↓naX13b, ↓raX14b, ↓waX14b, ↓raX14L0b, ↓waX14L0b, ↓raX14L1b, ↓waX14L1b, ↓raX14L2b, ↓waX14L2b, ↓naX14b, ↓caB2b, ↓caB2Lb, ↓caB3b, ↓caB3Lb, ↓caB4b, ↓caB4Lb, ↓caB5b, ↓caB5Lb, ↓caB6b, ↓caB6Lb, ↓caB7b, ↓caB7Lb, ↓caB8b, ↓caB8Lb, ↓caB10b, ↓caB10Lb, ↓caB11b, ↓caB11Lb, ↓caB12b, ↓caB12Lb, ↓caB13b, ↓caB13Lb, ↓raHb, ↓raH0b, ↓waHb, ↓waH7b, Option.bind_some, cI_ok, cR_ok, cV_ok, cN_ok, cN_nu, cI_ex, cR_ex, cV_ex, gI_sm, gR_sm, sb_eq, sb_sb, wexc_S, ↓reduceIte, eq_self, vI_def, vV_def, vR_def, nI_1, true_and, and_true, sb_ne, h3, nI_leI, Nat.le_refl]
    | succ t ih =>
      intro i B Z hi hB hZ h12 h13 h11 o2
      have h3 : Z 11 3 = nI cc := by rw [h11 3 (by omega) (by omega) (by omega) (by omega)]; exact hcc
      have hi' : ¬ cc ≤ i := by omega
      have ei : cc - (t + 1) = i := by omega
      obtain ⟨a, ha, hsa⟩ := hst i (by omega)
      have hsa' : Z 13 i = nI a := by rw [h13]; exact hsa
      have ec : cX Z = cX (m 11) := by funext j; unfold cX; rw [h12]
      obtain ⟨ez1, ez2, ez3⟩ := WZ_em hZ
      have hL := hZ.1
      have hL60 := hZ.2.1
      have e158 := s158 (G := G) (A := A) (n := n) (r := r) (H := H) (m := sb (sb m 11 Z) 0 B) (X := Z) (st := stO Z) (L := L) hgs hk hL hL60 h3 hcc60 (i := i) (by omega) hsa' ha ez2 d
      rw [ez1, ec] at e158
      have em1 : sb (sb (sb m 11 Z) 0 B) 11 Z = sb (sb m 11 Z) 0 B := by
        have : Z = sb (sb m 11 Z) 0 B 11 := by rw [sb_ne (by omega), sb_eq]
        exact (congrArg (sb (sb (sb m 11 Z) 0 B) 11) this).trans (sb_self _ _)
      rw [em1] at e158
      obtain ⟨l1, l2⟩ := ra_le (c := cX (m 11)) (a := a) ha 9 a (stO Z) ha ez2
      rw [b112_2, runC_s, ei, hsa', nI_clamp (by omega)]
      have ecm : ∀ Y, sb (sb (sb m 11 Z) 0 B) 11 Y = sb (sb m 11 Y) 0 B := by
        intro Y
        funext x; unfold sb
        by_cases x0 : x = 0
        · simp [x0]
        · by_cases x1 : x = 11 <;> simp [x0, x1]
      rw [ecm] at e158
      cases hr : (ra (cX (m 11)) L a 9 a (stO Z)).1 with
      | none =>
        rw [hr] at e158
        simp (disch := first | assumption | omega | (refine sbh ?_ ?_ <;> first | assumption | omega) | (refine sbPV ?_ ?_ <;> first | assumption | omega)) only [rcB0, ↓rfB0_0b, ↓rfB0_1b, ↓rfB0_2b, ↓wfB0_2b, rcB1, ↓rfB1_0b, ↓wfB1_0b, ↓rfB1_1b, ↓wfB1_1b, ↓rfB1_2b, ↓rfB1_3b, ↓rfB1_4b, ↓rfB1_5b, ↓rfB1_6b, ↓rfB1_7b, ↓rfB1_8b, ↓raB2b, ↓waB2b, ↓naB2b, ↓raB3b, ↓waB3b, ↓naB3b, ↓raB4b, ↓waB4b, ↓naB4b, ↓raB5b, ↓waB5b, ↓naB5b, ↓raB6b, ↓waB6b, ↓naB6b, ↓raB7b, ↓waB7b, ↓naB7b, ↓raB8b, ↓waB8b, ↓naB8b, rcB9, ↓rfB9_0b, ↓wfB9_0b, ↓rfB9_1b, ↓rfB9_2b, ↓rfB9_3b, ↓rfB9_4b, ↓raB10b, ↓waB10b, ↓naB10b, ↓raB11b, ↓waB11b, ↓naB11b, ↓raB12b, ↓waB12b, ↓naB12b, ↓raB13b, ↓waB13b, ↓naB13b, rcX0, ↓rfX0_0b, ↓rfX0_1b, ↓rfX0_2b, ↓rfX0_3b, ↓rfX0_4b, ↓wfX0_4b, ↓rfX0_5b, ↓wfX0_5b, ↓rfX0_6b, ↓rfX0_7b, ↓rfX0_8b, ↓rfX0_9b, ↓wfX0_9b, ↓rfX0_10b, ↓wfX0_10b, rcX2, ↓rfX2_0b, ↓rfX2_1b, ↓rfX2_2b, ↓rfX2_3b, ↓rfX2_4b, ↓rfX2_5b, ↓raX3b, ↓waX3b, ↓naX3b, ↓raX4b, ↓waX4b, ↓naX4b, ↓raX5b, ↓waX5b, ↓naX5b, ↓raX6b, ↓waX6b, ↓naX6b, ↓raX7b, ↓waX7b, ↓raX7L0b, ↓waX7L0b, ↓naX7b, ↓raX8b, ↓waX8b, ↓naX8b, rcX11, ↓rfX11_0b, ↓rfX11_1b, ↓wfX11_1b, ↓rfX11_2b, ↓rfX11_3b, ↓wfX11_3b, ↓rfX11_4b, ↓wfX11_4b, ↓rfX11_5b, ↓wfX11_5b, ↓rfX11_6b, ↓rfX11_7b, ↓wfX11_7b, ↓raX12b, ↓waX12b, ↓naX12b, ↓raX13b, ↓waX13b, ↓naX13b, ↓raX14b, ↓waX14b, ↓raX14L0b, ↓waX14L0b, ↓raX14L1b, ↓waX14L1b, ↓raX14L2b, ↓waX14L2b, ↓naX14b, ↓caB2b, ↓caB2Lb, ↓caB3b, ↓caB3Lb, ↓caB4b, ↓caB4Lb, ↓caB5b, ↓caB5Lb, ↓caB6b, ↓caB6Lb, ↓caB7b, ↓caB7Lb, ↓caB8b, ↓caB8Lb, ↓caB10b, ↓caB10Lb, ↓caB11b, ↓caB11Lb, ↓caB12b, ↓caB12Lb, ↓caB13b, ↓caB13Lb, ↓raHb, ↓raH0b, ↓waHb, ↓waH7b, Option.bind_some, cI_ok, cR_ok, cV_ok, cN_ok, cN_nu, cI_ex, cR_ex, cV_ex, gI_sm, gR_sm, sb_eq, sb_sb, wexc_S, ↓reduceIte, eq_self, vI_def, vV_def, vR_def, nI_1, true_and, and_true, sb_ne, h3, nI_leI, hi', e158]
      | some kk =>
        have hk9 := ra_9 9 a (stO Z) kk (Nat.le_refl _) hr
        rw [hr] at e158
        obtain ⟨k', p', hB'⟩ := hB
        obtain ⟨eko, epo⟩ := WB_kO hB'
        rw [eko, epo]
        have e113 := s113 (G := G) (A := A) (n := n) (r := r) (H := H) (m := sb (sb m 11 (em Z (ra (cX (m 11)) L a 9 a (stO Z)).2)) 0 B) hg hk hs (k := k') (p := p') (by rw [sb_eq]; exact hB') hk9 d
        rw [sb_eq, sb_ne (by omega), sb_eq] at e113
        have ecm2 : ∀ Y B', sb (sb (sb (sb m 11 (em Z (ra (cX (m 11)) L a 9 a (stO Z)).2)) 0 B) 11 Y) 0 B' = sb (sb m 11 Y) 0 B' := by
          intro Y B'
          funext x; unfold sb
          by_cases x0 : x = 0
          · simp [x0]
          · by_cases x1 : x = 11 <;> simp [x0, x1]
        rw [ecm2] at e113
        generalize hP : pf B (em Z (ra (cX (m 11)) L a 9 a (stO Z)).2) k' p' kk = P at *
        have hP6 : P.1 < 6 := by rw [← hP]; exact pf_6
        have hPZ : ∀ c, c ≠ 3 → c ≠ 4 → P.2.2 c = em Z (ra (cX (m 11)) L a 9 a (stO Z)).2 c := by
          intro c h3 h4; rw [← hP]; exact pf_Z h3 h4
        have hPB : ∃ k p, WB P.2.1 k p := by rw [← hP]; exact pf_WB hB'
        obtain ⟨⟨g0, g1, g2, g3, g4, g5⟩, _, gd⟩ := hg
        by_cases h0 : P.1 = 0
        · have q1 : WZ P.2.2 L := by
            obtain ⟨w1, w2, w3, w4⟩ := hZ
            refine ⟨?_, w2, ⟨_, Nat.le_trans l1 hL60, ?_⟩, ⟨_, l2, ?_⟩⟩
            · rw [hPZ 11 (by omega) (by omega), em_f (by omega) (by omega) (by omega)]; exact w1
            · rw [hPZ 11 (by omega) (by omega), em_4]
            · rw [hPZ 11 (by omega) (by omega), em_7]
          have q2 : ∀ j, P.2.2 12 j = m 11 12 j := fun j => by rw [hPZ 12 (by omega) (by omega), em_o (by omega) (by omega)]; exact h12 j
          have q3 : ∀ j, P.2.2 13 j = m 11 13 j := fun j => by rw [hPZ 13 (by omega) (by omega), em_o (by omega) (by omega)]; exact h13 j
          have q4 : ∀ j, j ≠ 1 → j ≠ 4 → j ≠ 5 → j ≠ 7 → P.2.2 11 j = m 11 11 j := fun j j1 j4 j5 j7 => by rw [hPZ 11 (by omega) (by omega), em_f j4 j5 j7]; exact h11 j j1 j4 j5 j7
          have ih' := ih (i + 1) P.2.1 P.2.2 (by omega) hPB q1 q2 q3 q4
          simp (disch := first | assumption | omega | (refine sbh ?_ ?_ <;> first | assumption | omega) | (refine sbPV ?_ ?_ <;> first | assumption | omega)) only [rcB0, ↓rfB0_0b, ↓rfB0_1b, ↓rfB0_2b, ↓wfB0_2b, rcB1, ↓rfB1_0b, ↓wfB1_0b, ↓rfB1_1b, ↓wfB1_1b, ↓rfB1_2b, ↓rfB1_3b, ↓rfB1_4b, ↓rfB1_5b, ↓rfB1_6b, ↓rfB1_7b, ↓rfB1_8b, ↓raB2b, ↓waB2b, ↓naB2b, ↓raB3b, ↓waB3b, ↓naB3b, ↓raB4b, ↓waB4b, ↓naB4b, ↓raB5b, ↓waB5b, ↓naB5b, ↓raB6b, ↓waB6b, ↓naB6b, ↓raB7b, ↓waB7b, ↓naB7b, ↓raB8b, ↓waB8b, ↓naB8b, rcB9, ↓rfB9_0b, ↓wfB9_0b, ↓rfB9_1b, ↓rfB9_2b, ↓rfB9_3b, ↓rfB9_4b, ↓raB10b, ↓waB10b, ↓naB10b, ↓raB11b, ↓waB11b, ↓naB11b, ↓raB12b, ↓waB12b, ↓naB12b, ↓raB13b, ↓waB13b, ↓naB13b, rcX0, ↓rfX0_0b, ↓rfX0_1b, ↓rfX0_2b, ↓rfX0_3b, ↓rfX0_4b, ↓wfX0_4b, ↓rfX0_5b, ↓wfX0_5b, ↓rfX0_6b, ↓rfX0_7b, ↓rfX0_8b, ↓rfX0_9b, ↓wfX0_9b, ↓rfX0_10b, ↓wfX0_10b, rcX2, ↓rfX2_0b, ↓rfX2_1b, ↓rfX2_2b, ↓rfX2_3b, ↓rfX2_4b, ↓rfX2_5b, ↓raX3b, ↓waX3b, ↓naX3b, ↓raX4b, ↓waX4b, ↓naX4b, ↓raX5b, ↓waX5b, ↓naX5b, ↓raX6b, ↓waX6b, ↓naX6b, ↓raX7b, ↓waX7b, ↓raX7L0b, ↓waX7L0b, ↓naX7b, ↓raX8b, ↓waX8b, ↓naX8b, rcX11, ↓rfX11_0b, ↓rfX11_1b, ↓wfX11_1b, ↓rfX11_2b, ↓rfX11_3b, ↓wfX11_3b, ↓rfX11_4b, ↓wfX11_4b, ↓rfX11_5b, ↓wfX11_5b, ↓rfX11_6b, ↓rfX11_7b, ↓wfX11_7b, ↓raX12b, ↓waX12b, ↓naX12b, ↓raX13b, ↓waX13b, ↓naX13b, ↓raX14b, ↓waX14b, ↓raX14L0b, ↓waX14L0b, ↓raX14L1b, ↓waX14L1b, ↓raX14L2b, ↓waX14L2b, ↓naX14b, ↓caB2b, ↓caB2Lb, ↓caB3b, ↓caB3Lb, ↓caB4b, ↓caB4Lb, ↓caB5b, ↓caB5Lb, ↓caB6b, ↓caB6Lb, ↓caB7b, ↓caB7Lb, ↓caB8b, ↓caB8Lb, ↓caB10b, ↓caB10Lb, ↓caB11b, ↓caB11Lb, ↓caB12b, ↓caB12Lb, ↓caB13b, ↓caB13Lb, ↓raHb, ↓raH0b, ↓waHb, ↓waH7b, Option.bind_some, cI_ok, cR_ok, cV_ok, cN_ok, cN_nu, cI_ex, cR_ex, cV_ex, gI_sm, gR_sm, sb_eq, sb_sb, wexc_S, ↓reduceIte, eq_self, vI_def, vV_def, vR_def, nI_1, true_and, and_true, sb_ne, h3, nI_leI, hi', e158, e113, hP, h0, g0, ih']
        · have hne : ¬ fl P.1 = fl 0 := fun e => h0 (gd _ _ hP6 (by omega) e)
          simp (disch := first | assumption | omega | (refine sbh ?_ ?_ <;> first | assumption | omega) | (refine sbPV ?_ ?_ <;> first | assumption | omega)) only [rcB0, ↓rfB0_0b, ↓rfB0_1b, ↓rfB0_2b, ↓wfB0_2b, rcB1, ↓rfB1_0b, ↓wfB1_0b, ↓rfB1_1b, ↓wfB1_1b, ↓rfB1_2b, ↓rfB1_3b, ↓rfB1_4b, ↓rfB1_5b, ↓rfB1_6b, ↓rfB1_7b, ↓rfB1_8b, ↓raB2b, ↓waB2b, ↓naB2b, ↓raB3b, ↓waB3b, ↓naB3b, ↓raB4b, ↓waB4b, ↓naB4b, ↓raB5b, ↓waB5b, ↓naB5b, ↓raB6b, ↓waB6b, ↓naB6b, ↓raB7b, ↓waB7b, ↓naB7b, ↓raB8b, ↓waB8b, ↓naB8b, rcB9, ↓rfB9_0b, ↓wfB9_0b, ↓rfB9_1b, ↓rfB9_2b, ↓rfB9_3b, ↓rfB9_4b, ↓raB10b, ↓waB10b, ↓naB10b, ↓raB11b, ↓waB11b, ↓naB11b, ↓raB12b, ↓waB12b, ↓naB12b, ↓raB13b, ↓waB13b, ↓naB13b, rcX0, ↓rfX0_0b, ↓rfX0_1b, ↓rfX0_2b, ↓rfX0_3b, ↓rfX0_4b, ↓wfX0_4b, ↓rfX0_5b, ↓wfX0_5b, ↓rfX0_6b, ↓rfX0_7b, ↓rfX0_8b, ↓rfX0_9b, ↓wfX0_9b, ↓rfX0_10b, ↓wfX0_10b, rcX2, ↓rfX2_0b, ↓rfX2_1b, ↓rfX2_2b, ↓rfX2_3b, ↓rfX2_4b, ↓rfX2_5b, ↓raX3b, ↓waX3b, ↓naX3b, ↓raX4b, ↓waX4b, ↓naX4b, ↓raX5b, ↓waX5b, ↓naX5b, ↓raX6b, ↓waX6b, ↓naX6b, ↓raX7b, ↓waX7b, ↓raX7L0b, ↓waX7L0b, ↓naX7b, ↓raX8b, ↓waX8b, ↓naX8b, rcX11, ↓rfX11_0b, ↓rfX11_1b, ↓wfX11_1b, ↓rfX11_2b, ↓rfX11_3b, ↓wfX11_3b, ↓rfX11_4b, ↓wfX11_4b, ↓rfX11_5b, ↓wfX11_5b, ↓rfX11_6b, ↓rfX11_7b, ↓wfX11_7b, ↓raX12b, ↓waX12b, ↓naX12b, ↓raX13b, ↓waX13b, ↓naX13b, ↓raX14b, ↓waX14b, ↓raX14L0b, ↓waX14L0b, ↓raX14L1b, ↓waX14L1b, ↓raX14L2b, ↓waX14L2b, ↓naX14b, ↓caB2b, ↓caB2Lb, ↓caB3b, ↓caB3Lb, ↓caB4b, ↓caB4Lb, ↓caB5b, ↓caB5Lb, ↓caB6b, ↓caB6Lb, ↓caB7b, ↓caB7Lb, ↓caB8b, ↓caB8Lb, ↓caB10b, ↓caB10Lb, ↓caB11b, ↓caB11Lb, ↓caB12b, ↓caB12Lb, ↓caB13b, ↓caB13Lb, ↓raHb, ↓raH0b, ↓waHb, ↓waH7b, Option.bind_some, cI_ok, cR_ok, cV_ok, cN_ok, cN_nu, cI_ex, cR_ex, cV_ex, gI_sm, gR_sm, sb_eq, sb_sb, wexc_S, ↓reduceIte, eq_self, vI_def, vV_def, vR_def, nI_1, true_and, and_true, sb_ne, h3, nI_leI, hi', e158, e113, hP, h0, g0, hne]
  have h0 := lp cc 0 (m 0) (m 11) (by omega) ⟨k, p, hw⟩ hz (fun _ => rfl) (fun _ => rfl) (fun _ _ _ _ _ => rfl) none
  have e0 : sb (sb m 11 (m 11)) 0 (m 0) = m := by rw [sb_self, sb_self]
  rw [e0] at h0
  rw [b112_e]
  exact h0
theorem s112c (hgs : GS G) {kd : Nat → Nat} {fl : Nat → Nat} (hg : GF G fl) (hk : KN G H A kd) (hs : SW G H A) (hw : WB (m 0) k p) {L cc : Nat} (hz : WZ (m 11) L) (hcc : m 11 11 3 = nI cc) (hcc60 : cc ≤ 60) (hst : ∀ i, i < cc → ∃ a, a ≤ L ∧ m 11 13 i = nI a) (d : Nat) (K : Int32 → St → Res) : cI (call G (d + 7) 112 [.ref (ad A 11 0)] (S A H m n r)) K = K (runC (cX (m 11)) L cc cc (m 0) (m 11)).1 (S A H (sb (sb m 11 (runC (cX (m 11)) L cc cc (m 0) (m 11)).2.2) 0 (runC (cX (m 11)) L cc cc (m 0) (m 11)).2.1) n r) := congrArg (fun z => cI z K) (show call G (d + 7) 112 [.ref (ad A 11 0)] (S A H m n r) = vI (runC (cX (m 11)) L cc cc (m 0) (m 11)).1 (S A H (sb (sb m 11 (runC (cX (m 11)) L cc cc (m 0) (m 11)).2.2) 0 (runC (cX (m 11)) L cc cc (m 0) (m 11)).2.1) n r) from by apply s112 <;> assumption)
end
/-- what a text of commands leaves when it is malformed -/
def ex1 (Z : Bd) (L : Nat) : Bd := ud (em (ud (ud (fnd (cX Z) L 60 0 (ud Z 11 3 0) (stO Z)).2.1 11 1 0) 11 3 0) (fnd (cX Z) L 60 0 (ud Z 11 3 0) (stO Z)).2.2) 0 9 (fnd (cX Z) L 60 0 (ud Z 11 3 0) (stO Z)).1
def ex2 (Z : Bd) (L : Nat) : Bd := em (fnd (cX Z) L 60 0 (ud Z 11 3 0) (stO Z)).2.1 (fnd (cX Z) L 60 0 (ud Z 11 3 0) (stO Z)).2.2
theorem fnd_n (c : Nat → Int32) (L : Nat) : ∀ (t start : Nat) (X : Bd) (st : PS), (∀ a i, a ≠ 11 → a ≠ 13 → (fnd c L t start X st).2.1 a i = X a i) ∧ (∀ i, i ≠ 3 → (fnd c L t start X st).2.1 11 i = X 11 i) := by
  intro t
  induction t with
  | zero => intro start X st; exact ⟨fun _ _ _ _ => rfl, fun _ _ => rfl⟩
  | succ t ih =>
    intro start X st
    have b1 : ∀ a i, a ≠ 11 → a ≠ 13 → ud (ud X 13 (59 - t) (nI start)) 11 3 (nI (59 - t + 1)) a i = X a i := fun a i h1 h2 => by rw [ud_nc h1, ud_nc h2]
    have b2 : ∀ i, i ≠ 3 → ud (ud X 13 (59 - t) (nI start)) 11 3 (nI (59 - t + 1)) 11 i = X 11 i := fun i h1 => by rw [ud_ni h1, ud_nc (by omega)]
    rw [fnd]; split
    · split
      · exact ⟨b1, b2⟩
      · split
        · obtain ⟨i1, i2⟩ := ih ((ra c L start 9 start st).2.1 + 1) (ud (ud X 13 (59 - t) (nI start)) 11 3 (nI (59 - t + 1))) (ra c L start 9 start st).2
          exact ⟨fun a i h1 h2 => (i1 a i h1 h2).trans (b1 a i h1 h2), fun i h => (i2 i h).trans (b2 i h)⟩
        · exact ⟨b1, b2⟩
    · exact ⟨fun _ _ _ _ => rfl, fun _ _ => rfl⟩
/-- where the commands start -/
theorem fnd_ok (c : Nat → Int32) (L : Nat) : ∀ (t i start : Nat) (X : Bd) (st : PS), i + t = 60 → start ≤ L → L ≤ 60 → st.2.2.1 ≤ 3 → st.1 ≤ 60 → X 11 3 = nI i → (∀ j, j < i → ∃ a, a ≤ L ∧ X 13 j = nI a) → (∃ cc, cc ≤ 60 ∧ (fnd c L t start X st).2.1 11 3 = nI cc ∧ ∀ j, j < cc → ∃ a, a ≤ L ∧ (fnd c L t start X st).2.1 13 j = nI a) ∧ (fnd c L t start X st).2.2.1 ≤ 60 ∧ (fnd c L t start X st).2.2.2.2.1 ≤ 3 := by
  intro t
  induction t with
  | zero =>
    intro i start X st hi hs hL h3 h60 hc hj
    exact ⟨⟨i, by omega, hc, hj⟩, h60, h3⟩
  | succ t ih =>
    intro i start X st hi hs hL h3 h60 hc hj
    obtain ⟨l1, l2⟩ := ra_le (c := c) (a := start) hs 9 start st hs h3
    have ei : 59 - t = i := by omega
    have c3 : ud (ud X 13 (59 - t) (nI start)) 11 3 (nI (59 - t + 1)) 11 3 = nI (i + 1) := by rw [ud_eq, ei]
    have c13 : ∀ j, j < i + 1 → ∃ a, a ≤ L ∧ ud (ud X 13 (59 - t) (nI start)) 11 3 (nI (59 - t + 1)) 13 j = nI a := by
      intro j hj2
      rw [ud_nc (by omega), ei]
      by_cases e : j = i
      · subst e; exact ⟨start, hs, by rw [ud_eq]⟩
      · rw [ud_ni e]; exact hj j (by omega)
    rw [fnd]; split
    · split
      · exact ⟨⟨i + 1, by omega, c3, c13⟩, Nat.le_trans l1 hL, l2⟩
      · split
        · exact ih (i + 1) ((ra c L start 9 start st).2.1 + 1) (ud (ud X 13 (59 - t) (nI start)) 11 3 (nI (59 - t + 1))) (ra c L start 9 start st).2 (by omega) (by omega) hL l2 (Nat.le_trans l1 hL) c3 c13
        · exact ⟨⟨i + 1, by omega, c3, c13⟩, Nat.le_trans l1 hL, l2⟩
    · exact ⟨⟨i, by omega, hc, hj⟩, Nat.le_trans l1 hL, l2⟩
theorem runC_n (c : Nat → Int32) (L cc : Nat) : ∀ (t : Nat) (B Z : Bd), (∀ a i, a ≠ 3 → a ≠ 4 → a ≠ 11 → a ≠ 14 → (runC c L cc t B Z).2.2 a i = Z a i) ∧ (∀ i, i ≠ 4 → i ≠ 5 → i ≠ 7 → (runC c L cc t B Z).2.2 11 i = Z 11 i) := by
  intro t
  induction t with
  | zero => intro B Z; exact ⟨fun _ _ _ _ _ _ => rfl, fun _ _ _ _ => rfl⟩
  | succ t ih =>
    intro B Z
    rw [runC_s]
    cases hr : (ra c L (Z 13 (cc - (t + 1))).toNatClampNeg 9 (Z 13 (cc - (t + 1))).toNatClampNeg (stO Z)).1 with
    | none => exact ⟨fun a i h3 h4 h11 h14 => congrFun (em_o h11 h14) i, fun i h4 h5 h7 => em_f h4 h5 h7⟩
    | some k =>
      dsimp only
      generalize hE : em Z (ra c L (Z 13 (cc - (t + 1))).toNatClampNeg 9 (Z 13 (cc - (t + 1))).toNatClampNeg (stO Z)).2 = E at *
      have e1 : ∀ a i, a ≠ 3 → a ≠ 4 → a ≠ 11 → a ≠ 14 → (pf B E (kO B) (pO B) k).2.2 a i = Z a i := fun a i h3 h4 h11 h14 => by
        rw [pf_Z h3 h4, ← hE]; exact congrFun (em_o h11 h14) i
      have e2 : ∀ i, i ≠ 4 → i ≠ 5 → i ≠ 7 → (pf B E (kO B) (pO B) k).2.2 11 i = Z 11 i := fun i h4 h5 h7 => by
        rw [pf_Z (by omega) (by omega), ← hE]; exact em_f h4 h5 h7
      split
      · obtain ⟨i1, i2⟩ := ih (pf B E (kO B) (pO B) k).2.1 (pf B E (kO B) (pO B) k).2.2
        exact ⟨fun a i h3 h4 h11 h14 => (i1 a i h3 h4 h11 h14).trans (e1 a i h3 h4 h11 h14), fun i h4 h5 h7 => (i2 i h4 h5 h7).trans (e2 i h4 h5 h7)⟩
      · exact ⟨e1, e2⟩
section
variable {G : Glb} {A n r k p u : Nat} {H : Hp} {m : Mm}
theorem s156' (d : Nat) : call G d 156 [.ref (ad A 11 11)] (S A H m n r) = vV (S A H (sb m 11 (ud (ud (m 11) 11 1 0) 11 3 0)) n r) := by
  rw [b156_e]; simp (disch := first | assumption | omega | (refine sbh ?_ ?_ <;> first | assumption | omega) | (refine sbPV ?_ ?_ <;> first | assumption | omega)) only [rcB0, ↓rfB0_0b, ↓rfB0_1b, ↓rfB0_2b, ↓wfB0_2b, rcB1, ↓rfB1_0b, ↓wfB1_0b, ↓rfB1_1b, ↓wfB1_1b, ↓rfB1_2b, ↓rfB1_3b, ↓rfB1_4b, ↓rfB1_5b, ↓rfB1_6b, ↓rfB1_7b, ↓rfB1_8b, ↓raB2b, ↓waB2b, ↓naB2b, ↓raB3b, ↓waB3b, ↓naB3b, ↓raB4b, ↓waB4b, ↓naB4b, ↓raB5b, ↓waB5b, ↓naB5b, ↓raB6b, ↓waB6b, ↓naB6b, ↓raB7b, ↓waB7b, ↓naB7b, ↓raB8b, ↓waB8b, ↓naB8b, rcB9, ↓rfB9_0b, ↓wfB9_0b, ↓rfB9_1b, ↓rfB9_2b, ↓rfB9_3b, ↓rfB9_4b, ↓raB10b, ↓waB10b, ↓naB10b, ↓raB11b, ↓waB11b, ↓naB11b, ↓raB12b, ↓waB12b, ↓naB12b, ↓raB13b, ↓waB13b, ↓naB13b, rcX0, ↓rfX0_0b, ↓rfX0_1b, ↓rfX0_2b, ↓rfX0_3b, ↓rfX0_4b, ↓wfX0_4b, ↓rfX0_5b, ↓wfX0_5b, ↓rfX0_6b, ↓rfX0_7b, ↓rfX0_8b, ↓rfX0_9b, ↓wfX0_9b, ↓rfX0_10b, ↓wfX0_10b, rcX2, ↓rfX2_0b, ↓rfX2_1b, ↓rfX2_2b, ↓rfX2_3b, ↓rfX2_4b, ↓rfX2_5b, ↓raX3b, ↓waX3b, ↓naX3b, ↓raX4b, ↓waX4b, ↓naX4b, ↓raX5b, ↓waX5b, ↓naX5b, ↓raX6b, ↓waX6b, ↓naX6b, ↓raX7b, ↓waX7b, ↓raX7L0b, ↓waX7L0b, ↓naX7b, ↓raX8b, ↓waX8b, ↓naX8b, rcX11, ↓rfX11_0b, ↓rfX11_1b, ↓wfX11_1b, ↓rfX11_2b, ↓rfX11_3b, ↓wfX11_3b, ↓rfX11_4b, ↓wfX11_4b, ↓rfX11_5b, ↓wfX11_5b, ↓rfX11_6b, ↓rfX11_7b, ↓wfX11_7b, ↓raX12b, ↓waX12b, ↓naX12b, ↓raX13b, ↓waX13b, ↓naX13b, ↓raX14b, ↓waX14b, ↓raX14L0b, ↓waX14L0b, ↓raX14L1b, ↓waX14L1b, ↓raX14L2b, ↓waX14L2b, ↓naX14b, ↓caB2b, ↓caB2Lb, ↓caB3b, ↓caB3Lb, ↓caB4b, ↓caB4Lb, ↓caB5b, ↓caB5Lb, ↓caB6b, ↓caB6Lb, ↓caB7b, ↓caB7Lb, ↓caB8b, ↓caB8Lb, ↓caB10b, ↓caB10Lb, ↓caB11b, ↓caB11Lb, ↓caB12b, ↓caB12Lb, ↓caB13b, ↓caB13Lb, ↓raHb, ↓raH0b, ↓waHb, ↓waH7b, Option.bind_some, cI_ok, cR_ok, cV_ok, cN_ok, cN_nu, cI_ex, cR_ex, cV_ex, gI_sm, gR_sm, sb_eq, sb_sb, wexc_S, ↓reduceIte, eq_self, vI_def, vV_def, vR_def, nI_1, true_and, and_true]
theorem s156'c (d : Nat) (K : St → Res) : cV (call G d 156 [.ref (ad A 11 11)] (S A H m n r)) K = K (S A H (sb m 11 (ud (ud (m 11) 11 1 0) 11 3 0)) n r) := congrArg (fun z => cV z K) (show call G d 156 [.ref (ad A 11 11)] (S A H m n r) = vV (S A H (sb m 11 (ud (ud (m 11) 11 1 0) 11 3 0)) n r) from by apply s156' <;> assumption)
theorem s95n (h : ¬ m 11 11 1 < 60) (x : Int32) (d : Nat) : call G (d + 1) 95 [.ref (ad A 11 0), .int x] (S A H m n r) = xE eIS A H m n r := by
  rw [b95_e]; simp (disch := first | assumption | omega | (refine sbh ?_ ?_ <;> first | assumption | omega) | (refine sbPV ?_ ?_ <;> first | assumption | omega)) only [rcB0, ↓rfB0_0b, ↓rfB0_1b, ↓rfB0_2b, ↓wfB0_2b, rcB1, ↓rfB1_0b, ↓wfB1_0b, ↓rfB1_1b, ↓wfB1_1b, ↓rfB1_2b, ↓rfB1_3b, ↓rfB1_4b, ↓rfB1_5b, ↓rfB1_6b, ↓rfB1_7b, ↓rfB1_8b, ↓raB2b, ↓waB2b, ↓naB2b, ↓raB3b, ↓waB3b, ↓naB3b, ↓raB4b, ↓waB4b, ↓naB4b, ↓raB5b, ↓waB5b, ↓naB5b, ↓raB6b, ↓waB6b, ↓naB6b, ↓raB7b, ↓waB7b, ↓naB7b, ↓raB8b, ↓waB8b, ↓naB8b, rcB9, ↓rfB9_0b, ↓wfB9_0b, ↓rfB9_1b, ↓rfB9_2b, ↓rfB9_3b, ↓rfB9_4b, ↓raB10b, ↓waB10b, ↓naB10b, ↓raB11b, ↓waB11b, ↓naB11b, ↓raB12b, ↓waB12b, ↓naB12b, ↓raB13b, ↓waB13b, ↓naB13b, rcX0, ↓rfX0_0b, ↓rfX0_1b, ↓rfX0_2b, ↓rfX0_3b, ↓rfX0_4b, ↓wfX0_4b, ↓rfX0_5b, ↓wfX0_5b, ↓rfX0_6b, ↓rfX0_7b, ↓rfX0_8b, ↓rfX0_9b, ↓wfX0_9b, ↓rfX0_10b, ↓wfX0_10b, rcX2, ↓rfX2_0b, ↓rfX2_1b, ↓rfX2_2b, ↓rfX2_3b, ↓rfX2_4b, ↓rfX2_5b, ↓raX3b, ↓waX3b, ↓naX3b, ↓raX4b, ↓waX4b, ↓naX4b, ↓raX5b, ↓waX5b, ↓naX5b, ↓raX6b, ↓waX6b, ↓naX6b, ↓raX7b, ↓waX7b, ↓raX7L0b, ↓waX7L0b, ↓naX7b, ↓raX8b, ↓waX8b, ↓naX8b, rcX11, ↓rfX11_0b, ↓rfX11_1b, ↓wfX11_1b, ↓rfX11_2b, ↓rfX11_3b, ↓wfX11_3b, ↓rfX11_4b, ↓wfX11_4b, ↓rfX11_5b, ↓wfX11_5b, ↓rfX11_6b, ↓rfX11_7b, ↓wfX11_7b, ↓raX12b, ↓waX12b, ↓naX12b, ↓raX13b, ↓waX13b, ↓naX13b, ↓raX14b, ↓waX14b, ↓raX14L0b, ↓waX14L0b, ↓raX14L1b, ↓waX14L1b, ↓raX14L2b, ↓waX14L2b, ↓naX14b, ↓caB2b, ↓caB2Lb, ↓caB3b, ↓caB3Lb, ↓caB4b, ↓caB4Lb, ↓caB5b, ↓caB5Lb, ↓caB6b, ↓caB6Lb, ↓caB7b, ↓caB7Lb, ↓caB8b, ↓caB8Lb, ↓caB10b, ↓caB10Lb, ↓caB11b, ↓caB11Lb, ↓caB12b, ↓caB12Lb, ↓caB13b, ↓caB13Lb, ↓raHb, ↓raH0b, ↓waHb, ↓waH7b, Option.bind_some, cI_ok, cR_ok, cV_ok, cN_ok, cN_nu, cI_ex, cR_ex, cV_ex, gI_sm, gR_sm, sb_eq, sb_sb, wexc_S, ↓reduceIte, eq_self, vI_def, vV_def, vR_def, nI_1, true_and, and_true, h, xE_def, eIS]
theorem s95nc (h : ¬ m 11 11 1 < 60) (x : Int32) (d : Nat) (K : Int32 → St → Res) : cI (call G (d + 1) 95 [.ref (ad A 11 0), .int x] (S A H m n r)) K = xE eIS A H m n r := congrArg (fun z => cI z K) (show call G (d + 1) 95 [.ref (ad A 11 0), .int x] (S A H m n r) = xE eIS A H m n r from by apply s95n <;> assumption)
theorem s95 {L : Nat} (hL : m 11 11 1 = nI L) (hl : L < 60) (x : Int32) (d : Nat) : call G (d + 1) 95 [.ref (ad A 11 0), .int x] (S A H m n r) = vI (nI (L + 1)) (S A H (sb m 11 (ud (ud (m 11) 12 L x) 11 1 (nI (L + 1)))) n r) := by
  have e : nI L < 60 := by rw [show (60 : Int32) = nI 60 from rfl, nI_ltI (by omega) (by omega)]; exact hl
  have e2 : ¬ (60 : Int32) ≤ nI L := by rw [show (60 : Int32) = nI 60 from rfl, nI_leI (by omega) (by omega)]; omega
  have e155 : call G d 155 [.ref (ad A 11 11), .int x] (S A H m n r) = vV (S A H (sb m 11 (ud (ud (m 11) 12 L x) 11 1 (nI (L + 1)))) n r) := by
    rw [b155_e]; simp (disch := first | assumption | omega | (refine sbh ?_ ?_ <;> first | assumption | omega) | (refine sbPV ?_ ?_ <;> first | assumption | omega)) only [rcB0, ↓rfB0_0b, ↓rfB0_1b, ↓rfB0_2b, ↓wfB0_2b, rcB1, ↓rfB1_0b, ↓wfB1_0b, ↓rfB1_1b, ↓wfB1_1b, ↓rfB1_2b, ↓rfB1_3b, ↓rfB1_4b, ↓rfB1_5b, ↓rfB1_6b, ↓rfB1_7b, ↓rfB1_8b, ↓raB2b, ↓waB2b, ↓naB2b, ↓raB3b, ↓waB3b, ↓naB3b, ↓raB4b, ↓waB4b, ↓naB4b, ↓raB5b, ↓waB5b, ↓naB5b, ↓raB6b, ↓waB6b, ↓naB6b, ↓raB7b, ↓waB7b, ↓naB7b, ↓raB8b, ↓waB8b, ↓naB8b, rcB9, ↓rfB9_0b, ↓wfB9_0b, ↓rfB9_1b, ↓rfB9_2b, ↓rfB9_3b, ↓rfB9_4b, ↓raB10b, ↓waB10b, ↓naB10b, ↓raB11b, ↓waB11b, ↓naB11b, ↓raB12b, ↓waB12b, ↓naB12b, ↓raB13b, ↓waB13b, ↓naB13b, rcX0, ↓rfX0_0b, ↓rfX0_1b, ↓rfX0_2b, ↓rfX0_3b, ↓rfX0_4b, ↓wfX0_4b, ↓rfX0_5b, ↓wfX0_5b, ↓rfX0_6b, ↓rfX0_7b, ↓rfX0_8b, ↓rfX0_9b, ↓wfX0_9b, ↓rfX0_10b, ↓wfX0_10b, rcX2, ↓rfX2_0b, ↓rfX2_1b, ↓rfX2_2b, ↓rfX2_3b, ↓rfX2_4b, ↓rfX2_5b, ↓raX3b, ↓waX3b, ↓naX3b, ↓raX4b, ↓waX4b, ↓naX4b, ↓raX5b, ↓waX5b, ↓naX5b, ↓raX6b, ↓waX6b, ↓naX6b, ↓raX7b, ↓waX7b, ↓raX7L0b, ↓waX7L0b, ↓naX7b, ↓raX8b, ↓waX8b, ↓naX8b, rcX11, ↓rfX11_0b, ↓rfX11_1b, ↓wfX11_1b, ↓rfX11_2b, ↓rfX11_3b, ↓wfX11_3b, ↓rfX11_4b, ↓wfX11_4b, ↓rfX11_5b, ↓wfX11_5b, ↓rfX11_6b, ↓rfX11_7b, ↓wfX11_7b, ↓raX12b, ↓waX12b, ↓naX12b, ↓raX13b, ↓waX13b, ↓naX13b, ↓raX14b, ↓waX14b, ↓raX14L0b, ↓waX14L0b, ↓raX14L1b, ↓waX14L1b, ↓raX14L2b, ↓waX14L2b, ↓naX14b, ↓caB2b, ↓caB2Lb, ↓caB3b, ↓caB3Lb, ↓caB4b, ↓caB4Lb, ↓caB5b, ↓caB5Lb, ↓caB6b, ↓caB6Lb, ↓caB7b, ↓caB7Lb, ↓caB8b, ↓caB8Lb, ↓caB10b, ↓caB10Lb, ↓caB11b, ↓caB11Lb, ↓caB12b, ↓caB12Lb, ↓caB13b, ↓caB13Lb, ↓raHb, ↓raH0b, ↓waHb, ↓waH7b, Option.bind_some, cI_ok, cR_ok, cV_ok, cN_ok, cN_nu, cI_ex, cR_ex, cV_ex, gI_sm, gR_sm, sb_eq, sb_sb, wexc_S, ↓reduceIte, eq_self, vI_def, vV_def, vR_def, nI_1, true_and, and_true, hL, e2, ud_nc]
  rw [b95_e]; simp (disch := first | assumption | omega | (refine sbh ?_ ?_ <;> first | assumption | omega) | (refine sbPV ?_ ?_ <;> first | assumption | omega)) only [rcB0, ↓rfB0_0b, ↓rfB0_1b, ↓rfB0_2b, ↓wfB0_2b, rcB1, ↓rfB1_0b, ↓wfB1_0b, ↓rfB1_1b, ↓wfB1_1b, ↓rfB1_2b, ↓rfB1_3b, ↓rfB1_4b, ↓rfB1_5b, ↓rfB1_6b, ↓rfB1_7b, ↓rfB1_8b, ↓raB2b, ↓waB2b, ↓naB2b, ↓raB3b, ↓waB3b, ↓naB3b, ↓raB4b, ↓waB4b, ↓naB4b, ↓raB5b, ↓waB5b, ↓naB5b, ↓raB6b, ↓waB6b, ↓naB6b, ↓raB7b, ↓waB7b, ↓naB7b, ↓raB8b, ↓waB8b, ↓naB8b, rcB9, ↓rfB9_0b, ↓wfB9_0b, ↓rfB9_1b, ↓rfB9_2b, ↓rfB9_3b, ↓rfB9_4b, ↓raB10b, ↓waB10b, ↓naB10b, ↓raB11b, ↓waB11b, ↓naB11b, ↓raB12b, ↓waB12b, ↓naB12b, ↓raB13b, ↓waB13b, ↓naB13b, rcX0, ↓rfX0_0b, ↓rfX0_1b, ↓rfX0_2b, ↓rfX0_3b, ↓rfX0_4b, ↓wfX0_4b, ↓rfX0_5b, ↓wfX0_5b, ↓rfX0_6b, ↓rfX0_7b, ↓rfX0_8b, ↓rfX0_9b, ↓wfX0_9b, ↓rfX0_10b, ↓wfX0_10b, rcX2, ↓rfX2_0b, ↓rfX2_1b, ↓rfX2_2b, ↓rfX2_3b, ↓rfX2_4b, ↓rfX2_5b, ↓raX3b, ↓waX3b, ↓naX3b, ↓raX4b, ↓waX4b, ↓naX4b, ↓raX5b, ↓waX5b, ↓naX5b, ↓raX6b, ↓waX6b, ↓naX6b, ↓raX7b, ↓waX7b, ↓raX7L0b, ↓waX7L0b, ↓naX7b, ↓raX8b, ↓waX8b, ↓naX8b, rcX11, ↓rfX11_0b, ↓rfX11_1b, ↓wfX11_1b, ↓rfX11_2b, ↓rfX11_3b, ↓wfX11_3b, ↓rfX11_4b, ↓wfX11_4b, ↓rfX11_5b, ↓wfX11_5b, ↓rfX11_6b, ↓rfX11_7b, ↓wfX11_7b, ↓raX12b, ↓waX12b, ↓naX12b, ↓raX13b, ↓waX13b, ↓naX13b, ↓raX14b, ↓waX14b, ↓raX14L0b, ↓waX14L0b, ↓raX14L1b, ↓waX14L1b, ↓raX14L2b, ↓waX14L2b, ↓naX14b, ↓caB2b, ↓caB2Lb, ↓caB3b, ↓caB3Lb, ↓caB4b, ↓caB4Lb, ↓caB5b, ↓caB5Lb, ↓caB6b, ↓caB6Lb, ↓caB7b, ↓caB7Lb, ↓caB8b, ↓caB8Lb, ↓caB10b, ↓caB10Lb, ↓caB11b, ↓caB11Lb, ↓caB12b, ↓caB12Lb, ↓caB13b, ↓caB13Lb, ↓raHb, ↓raH0b, ↓waHb, ↓waH7b, Option.bind_some, cI_ok, cR_ok, cV_ok, cN_ok, cN_nu, cI_ex, cR_ex, cV_ex, gI_sm, gR_sm, sb_eq, sb_sb, wexc_S, ↓reduceIte, eq_self, vI_def, vV_def, vR_def, nI_1, true_and, and_true, hL, e, e155, ud_eq]
/-- the run of a well-formed text -/
theorem s95c {L : Nat} (hL : m 11 11 1 = nI L) (hl : L < 60) (x : Int32) (d : Nat) (K : Int32 → St → Res) : cI (call G (d + 1) 95 [.ref (ad A 11 0), .int x] (S A H m n r)) K = K (nI (L + 1)) (S A H (sb m 11 (ud (ud (m 11) 12 L x) 11 1 (nI (L + 1)))) n r) := congrArg (fun z => cI z K) (show call G (d + 1) 95 [.ref (ad A 11 0), .int x] (S A H m n r) = vI (nI (L + 1)) (S A H (sb m 11 (ud (ud (m 11) 12 L x) 11 1 (nI (L + 1)))) n r) from by apply s95 <;> assumption)
def exR (m : Mm) (L cc : Nat) : Int32 × Bd × Bd := runC (cX (m 11)) L cc cc (m 0) (ex2 (m 11) L)
def exC (Z : Bd) : Bd := ud (ud Z 11 1 0) 11 3 0
theorem s96 (hgs : GS G) {kd : Nat → Nat} {fl : Nat → Nat} (hg : GF G fl) (hk : KN G H A kd) (hs : SW G H A) (hw : WB (m 0) k p) {L : Nat} (hz : WZ (m 11) L) (hu : m 11 0 4 = nI u) (hu8 : u ≤ 8) (hh : HW (m 11)) (d : Nat) : (¬ (fnd (cX (m 11)) L 60 0 (ud (m 11) 11 3 0) (stO (m 11))).1 = -1 → call G (d + 8) 96 [.ref (ad A 11 0)] (S A H m n r) = xE eIA A H (sb m 11 (ex1 (m 11) L)) n r) ∧ ((fnd (cX (m 11)) L 60 0 (ud (m 11) 11 3 0) (stO (m 11))).1 = -1 → ∃ cc, cc ≤ 60 ∧ (fnd (cX (m 11)) L 60 0 (ud (m 11) 11 3 0) (stO (m 11))).2.1 11 3 = nI cc ∧ (∀ j, j < cc → ∃ a, a ≤ L ∧ (fnd (cX (m 11)) L 60 0 (ud (m 11) 11 3 0) (stO (m 11))).2.1 13 j = nI a) ∧ call G (d + 8) 96 [.ref (ad A 11 0)] (S A H m n r) = if (exR m L cc).1 = -1 then vI (nI cc) (S A H (fiM (sb (sb (bgM m) 11 (exC (exR m L cc).2.2)) 0 (exR m L cc).2.1) u) n r) else xE eUO A H (sb (sb (bgM m) 11 (ud (exC (exR m L cc).2.2) 0 10 (exR m L cc).1)) 0 (cpB (exR m L cc).2.1 (cpB (m 1) (m 0)))) n r) := by
  obtain ⟨ez1, ez2, ez3⟩ := WZ_em hz
  obtain ⟨⟨cc, hcc60, hcc, hst⟩, f60, f3⟩ := fnd_ok (cX (m 11)) L 60 0 0 (ud (m 11) 11 3 0) (stO (m 11)) (by omega) (by omega) hz.2.1 ez2 ez3 (by rw [ud_eq]; rfl) (fun j hj => absurd hj (by omega))
  have e157 := s157 (G := G) (A := A) (n := n) (r := r) (H := H) (m := m) (X := m 11) (st := stO (m 11)) (L := L) hgs hk hz.1 hz.2.1 ez2 (d + 1)
  rw [ez1, sb_self] at e157
  obtain ⟨n1, n2⟩ := fnd_n (cX (m 11)) L 60 0 (ud (m 11) 11 3 0) (stO (m 11))
  have e157' : call G (d + 7) 157 [.ref (ad A 11 11)] (S A H m n r) = vI (fnd (cX (m 11)) L 60 0 (ud (m 11) 11 3 0) (stO (m 11))).1 (S A H (sb m 11 (ex2 (m 11) L)) n r) := e157
  refine ⟨fun hne => ?_, fun he => ⟨cc, hcc60, hcc, hst, ?_⟩⟩
  · rw [b96_e]
    have e3 : ud (ud (ud (ex2 (m 11) L) 11 1 0) 11 3 0) 0 9 (fnd (cX (m 11)) L 60 0 (ud (m 11) 11 3 0) (stO (m 11))).1 = ex1 (m 11) L := by
      unfold ex1 ex2; rw [em_w1, em_w3]
    simp (disch := first | assumption | omega | (refine sbh ?_ ?_ <;> first | assumption | omega) | (refine sbPV ?_ ?_ <;> first | assumption | omega)) only [rcB0, ↓rfB0_0b, ↓rfB0_1b, ↓rfB0_2b, ↓wfB0_2b, rcB1, ↓rfB1_0b, ↓wfB1_0b, ↓rfB1_1b, ↓wfB1_1b, ↓rfB1_2b, ↓rfB1_3b, ↓rfB1_4b, ↓rfB1_5b, ↓rfB1_6b, ↓rfB1_7b, ↓rfB1_8b, ↓raB2b, ↓waB2b, ↓naB2b, ↓raB3b, ↓waB3b, ↓naB3b, ↓raB4b, ↓waB4b, ↓naB4b, ↓raB5b, ↓waB5b, ↓naB5b, ↓raB6b, ↓waB6b, ↓naB6b, ↓raB7b, ↓waB7b, ↓naB7b, ↓raB8b, ↓waB8b, ↓naB8b, rcB9, ↓rfB9_0b, ↓wfB9_0b, ↓rfB9_1b, ↓rfB9_2b, ↓rfB9_3b, ↓rfB9_4b, ↓raB10b, ↓waB10b, ↓naB10b, ↓raB11b, ↓waB11b, ↓naB11b, ↓raB12b, ↓waB12b, ↓naB12b, ↓raB13b, ↓waB13b, ↓naB13b, rcX0, ↓rfX0_0b, ↓rfX0_1b, ↓rfX0_2b, ↓rfX0_3b, ↓rfX0_4b, ↓wfX0_4b, ↓rfX0_5b, ↓wfX0_5b, ↓rfX0_6b, ↓rfX0_7b, ↓rfX0_8b, ↓rfX0_9b, ↓wfX0_9b, ↓rfX0_10b, ↓wfX0_10b, rcX2, ↓rfX2_0b, ↓rfX2_1b, ↓rfX2_2b, ↓rfX2_3b, ↓rfX2_4b, ↓rfX2_5b, ↓raX3b, ↓waX3b, ↓naX3b, ↓raX4b, ↓waX4b, ↓naX4b, ↓raX5b, ↓waX5b, ↓naX5b, ↓raX6b, ↓waX6b, ↓naX6b, ↓raX7b, ↓waX7b, ↓raX7L0b, ↓waX7L0b, ↓naX7b, ↓raX8b, ↓waX8b, ↓naX8b, rcX11, ↓rfX11_0b, ↓rfX11_1b, ↓wfX11_1b, ↓rfX11_2b, ↓rfX11_3b, ↓wfX11_3b, ↓rfX11_4b, ↓wfX11_4b, ↓rfX11_5b, ↓wfX11_5b, ↓rfX11_6b, ↓rfX11_7b, ↓wfX11_7b, ↓raX12b, ↓waX12b, ↓naX12b, ↓raX13b, ↓waX13b, ↓naX13b, ↓raX14b, ↓waX14b, ↓raX14L0b, ↓waX14L0b, ↓raX14L1b, ↓waX14L1b, ↓raX14L2b, ↓waX14L2b, ↓naX14b, ↓caB2b, ↓caB2Lb, ↓caB3b, ↓caB3Lb, ↓caB4b, ↓caB4Lb, ↓caB5b, ↓caB5Lb, ↓caB6b, ↓caB6Lb, ↓caB7b, ↓caB7Lb, ↓caB8b, ↓caB8Lb, ↓caB10b, ↓caB10Lb, ↓caB11b, ↓caB11Lb, ↓caB12b, ↓caB12Lb, ↓caB13b, ↓caB13Lb, ↓raHb, ↓raH0b, ↓waHb, ↓waH7b, Option.bind_some, cI_ok, cR_ok, cV_ok, cN_ok, cN_nu, cI_ex, cR_ex, cV_ex, gI_sm, gR_sm, sb_eq, sb_sb, wexc_S, ↓reduceIte, eq_self, vI_def, vV_def, vR_def, nI_1, true_and, and_true, e157', hne, ↓s156'c, e3, xE_def, eIA]
  · have hz2 : WZ (ex2 (m 11) L) L := by
      unfold ex2
      refine ⟨?_, hz.2.1, ⟨_, f60, em_4 _ _⟩, ⟨_, f3, em_7 _ _⟩⟩
      rw [em_f (by omega) (by omega) (by omega), n2 1 (by omega), ud_ni (by omega)]; exact hz.1
    have hcc2 : ex2 (m 11) L 11 3 = nI cc := by unfold ex2; rw [em_f (by omega) (by omega) (by omega)]; exact hcc
    have hst2 : ∀ j, j < cc → ∃ a, a ≤ L ∧ ex2 (m 11) L 13 j = nI a := by
      intro j hj; unfold ex2; rw [em_o (by omega) (by omega)]; exact hst j hj
    have ecx : cX (ex2 (m 11) L) = cX (m 11) := by
      funext j; unfold cX ex2; rw [em_o (by omega) (by omega), n1 12 j (by omega) (by omega), ud_nc (by omega)]
    have e112 := s112 (G := G) (A := A) (n := n) (r := r) (H := H) (m := bgM (sb m 11 (ex2 (m 11) L))) (k := k) (p := p) hgs hg hk hs (L := L) (cc := cc) (by rw [bg_ne (by omega), sb_ne (by omega)]; exact hw) (by rw [bg_ne (by omega), sb_eq]; exact hz2) (by rw [bg_ne (by omega), sb_eq]; exact hcc2) hcc60 (by rw [bg_ne (by omega), sb_eq]; exact hst2) d
    rw [bg_ne (by omega), sb_eq, bg_ne (by omega), sb_ne (by omega), ecx] at e112
    have eR : runC (cX (m 11)) L cc cc (m 0) (ex2 (m 11) L) = exR m L cc := rfl
    rw [eR] at e112
    have ebg : ∀ Y, sb (bgM (sb m 11 (ex2 (m 11) L))) 11 Y = sb (bgM m) 11 Y := by
      intro Y
      funext x; unfold bgM sb
      by_cases x1 : x = 11
      · simp [x1]
      · by_cases x0 : x = 1 <;> simp [x0, x1]
    rw [ebg] at e112
    obtain ⟨r1, r2⟩ := runC_n (cX (m 11)) L cc cc (m 0) (ex2 (m 11) L)
    rw [eR] at r1 r2
    have rcc : (exR m L cc).2.2 11 3 = nI cc := by rw [r2 3 (by omega) (by omega) (by omega)]; exact hcc2
    have ec : ∀ B Y, sb (sb (sb (bgM m) 11 Y) 0 B) 11 (exC Y) = sb (sb (bgM m) 11 (exC Y)) 0 B := by
      intro B Y
      funext x; unfold sb
      by_cases x1 : x = 11
      · simp [x1]
      · by_cases x0 : x = 0 <;> simp [x0, x1]
    have e156 := s156' (G := G) (A := A) (n := n) (r := r) (H := H) (m := sb (sb (bgM m) 11 (exR m L cc).2.2) 0 (exR m L cc).2.1) (d + 7)
    rw [sb_ne (by omega), sb_eq] at e156
    rw [show ud (ud (exR m L cc).2.2 11 1 0) 11 3 0 = exC (exR m L cc).2.2 from rfl, ec] at e156
    have x0 : ∀ i, ex2 (m 11) L 0 i = m 11 0 i := by
      intro i; unfold ex2; rw [em_o (by omega) (by omega), n1 0 i (by omega) (by omega), ud_nc (by omega)]
    have x1 : ∀ i, ex2 (m 11) L 1 i = m 11 1 i := by
      intro i; unfold ex2; rw [em_o (by omega) (by omega), n1 1 i (by omega) (by omega), ud_nc (by omega)]
    by_cases hR : (exR m L cc).1 = -1
    · have hu2 : sb (sb (bgM m) 11 (exC (exR m L cc).2.2)) 0 (exR m L cc).2.1 11 0 4 = nI u := by
        rw [sb_ne (by omega), sb_eq]; unfold exC; rw [ud_nc (by omega), ud_nc (by omega), r1 0 4 (by omega) (by omega) (by omega) (by omega), x0]; exact hu
      have hh2 : HW (sb (sb (bgM m) 11 (exC (exR m L cc).2.2)) 0 (exR m L cc).2.1 11) := by
        intro i hi
        rw [sb_ne (by omega), sb_eq]; unfold exC; rw [ud_nc (by omega), ud_nc (by omega), r1 1 i (by omega) (by omega) (by omega) (by omega), x1]; exact hh i hi
      have h108 := s108 (G := G) (A := A) (n := n) (r := r) (H := H) (u := u) hg hu2 hu8 hh2 (d + 5)
      obtain ⟨⟨g0, _, _, _, _, _⟩, _, _⟩ := hg
      rw [b96_e]
      simp (disch := first | assumption | omega | (refine sbh ?_ ?_ <;> first | assumption | omega) | (refine sbPV ?_ ?_ <;> first | assumption | omega)) only [rcB0, ↓rfB0_0b, ↓rfB0_1b, ↓rfB0_2b, ↓wfB0_2b, rcB1, ↓rfB1_0b, ↓wfB1_0b, ↓rfB1_1b, ↓wfB1_1b, ↓rfB1_2b, ↓rfB1_3b, ↓rfB1_4b, ↓rfB1_5b, ↓rfB1_6b, ↓rfB1_7b, ↓rfB1_8b, ↓raB2b, ↓waB2b, ↓naB2b, ↓raB3b, ↓waB3b, ↓naB3b, ↓raB4b, ↓waB4b, ↓naB4b, ↓raB5b, ↓waB5b, ↓naB5b, ↓raB6b, ↓waB6b, ↓naB6b, ↓raB7b, ↓waB7b, ↓naB7b, ↓raB8b, ↓waB8b, ↓naB8b, rcB9, ↓rfB9_0b, ↓wfB9_0b, ↓rfB9_1b, ↓rfB9_2b, ↓rfB9_3b, ↓rfB9_4b, ↓raB10b, ↓waB10b, ↓naB10b, ↓raB11b, ↓waB11b, ↓naB11b, ↓raB12b, ↓waB12b, ↓naB12b, ↓raB13b, ↓waB13b, ↓naB13b, rcX0, ↓rfX0_0b, ↓rfX0_1b, ↓rfX0_2b, ↓rfX0_3b, ↓rfX0_4b, ↓wfX0_4b, ↓rfX0_5b, ↓wfX0_5b, ↓rfX0_6b, ↓rfX0_7b, ↓rfX0_8b, ↓rfX0_9b, ↓wfX0_9b, ↓rfX0_10b, ↓wfX0_10b, rcX2, ↓rfX2_0b, ↓rfX2_1b, ↓rfX2_2b, ↓rfX2_3b, ↓rfX2_4b, ↓rfX2_5b, ↓raX3b, ↓waX3b, ↓naX3b, ↓raX4b, ↓waX4b, ↓naX4b, ↓raX5b, ↓waX5b, ↓naX5b, ↓raX6b, ↓waX6b, ↓naX6b, ↓raX7b, ↓waX7b, ↓raX7L0b, ↓waX7L0b, ↓naX7b, ↓raX8b, ↓waX8b, ↓naX8b, rcX11, ↓rfX11_0b, ↓rfX11_1b, ↓wfX11_1b, ↓rfX11_2b, ↓rfX11_3b, ↓wfX11_3b, ↓rfX11_4b, ↓wfX11_4b, ↓rfX11_5b, ↓wfX11_5b, ↓rfX11_6b, ↓rfX11_7b, ↓wfX11_7b, ↓raX12b, ↓waX12b, ↓naX12b, ↓raX13b, ↓waX13b, ↓naX13b, ↓raX14b, ↓waX14b, ↓raX14L0b, ↓waX14L0b, ↓raX14L1b, ↓waX14L1b, ↓raX14L2b, ↓waX14L2b, ↓naX14b, ↓caB2b, ↓caB2Lb, ↓caB3b, ↓caB3Lb, ↓caB4b, ↓caB4Lb, ↓caB5b, ↓caB5Lb, ↓caB6b, ↓caB6Lb, ↓caB7b, ↓caB7Lb, ↓caB8b, ↓caB8Lb, ↓caB10b, ↓caB10Lb, ↓caB11b, ↓caB11Lb, ↓caB12b, ↓caB12Lb, ↓caB13b, ↓caB13Lb, ↓raHb, ↓raH0b, ↓waHb, ↓waH7b, Option.bind_some, cI_ok, cR_ok, cV_ok, cN_ok, cN_nu, cI_ex, cR_ex, cV_ex, gI_sm, gR_sm, sb_eq, sb_sb, wexc_S, ↓reduceIte, eq_self, vI_def, vV_def, vR_def, nI_1, true_and, and_true, e157', he, ↓s107c, e112, hR, sb_ne, rcc, e156, g0, h108]
    · have e10 : sb (sb (sb (sb (bgM m) 11 (exC (exR m L cc).2.2)) 0 (exR m L cc).2.1) 0 (cpB (exR m L cc).2.1 (cpB (m 1) (m 0)))) 11 (ud (exC (exR m L cc).2.2) 0 10 (exR m L cc).1) = sb (sb (bgM m) 11 (ud (exC (exR m L cc).2.2) 0 10 (exR m L cc).1)) 0 (cpB (exR m L cc).2.1 (cpB (m 1) (m 0))) := by
        funext x; unfold sb
        by_cases y1 : x = 11
        · simp [y1]
        · by_cases y0 : x = 0 <;> simp [y0, y1]
      rw [sb_sb] at e10
      have eb1 : bgM m 1 = cpB (m 1) (m 0) := by unfold bgM; rw [sb_eq]
      have h10 : (1 : Nat) ≠ 0 := by omega
      rw [b96_e]
      simp (disch := first | assumption | omega | (refine sbh ?_ ?_ <;> first | assumption | omega) | (refine sbPV ?_ ?_ <;> first | assumption | omega)) only [rcB0, ↓rfB0_0b, ↓rfB0_1b, ↓rfB0_2b, ↓wfB0_2b, rcB1, ↓rfB1_0b, ↓wfB1_0b, ↓rfB1_1b, ↓wfB1_1b, ↓rfB1_2b, ↓rfB1_3b, ↓rfB1_4b, ↓rfB1_5b, ↓rfB1_6b, ↓rfB1_7b, ↓rfB1_8b, ↓raB2b, ↓waB2b, ↓naB2b, ↓raB3b, ↓waB3b, ↓naB3b, ↓raB4b, ↓waB4b, ↓naB4b, ↓raB5b, ↓waB5b, ↓naB5b, ↓raB6b, ↓waB6b, ↓naB6b, ↓raB7b, ↓waB7b, ↓naB7b, ↓raB8b, ↓waB8b, ↓naB8b, rcB9, ↓rfB9_0b, ↓wfB9_0b, ↓rfB9_1b, ↓rfB9_2b, ↓rfB9_3b, ↓rfB9_4b, ↓raB10b, ↓waB10b, ↓naB10b, ↓raB11b, ↓waB11b, ↓naB11b, ↓raB12b, ↓waB12b, ↓naB12b, ↓raB13b, ↓waB13b, ↓naB13b, rcX0, ↓rfX0_0b, ↓rfX0_1b, ↓rfX0_2b, ↓rfX0_3b, ↓rfX0_4b, ↓wfX0_4b, ↓rfX0_5b, ↓wfX0_5b, ↓rfX0_6b, ↓rfX0_7b, ↓rfX0_8b, ↓rfX0_9b, ↓wfX0_9b, ↓rfX0_10b, ↓wfX0_10b, rcX2, ↓rfX2_0b, ↓rfX2_1b, ↓rfX2_2b, ↓rfX2_3b, ↓rfX2_4b, ↓rfX2_5b, ↓raX3b, ↓waX3b, ↓naX3b, ↓raX4b, ↓waX4b, ↓naX4b, ↓raX5b, ↓waX5b, ↓naX5b, ↓raX6b, ↓waX6b, ↓naX6b, ↓raX7b, ↓waX7b, ↓raX7L0b, ↓waX7L0b, ↓naX7b, ↓raX8b, ↓waX8b, ↓naX8b, rcX11, ↓rfX11_0b, ↓rfX11_1b, ↓wfX11_1b, ↓rfX11_2b, ↓rfX11_3b, ↓wfX11_3b, ↓rfX11_4b, ↓wfX11_4b, ↓rfX11_5b, ↓wfX11_5b, ↓rfX11_6b, ↓rfX11_7b, ↓wfX11_7b, ↓raX12b, ↓waX12b, ↓naX12b, ↓raX13b, ↓waX13b, ↓naX13b, ↓raX14b, ↓waX14b, ↓raX14L0b, ↓waX14L0b, ↓raX14L1b, ↓waX14L1b, ↓raX14L2b, ↓waX14L2b, ↓naX14b, ↓caB2b, ↓caB2Lb, ↓caB3b, ↓caB3Lb, ↓caB4b, ↓caB4Lb, ↓caB5b, ↓caB5Lb, ↓caB6b, ↓caB6Lb, ↓caB7b, ↓caB7Lb, ↓caB8b, ↓caB8Lb, ↓caB10b, ↓caB10Lb, ↓caB11b, ↓caB11Lb, ↓caB12b, ↓caB12Lb, ↓caB13b, ↓caB13Lb, ↓raHb, ↓raH0b, ↓waHb, ↓waH7b, Option.bind_some, cI_ok, cR_ok, cV_ok, cN_ok, cN_nu, cI_ex, cR_ex, cV_ex, gI_sm, gR_sm, sb_eq, sb_sb, wexc_S, ↓reduceIte, eq_self, vI_def, vV_def, vR_def, nI_1, true_and, and_true, e157', he, ↓s107c, e112, hR, rcc, e156, ↓s136c, sb_ne, eb1, e10, xE_def, eUO]
end
