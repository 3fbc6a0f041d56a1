/-! THE MODEL'S READER of commands, part 3: carrying out. -/
def sw3 (k : Int32) : Nat := if k = 105 then 128 else if k = 97 then 138 else if k = 112 then 151 else if k = 108 then 174 else if k = 99 then 184 else if k = 104 then 194 else if k = 114 then 206 else if k = 109 then 218 else 227
theorem toInt_lit {k : Int32} {z : Int} (h : k.toInt = z) : k = Int32.ofInt z := by rw [← h, Int32.ofInt_toInt]
theorem sw293 {β : Type} (k : Int32) (f : Nat → Option β) : sSw k 184 97 114 #[95, 184, 141, 184, 184, 184, 184, 151, 85, 184, 184, 131, 175, 184, 184, 108, 184, 163] 43 f = f (sw3 k) := by
  unfold sSw
  by_cases h : k.toInt < 97 ∨ 114 < k.toInt
  · rw [if_pos h]
    have hn : ∀ (z : Int32), 97 ≤ z.toInt → z.toInt ≤ 114 → ¬ k = z := by
      intro z h1 h2 e; subst e; omega
    have e : sw3 k = 227 := by
      unfold sw3
      rw [if_neg (hn 105 (by decide) (by decide)), if_neg (hn 97 (by decide) (by decide)), if_neg (hn 112 (by decide) (by decide)), if_neg (hn 108 (by decide) (by decide)), if_neg (hn 99 (by decide) (by decide)), if_neg (hn 104 (by decide) (by decide)), if_neg (hn 114 (by decide) (by decide)), if_neg (hn 109 (by decide) (by decide))]
    rw [e]; rfl
  · have : k.toInt = 97 ∨ k.toInt = 98 ∨ k.toInt = 99 ∨ k.toInt = 100 ∨ k.toInt = 101 ∨ k.toInt = 102 ∨ k.toInt = 103 ∨ k.toInt = 104 ∨ k.toInt = 105 ∨ k.toInt = 106 ∨ k.toInt = 107 ∨ k.toInt = 108 ∨ k.toInt = 109 ∨ k.toInt = 110 ∨ k.toInt = 111 ∨ k.toInt = 112 ∨ k.toInt = 113 ∨ k.toInt = 114 := by omega
    rcases this with h97 | h98 | h99 | h100 | h101 | h102 | h103 | h104 | h105 | h106 | h107 | h108 | h109 | h110 | h111 | h112 | h113 | h114
    · have := toInt_lit h97; subst this; rfl
    · have := toInt_lit h98; subst this; rfl
    · have := toInt_lit h99; subst this; rfl
    · have := toInt_lit h100; subst this; rfl
    · have := toInt_lit h101; subst this; rfl
    · have := toInt_lit h102; subst this; rfl
    · have := toInt_lit h103; subst this; rfl
    · have := toInt_lit h104; subst this; rfl
    · have := toInt_lit h105; subst this; rfl
    · have := toInt_lit h106; subst this; rfl
    · have := toInt_lit h107; subst this; rfl
    · have := toInt_lit h108; subst this; rfl
    · have := toInt_lit h109; subst this; rfl
    · have := toInt_lit h110; subst this; rfl
    · have := toInt_lit h111; subst this; rfl
    · have := toInt_lit h112; subst this; rfl
    · have := toInt_lit h113; subst this; rfl
    · have := toInt_lit h114; subst this; rfl
def np (s : Nat → Int32) : Nat := (s 2).toNatClampNeg
theorem np_eq {s : Nat → Int32} {p : Nat} (hp : s 2 = nI p) (hq : p ≤ 6) : np s = p := by unfold np; rw [hp, nI_clamp (by omega)]
def sh16 (x : Int32) : Int32 := (x.toUInt32 % 65536).toInt32
def mv (o : Nat × Int32 × (Nat → Int32)) : Nat × (Nat → Int32) := (o.1, o.2.2)
/-- what command i of the list C does to the numbers -/
def mdo (s : Nat → Int32) (C : Nat → Int32) (i : Nat) : Nat × (Nat → Int32) :=
  if C (5 * i) = 105 then mv (mDi s (np s) (C (5 * i + 2)))
  else if C (5 * i) = 97 then mv (mAd s (sh16 (C (5 * i + 1))) (C (5 * i + 2)) (C (5 * i + 3)))
  else if C (5 * i) = 112 then mv (mOp s (np s) (sh16 (C (5 * i + 1))) (C (5 * i + 2)) (C (5 * i + 3)) (C (5 * i + 4)))
  else if C (5 * i) = 108 then mv (mRm s (np s) (C (5 * i + 2)))
  else if C (5 * i) = 99 then mv (mCl s (np s) (C (5 * i + 2)))
  else if C (5 * i) = 104 then mv (mHi s (np s) (C (5 * i + 2)) (C (5 * i + 3)))
  else if C (5 * i) = 114 then mv (mRf s (C (5 * i + 2)) (C (5 * i + 3)))
  else if C (5 * i) = 109 then (0, (mtL (np s) (vaM s (np s)) s).1)
  else mv (mPd s (np s) 1)
theorem mdo_8 (s C : Nat → Int32) (i : Nat) : (mdo s C i).1 < 8 := by
  unfold mdo mv
  split
  · exact mDi_8
  split
  · exact mAd_8
  split
  · exact mOp_8
  split
  · exact mRm_8
  split
  · exact mCl_8
  split
  · exact mHi_8
  split
  · exact mRf_8
  split
  · exact Nat.zero_lt_succ _
  · exact mPd_8
def exM (C : Nat → Int32) : Nat → Nat → (Nat → Int32) → (Nat → Int32) × Option (Nat × Nat)
  | 0, _, s => (s, none)
  | k + 1, i, s => if (mdo s C i).1 = 0 then exM C k (i + 1) (mdo s C i).2 else (s, some (i, (mdo s C i).1))
section
variable {G : Glb} {A n r p u : Nat} {H : Hp} {m : Mm} {D : Bd} {s : Nat → Int32}
def mS (D : Bd) (s : Nat → Int32) (o : Nat × (Nat → Int32)) : Bd := us (if o.1 = 0 then D else ud D 0 6 (nI o.1)) 1 (if o.1 = 0 then o.2 else s)
theorem mR_S (o : Nat × Int32 × (Nat → Int32)) : ∃ v, mR A H m D s n r o = vI v (S A H (sb m 12 (mS D s (mv o))) n r) := by
  unfold mR mS mv
  by_cases h : o.1 = 0
  · rw [if_pos h]; refine ⟨o.2.1, ?_⟩; simp only [if_pos h]
  · rw [if_neg h]; refine ⟨0, ?_⟩; simp only [if_neg h]
theorem s293 (hp : s 2 = nI p) (hq : p ≤ 6) (hF : FV s p) {i : Nat} (hi : i < 59) (d : Nat) : call G (d + 5) 293 [.ref (ad A 12 0), .int (nI i)] (S A H (sb m 12 (us D 1 s)) n r) = vV (S A H (sb m 12 (mS D s (mdo s (D 7) i))) n r) := by
  have e5 : 5 * nI i = nI (5 * i) := by unfold nI; rw [Int32.ofNat_mul]; rfl
  have i1 : nI (5 * i) + 1 = nI (5 * i + 1) := nI_add _ 1
  have i2 : nI (5 * i) + 2 = nI (5 * i + 2) := nI_add _ 2
  have i3 : nI (5 * i) + 3 = nI (5 * i + 3) := nI_add _ 3
  have i4 : nI (5 * i) + 4 = nI (5 * i + 4) := nI_add _ 4
  have hr : rcv (S A H (sb m 12 (us D 1 s)) n r) (ad A 12 0) 6 = true := by simp (disch := first | assumption | omega | (refine sbh ?_ ?_ <;> first | assumption | omega) | (refine sbPV ?_ ?_ <;> first | assumption | omega)) only [rcB0, ↓rfB0_0b, ↓rfB0_1b, ↓rfB0_2b, ↓wfB0_2b, rcB1, ↓rfB1_0b, ↓wfB1_0b, ↓rfB1_1b, ↓wfB1_1b, ↓rfB1_2b, ↓rfB1_3b, ↓rfB1_4b, ↓rfB1_5b, ↓rfB1_6b, ↓rfB1_7b, ↓rfB1_8b, ↓raB2b, ↓waB2b, ↓naB2b, ↓raB3b, ↓waB3b, ↓naB3b, ↓raB4b, ↓waB4b, ↓naB4b, ↓raB5b, ↓waB5b, ↓naB5b, ↓raB6b, ↓waB6b, ↓naB6b, ↓raB7b, ↓waB7b, ↓naB7b, ↓raB8b, ↓waB8b, ↓naB8b, rcB9, ↓rfB9_0b, ↓wfB9_0b, ↓rfB9_1b, ↓rfB9_2b, ↓rfB9_3b, ↓rfB9_4b, ↓raB10b, ↓waB10b, ↓naB10b, ↓raB11b, ↓waB11b, ↓naB11b, ↓raB12b, ↓waB12b, ↓naB12b, ↓raB13b, ↓waB13b, ↓naB13b, rcX0, ↓rfX0_0b, ↓rfX0_1b, ↓rfX0_2b, ↓rfX0_3b, ↓rfX0_4b, ↓wfX0_4b, ↓rfX0_5b, ↓wfX0_5b, ↓rfX0_6b, ↓rfX0_7b, ↓rfX0_8b, ↓rfX0_9b, ↓wfX0_9b, ↓rfX0_10b, ↓wfX0_10b, rcX2, ↓rfX2_0b, ↓rfX2_1b, ↓rfX2_2b, ↓rfX2_3b, ↓rfX2_4b, ↓rfX2_5b, ↓raX3b, ↓waX3b, ↓naX3b, ↓raX4b, ↓waX4b, ↓naX4b, ↓raX5b, ↓waX5b, ↓naX5b, ↓raX6b, ↓waX6b, ↓naX6b, ↓raX7b, ↓waX7b, ↓raX7L0b, ↓waX7L0b, ↓naX7b, ↓raX8b, ↓waX8b, ↓naX8b, rcX11, ↓rfX11_0b, ↓rfX11_1b, ↓wfX11_1b, ↓rfX11_2b, ↓rfX11_3b, ↓wfX11_3b, ↓rfX11_4b, ↓wfX11_4b, ↓rfX11_5b, ↓wfX11_5b, ↓rfX11_6b, ↓rfX11_7b, ↓wfX11_7b, ↓raX12b, ↓waX12b, ↓naX12b, ↓raX13b, ↓waX13b, ↓naX13b, ↓raX14b, ↓waX14b, ↓raX14L0b, ↓waX14L0b, ↓raX14L1b, ↓waX14L1b, ↓raX14L2b, ↓waX14L2b, ↓naX14b, rcM0, ↓rfM0_0b, ↓rfM0_1b, ↓rfM0_2b, ↓rfM0_3b, ↓wfM0_3b, ↓rfM0_4b, ↓rfM0_5b, ↓wfM0_5b, ↓rfM0_6b, ↓wfM0_6b, ↓rfM0_7b, ↓rfM0_8b, ↓wfM0_8b, ↓rfM0_9b, ↓rfM0_10b, ↓wfM0_10b, ↓rfM0_11b, ↓wfM0_11b, ↓rfM0_12b, ↓wfM0_12b, ↓rfM0_13b, ↓wfM0_13b, ↓rfM0_14b, ↓wfM0_14b, ↓rfM0_15b, ↓rfM0_16b, ↓wfM0_16b, ↓raM1b, ↓waM1b, ↓raM1L0b, ↓waM1L0b, ↓raM1L1b, ↓waM1L1b, ↓raM1L2b, ↓waM1L2b, ↓naM1b, ↓raM2b, ↓waM2b, ↓naM2b, ↓raM3b, ↓waM3b, ↓naM3b, ↓raM4b, ↓waM4b, ↓naM4b, ↓raM5b, ↓waM5b, ↓naM5b, ↓raM6b, ↓waM6b, ↓naM6b, ↓raM7b, ↓waM7b, ↓naM7b, ↓caB2b, ↓caB2Lb, ↓caB3b, ↓caB3Lb, ↓caB4b, ↓caB4Lb, ↓caB5b, ↓caB5Lb, ↓caB6b, ↓caB6Lb, ↓caB7b, ↓caB7Lb, ↓caB8b, ↓caB8Lb, ↓caB10b, ↓caB10Lb, ↓caB11b, ↓caB11Lb, ↓caB12b, ↓caB12Lb, ↓caB13b, ↓caB13Lb, ↓caM11b, ↓caM11Lb, ↓caM11Yb, ↓caM11Xb, ↓caM12b, ↓caM12Lb, ↓caM12Yb, ↓caM12Xb, ↓caM21b, ↓caM21Lb, ↓caM21Yb, ↓caM21Xb, ↓caM13b, ↓caM13Lb, ↓caM13Yb, ↓caM13Xb, ↓caM31b, ↓caM31Lb, ↓caM31Yb, ↓caM31Xb, ↓caM24b, ↓caM24Lb, ↓caM24Yb, ↓caM24Xb, ↓caM44b, ↓caM44Yb, ↓caM44Xb, ↓caM44Lb, ↓caM41b, ↓caM41Lb, ↓caM41Yb, ↓caM41Xb, ↓raHb, ↓raH0b, ↓waHb, ↓waH7b, Option.bind_some, cI_ok, cR_ok, cV_ok, cN_ok, cN_nu, cI_ex, cR_ex, cV_ex, gI_sm, gR_sm, sb_eq, sb_sb, wexc_S, ↓reduceIte, eq_self, vI_def, vV_def, vR_def, nI_1, true_and, and_true, ix6, ix5, nI_p0, nI_p2, nI_p3, nI_p4, nI_p5, us_eq, ud_us1, ud_us0, ud_usn, us_us, us_ne, ud_eq, ud_ni, ud_nc, pm_11, pm_12, pm_16, pm_7, pm_f, pm_o, pm_w11, pm_w12, pm_w16, pm_w7]
  have en := np_eq hp hq
  have fin : ∀ {q : Res} {o : Nat × Int32 × (Nat → Int32)}, q = mR A H m D s n r o → (cI q fun _ s1 => some (.inl none, s1)) = vV (S A H (sb m 12 (mS D s (mv o))) n r) := by
    intro q o hq
    obtain ⟨v, hv⟩ := mR_S (A := A) (H := H) (m := m) (D := D) (s := s) (n := n) (r := r) o
    rw [hq, hv]; rfl
  have h0 : call G (d + 5) 293 [.ref (ad A 12 0), .int (nI i)] (S A H (sb m 12 (us D 1 s)) n r) = run G (d + 5) 293 (sw3 (D 7 (5 * i))) [some (.ref (ad A 12 0)), some (.int (nI i)), some (.int (sh16 (D 7 (5 * i + 1)))), some (.int (D 7 (5 * i + 2))), some (.int (D 7 (5 * i + 3))), none] [] (S A H (sb m 12 (us D 1 s)) n r) := by
    rw [b293_e]
    simp (disch := first | assumption | omega | (refine sbh ?_ ?_ <;> first | assumption | omega) | (refine sbPV ?_ ?_ <;> first | assumption | omega)) only [rcB0, ↓rfB0_0b, ↓rfB0_1b, ↓rfB0_2b, ↓wfB0_2b, rcB1, ↓rfB1_0b, ↓wfB1_0b, ↓rfB1_1b, ↓wfB1_1b, ↓rfB1_2b, ↓rfB1_3b, ↓rfB1_4b, ↓rfB1_5b, ↓rfB1_6b, ↓rfB1_7b, ↓rfB1_8b, ↓raB2b, ↓waB2b, ↓naB2b, ↓raB3b, ↓waB3b, ↓naB3b, ↓raB4b, ↓waB4b, ↓naB4b, ↓raB5b, ↓waB5b, ↓naB5b, ↓raB6b, ↓waB6b, ↓naB6b, ↓raB7b, ↓waB7b, ↓naB7b, ↓raB8b, ↓waB8b, ↓naB8b, rcB9, ↓rfB9_0b, ↓wfB9_0b, ↓rfB9_1b, ↓rfB9_2b, ↓rfB9_3b, ↓rfB9_4b, ↓raB10b, ↓waB10b, ↓naB10b, ↓raB11b, ↓waB11b, ↓naB11b, ↓raB12b, ↓waB12b, ↓naB12b, ↓raB13b, ↓waB13b, ↓naB13b, rcX0, ↓rfX0_0b, ↓rfX0_1b, ↓rfX0_2b, ↓rfX0_3b, ↓rfX0_4b, ↓wfX0_4b, ↓rfX0_5b, ↓wfX0_5b, ↓rfX0_6b, ↓rfX0_7b, ↓rfX0_8b, ↓rfX0_9b, ↓wfX0_9b, ↓rfX0_10b, ↓wfX0_10b, rcX2, ↓rfX2_0b, ↓rfX2_1b, ↓rfX2_2b, ↓rfX2_3b, ↓rfX2_4b, ↓rfX2_5b, ↓raX3b, ↓waX3b, ↓naX3b, ↓raX4b, ↓waX4b, ↓naX4b, ↓raX5b, ↓waX5b, ↓naX5b, ↓raX6b, ↓waX6b, ↓naX6b, ↓raX7b, ↓waX7b, ↓raX7L0b, ↓waX7L0b, ↓naX7b, ↓raX8b, ↓waX8b, ↓naX8b, rcX11, ↓rfX11_0b, ↓rfX11_1b, ↓wfX11_1b, ↓rfX11_2b, ↓rfX11_3b, ↓wfX11_3b, ↓rfX11_4b, ↓wfX11_4b, ↓rfX11_5b, ↓wfX11_5b, ↓rfX11_6b, ↓rfX11_7b, ↓wfX11_7b, ↓raX12b, ↓waX12b, ↓naX12b, ↓raX13b, ↓waX13b, ↓naX13b, ↓raX14b, ↓waX14b, ↓raX14L0b, ↓waX14L0b, ↓raX14L1b, ↓waX14L1b, ↓raX14L2b, ↓waX14L2b, ↓naX14b, rcM0, ↓rfM0_0b, ↓rfM0_1b, ↓rfM0_2b, ↓rfM0_3b, ↓wfM0_3b, ↓rfM0_4b, ↓rfM0_5b, ↓wfM0_5b, ↓rfM0_6b, ↓wfM0_6b, ↓rfM0_7b, ↓rfM0_8b, ↓wfM0_8b, ↓rfM0_9b, ↓rfM0_10b, ↓wfM0_10b, ↓rfM0_11b, ↓wfM0_11b, ↓rfM0_12b, ↓wfM0_12b, ↓rfM0_13b, ↓wfM0_13b, ↓rfM0_14b, ↓wfM0_14b, ↓rfM0_15b, ↓rfM0_16b, ↓wfM0_16b, ↓raM1b, ↓waM1b, ↓raM1L0b, ↓waM1L0b, ↓raM1L1b, ↓waM1L1b, ↓raM1L2b, ↓waM1L2b, ↓naM1b, ↓raM2b, ↓waM2b, ↓naM2b, ↓raM3b, ↓waM3b, ↓naM3b, ↓raM4b, ↓waM4b, ↓naM4b, ↓raM5b, ↓waM5b, ↓naM5b, ↓raM6b, ↓waM6b, ↓naM6b, ↓raM7b, ↓waM7b, ↓naM7b, ↓caB2b, ↓caB2Lb, ↓caB3b, ↓caB3Lb, ↓caB4b, ↓caB4Lb, ↓caB5b, ↓caB5Lb, ↓caB6b, ↓caB6Lb, ↓caB7b, ↓caB7Lb, ↓caB8b, ↓caB8Lb, ↓caB10b, ↓caB10Lb, ↓caB11b, ↓caB11Lb, ↓caB12b, ↓caB12Lb, ↓caB13b, ↓caB13Lb, ↓caM11b, ↓caM11Lb, ↓caM11Yb, ↓caM11Xb, ↓caM12b, ↓caM12Lb, ↓caM12Yb, ↓caM12Xb, ↓caM21b, ↓caM21Lb, ↓caM21Yb, ↓caM21Xb, ↓caM13b, ↓caM13Lb, ↓caM13Yb, ↓caM13Xb, ↓caM31b, ↓caM31Lb, ↓caM31Yb, ↓caM31Xb, ↓caM24b, ↓caM24Lb, ↓caM24Yb, ↓caM24Xb, ↓caM44b, ↓caM44Yb, ↓caM44Xb, ↓caM44Lb, ↓caM41b, ↓caM41Lb, ↓caM41Yb, ↓caM41Xb, ↓raHb, ↓raH0b, ↓waHb, ↓waH7b, Option.bind_some, cI_ok, cR_ok, cV_ok, cN_ok, cN_nu, cI_ex, cR_ex, cV_ex, gI_sm, gR_sm, sb_eq, sb_sb, wexc_S, ↓reduceIte, eq_self, vI_def, vV_def, vR_def, nI_1, true_and, and_true, ix6, ix5, nI_p0, nI_p2, nI_p3, nI_p4, nI_p5, us_eq, ud_us1, ud_us0, ud_usn, us_us, us_ne, ud_eq, ud_ni, ud_nc, pm_11, pm_12, pm_16, pm_7, pm_f, pm_o, pm_w11, pm_w12, pm_w16, pm_w7, e5, i1, i2, i3, i4]
    rw [b293_43, sw293]; rfl
  rw [h0]
  unfold sw3 mdo
  rw [en]
  by_cases h : D 7 (5 * i) = 105
  · rw [if_pos h, if_pos h]
    rw [b293_128, if_pos hr]; exact fin (s261 hp hq hF _ _)
  rw [if_neg h, if_neg h]
  by_cases h : D 7 (5 * i) = 97
  · rw [if_pos h, if_pos h]
    rw [b293_138, if_pos hr]; exact fin (s211 ..)
  rw [if_neg h, if_neg h]
  by_cases h : D 7 (5 * i) = 112
  · rw [if_pos h, if_pos h]
    rw [b293_151]
    have : ∀ (K : Int32 → Res), ((fR (S A H (sb m 12 (us D 1 s)) n r) (ad A 12 0) 6 15).bind fun v1 => ((aI (S A H (sb m 12 (us D 1 s)) n r) okI v1 ((5 * nI i) + 4)).bind K)) = K (D 7 (5 * i + 4)) := by
      intro K; simp (disch := first | assumption | omega | (refine sbh ?_ ?_ <;> first | assumption | omega) | (refine sbPV ?_ ?_ <;> first | assumption | omega)) only [rcB0, ↓rfB0_0b, ↓rfB0_1b, ↓rfB0_2b, ↓wfB0_2b, rcB1, ↓rfB1_0b, ↓wfB1_0b, ↓rfB1_1b, ↓wfB1_1b, ↓rfB1_2b, ↓rfB1_3b, ↓rfB1_4b, ↓rfB1_5b, ↓rfB1_6b, ↓rfB1_7b, ↓rfB1_8b, ↓raB2b, ↓waB2b, ↓naB2b, ↓raB3b, ↓waB3b, ↓naB3b, ↓raB4b, ↓waB4b, ↓naB4b, ↓raB5b, ↓waB5b, ↓naB5b, ↓raB6b, ↓waB6b, ↓naB6b, ↓raB7b, ↓waB7b, ↓naB7b, ↓raB8b, ↓waB8b, ↓naB8b, rcB9, ↓rfB9_0b, ↓wfB9_0b, ↓rfB9_1b, ↓rfB9_2b, ↓rfB9_3b, ↓rfB9_4b, ↓raB10b, ↓waB10b, ↓naB10b, ↓raB11b, ↓waB11b, ↓naB11b, ↓raB12b, ↓waB12b, ↓naB12b, ↓raB13b, ↓waB13b, ↓naB13b, rcX0, ↓rfX0_0b, ↓rfX0_1b, ↓rfX0_2b, ↓rfX0_3b, ↓rfX0_4b, ↓wfX0_4b, ↓rfX0_5b, ↓wfX0_5b, ↓rfX0_6b, ↓rfX0_7b, ↓rfX0_8b, ↓rfX0_9b, ↓wfX0_9b, ↓rfX0_10b, ↓wfX0_10b, rcX2, ↓rfX2_0b, ↓rfX2_1b, ↓rfX2_2b, ↓rfX2_3b, ↓rfX2_4b, ↓rfX2_5b, ↓raX3b, ↓waX3b, ↓naX3b, ↓raX4b, ↓waX4b, ↓naX4b, ↓raX5b, ↓waX5b, ↓naX5b, ↓raX6b, ↓waX6b, ↓naX6b, ↓raX7b, ↓waX7b, ↓raX7L0b, ↓waX7L0b, ↓naX7b, ↓raX8b, ↓waX8b, ↓naX8b, rcX11, ↓rfX11_0b, ↓rfX11_1b, ↓wfX11_1b, ↓rfX11_2b, ↓rfX11_3b, ↓wfX11_3b, ↓rfX11_4b, ↓wfX11_4b, ↓rfX11_5b, ↓wfX11_5b, ↓rfX11_6b, ↓rfX11_7b, ↓wfX11_7b, ↓raX12b, ↓waX12b, ↓naX12b, ↓raX13b, ↓waX13b, ↓naX13b, ↓raX14b, ↓waX14b, ↓raX14L0b, ↓waX14L0b, ↓raX14L1b, ↓waX14L1b, ↓raX14L2b, ↓waX14L2b, ↓naX14b, rcM0, ↓rfM0_0b, ↓rfM0_1b, ↓rfM0_2b, ↓rfM0_3b, ↓wfM0_3b, ↓rfM0_4b, ↓rfM0_5b, ↓wfM0_5b, ↓rfM0_6b, ↓wfM0_6b, ↓rfM0_7b, ↓rfM0_8b, ↓wfM0_8b, ↓rfM0_9b, ↓rfM0_10b, ↓wfM0_10b, ↓rfM0_11b, ↓wfM0_11b, ↓rfM0_12b, ↓wfM0_12b, ↓rfM0_13b, ↓wfM0_13b, ↓rfM0_14b, ↓wfM0_14b, ↓rfM0_15b, ↓rfM0_16b, ↓wfM0_16b, ↓raM1b, ↓waM1b, ↓raM1L0b, ↓waM1L0b, ↓raM1L1b, ↓waM1L1b, ↓raM1L2b, ↓waM1L2b, ↓naM1b, ↓raM2b, ↓waM2b, ↓naM2b, ↓raM3b, ↓waM3b, ↓naM3b, ↓raM4b, ↓waM4b, ↓naM4b, ↓raM5b, ↓waM5b, ↓naM5b, ↓raM6b, ↓waM6b, ↓naM6b, ↓raM7b, ↓waM7b, ↓naM7b, ↓caB2b, ↓caB2Lb, ↓caB3b, ↓caB3Lb, ↓caB4b, ↓caB4Lb, ↓caB5b, ↓caB5Lb, ↓caB6b, ↓caB6Lb, ↓caB7b, ↓caB7Lb, ↓caB8b, ↓caB8Lb, ↓caB10b, ↓caB10Lb, ↓caB11b, ↓caB11Lb, ↓caB12b, ↓caB12Lb, ↓caB13b, ↓caB13Lb, ↓caM11b, ↓caM11Lb, ↓caM11Yb, ↓caM11Xb, ↓caM12b, ↓caM12Lb, ↓caM12Yb, ↓caM12Xb, ↓caM21b, ↓caM21Lb, ↓caM21Yb, ↓caM21Xb, ↓caM13b, ↓caM13Lb, ↓caM13Yb, ↓caM13Xb, ↓caM31b, ↓caM31Lb, ↓caM31Yb, ↓caM31Xb, ↓caM24b, ↓caM24Lb, ↓caM24Yb, ↓caM24Xb, ↓caM44b, ↓caM44Yb, ↓caM44Xb, ↓caM44Lb, ↓caM41b, ↓caM41Lb, ↓caM41Yb, ↓caM41Xb, ↓raHb, ↓raH0b, ↓waHb, ↓waH7b, Option.bind_some, cI_ok, cR_ok, cV_ok, cN_ok, cN_nu, cI_ex, cR_ex, cV_ex, gI_sm, gR_sm, sb_eq, sb_sb, wexc_S, ↓reduceIte, eq_self, vI_def, vV_def, vR_def, nI_1, true_and, and_true, ix6, ix5, nI_p0, nI_p2, nI_p3, nI_p4, nI_p5, us_eq, ud_us1, ud_us0, ud_usn, us_us, us_ne, ud_eq, ud_ni, ud_nc, pm_11, pm_12, pm_16, pm_7, pm_f, pm_o, pm_w11, pm_w12, pm_w16, pm_w7, e5, i4]
    rw [this, if_pos hr]; exact fin (s238 hp hq ..)
  rw [if_neg h, if_neg h]
  by_cases h : D 7 (5 * i) = 108
  · rw [if_pos h, if_pos h]
    rw [b293_174, if_pos hr]; exact fin (s214 hp hq ..)
  rw [if_neg h, if_neg h]
  by_cases h : D 7 (5 * i) = 99
  · rw [if_pos h, if_pos h]
    rw [b293_184, if_pos hr]; exact fin (s240 hp hq ..)
  rw [if_neg h, if_neg h]
  by_cases h : D 7 (5 * i) = 104
  · rw [if_pos h, if_pos h]
    rw [b293_194, if_pos hr]; exact fin (s257 hp hq ..)
  rw [if_neg h, if_neg h]
  by_cases h : D 7 (5 * i) = 114
  · rw [if_pos h, if_pos h]
    rw [b293_206, if_pos hr]; exact fin (s230 ..)
  rw [if_neg h, if_neg h]
  by_cases h : D 7 (5 * i) = 109
  · rw [if_pos h, if_pos h]
    rw [b293_218, if_pos hr, s263 hp hq]; rfl
  rw [if_neg h, if_neg h]
  rw [b293_227, if_pos hr]; exact fin (s272 hp hq hF ..)
theorem s293c (hp : s 2 = nI p) (hq : p ≤ 6) (hF : FV s p) {i : Nat} (hi : i < 59) (d : Nat) (K : St → Res) : cV (call G (d + 5) 293 [.ref (ad A 12 0), .int (nI i)] (S A H (sb m 12 (us D 1 s)) n r)) K = K (S A H (sb m 12 (mS D s (mdo s (D 7) i))) n r) := congrArg (fun z => cV z K) (show call G (d + 5) 293 [.ref (ad A 12 0), .int (nI i)] (S A H (sb m 12 (us D 1 s)) n r) = vV (S A H (sb m 12 (mS D s (mdo s (D 7) i))) n r) from by apply s293 <;> assumption)
end
