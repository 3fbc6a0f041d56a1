/-! CLASS AND MODEL TOGETHER, part 6: what the tries answer. -/
section
variable {B : Bd} {s : Nat → Int32} {k p : Nat} {g : Nat → Nat}
theorem O_ad (h : CP B s k p g) {nid : Nat} (hnid : B 1 1 = nI nid) (hn1 : nid + 1 < 2000000000) (sh w rr : Int32) : ((tAd B k sh w rr).1 = 0 ∧ (mAd s sh w rr).1 = 0 ∧ (tAd B k sh w rr).2 1 1 - 1 = (mAd s sh w rr).2.1 ∧ (tAd B k sh w rr).2 = apB B k sh w rr ∧ ∃ g', CP (tAd B k sh w rr).2 (mAd s sh w rr).2.2 (k + 1) p g') ∨ ((tAd B k sh w rr).1 = 1 ∧ (mAd s sh w rr).1 = 1) ∨ ((tAd B k sh w rr).1 = 2 ∧ (mAd s sh w rr).1 = 2) := by
  unfold tAd mAd
  by_cases hc : (shp sh && (inR w 0 100 && inR rr 0 50)) = true
  · rw [if_pos hc, if_pos hc, Q_many h]
    simp only [Bool.and_eq_true] at hc
    by_cases hk : k < 10
    · rw [if_pos hk, if_neg (by omega)]
      obtain ⟨a, ha⟩ := fst_ex (p := fun a => !(uM s a)) (n := 10) (by
        obtain ⟨i, hi, hi2⟩ := cnt_lt (p := uM s) (n := 10) (by rw [Q_many h]; omega)
        exact ⟨i, hi, by rw [hi2]; rfl⟩)
      rw [ha]
      have hs := fst_some ha
      left
      refine ⟨rfl, rfl, ?_, rfl, _, CP_ad h hk hs.1 (by have := hs.2.1; simpa using this) hnid hn1 (shp_is hc.1) (inR_b (b := 100) (by omega) hc.2.1) (inR_b (b := 50) (by omega) hc.2.2)⟩
      show apB B k sh w rr 1 1 - 1 = s 0
      unfold apB
      rw [ud_eq, Int32.add_sub_cancel, h.2.2.1.1]
    · rw [if_neg hk, if_pos (by have := CP_k h; omega)]
      right; right; exact ⟨rfl, rfl⟩
  · rw [if_neg hc, if_neg hc]
    right; left; exact ⟨rfl, rfl⟩
theorem O_op (h : CP B s k p g) (sh lo hi pay : Int32) : ((tOp B p sh lo hi pay).1 = 0 ∧ (mOp s p sh lo hi pay).1 = 0 ∧ (tOp B p sh lo hi pay).2 9 0 - 1 = (mOp s p sh lo hi pay).2.1 ∧ (tOp B p sh lo hi pay).2 = apP B p sh lo hi pay ∧ CP (tOp B p sh lo hi pay).2 (mOp s p sh lo hi pay).2.2 k (p + 1) g) ∨ ((tOp B p sh lo hi pay).1 = 1 ∧ (mOp s p sh lo hi pay).1 = 1) ∨ ((tOp B p sh lo hi pay).1 = 2 ∧ (mOp s p sh lo hi pay).1 = 2) := by
  unfold tOp mOp
  by_cases hc : (((sh == 42) || shp sh) && (inR lo 0 100 && (inR hi 0 50 && inR pay 1 99))) = true
  · rw [if_pos hc, if_pos hc]
    simp only [Bool.and_eq_true, Bool.or_eq_true, beq_iff_eq] at hc
    have hp := CP_p h
    by_cases hp6 : p < 6
    · rw [if_pos hp6, if_neg (by omega)]
      left
      have hpay : ∃ t, t ≤ 99 ∧ pay = nI t := by
        refine inR_b (b := 99) (by omega) ?_
        have h4 := hc.2.2.2
        unfold inR at h4 ⊢
        simp only [Bool.and_eq_true, Bool.not_eq_true', decide_eq_false_iff_not] at h4 ⊢
        refine ⟨fun hx => h4.1 (Int32.lt_trans hx (by decide)), h4.2⟩
      refine ⟨rfl, rfl, ?_, rfl, CP_op h hp6 (hc.1.imp id shp_is) (inR_b (b := 100) (by omega) hc.2.1) (inR_b (b := 50) (by omega) hc.2.2.1) hpay⟩
      show apP B p sh lo hi pay 9 0 - 1 = nI p
      unfold apP
      rw [ud_eq, nI_pred]
    · rw [if_neg hp6, if_pos (by omega)]
      right; right; exact ⟨rfl, rfl⟩
  · rw [if_neg hc, if_neg hc]
    right; left; exact ⟨rfl, rfl⟩
theorem soM_n (h : CP B s k p g) {x : Int32} (e : fx B k x = none) : soM s x = none := by rw [Q_so h, e]; rfl
theorem soM_s (h : CP B s k p g) {x : Int32} {i : Nat} (e : fx B k x = some i) : soM s x = some (g i) := by rw [Q_so h, e]; rfl
theorem fx_k {x : Int32} {i : Nat} (e : fx B k x = some i) : i < k ∧ B 2 i = x := by
  have := fst_some e
  exact ⟨this.1, by have := this.2.1; simpa using this⟩
theorem O_rf (h : CP B s k p g) (x y : Int32) : ((tRf B k x y).1 = 0 ∧ (mRf s x y).1 = 0 ∧ bcI ((tRf B k x y).2 8 ((fx B k y).getD 0)) = (mRf s x y).2.1 ∧ (∃ i v, (tRf B k x y).2 = ud B 8 i v) ∧ CP (tRf B k x y).2 (mRf s x y).2.2 k p g) ∨ ((tRf B k x y).1 = 3 ∧ (mRf s x y).1 = 1) ∨ ((tRf B k x y).1 = 1 ∧ (mRf s x y).1 = 2) ∨ ((tRf B k x y).1 = 2 ∧ (mRf s x y).1 = 3) := by
  have hk := CP_k h
  unfold tRf mRf
  cases e1 : fx B k x with
  | none => rw [soM_n h e1]; right; left; exact ⟨rfl, rfl⟩
  | some j =>
    rw [soM_s h e1]
    cases e2 : fx B k y with
    | none => rw [soM_n h e2]; right; left; exact ⟨rfl, rfl⟩
    | some i =>
      rw [soM_s h e2]
      have hj := fx_k e1
      have hi := fx_k e2
      have hgi := IJ_lt (CP_g h) hi.1
      have hgj := IJ_lt (CP_g h) hj.1
      show ((if j = i then (1, B) else if rfB B j i = true then (2, B) else (0, ud B 8 i (B 8 i ||| one j))) : Nat × Bd).1 = 0 ∧ _ ∨ _
      by_cases hji : j = i
      · have : x = y := by rw [← hj.2, ← hi.2, hji]
        right; right; left
        exact ⟨by show ((if j = i then (1, B) else _) : Nat × Bd).1 = 1; rw [if_pos hji], by show ((if x = y then (2, 0, s) else _) : Nat × Int32 × (Nat → Int32)).1 = 2; rw [if_pos this]⟩
      · have hxy : ¬ x = y := fun hx => by
          rw [hx] at e1; rw [e1] at e2; cases e2; exact hji rfl
        by_cases hr : rfB B j i = true
        · right; right; right
          refine ⟨?_, ?_⟩
          · show ((if j = i then (1, B) else if rfB B j i = true then (2, B) else _) : Nat × Bd).1 = 2
            rw [if_neg hji, if_pos hr]
          · show ((if x = y then (2, 0, s) else if bitM s (g j) (g i) = true then (3, 0, s) else _) : Nat × Int32 × (Nat → Int32)).1 = 3
            rw [if_neg hxy, Q_rf h hi.1 hj.1, if_pos hr]
        · left
          obtain ⟨V, hV, eV, hz⟩ := CP_gv h hi.1
          obtain ⟨W, hW, eW, b1, b2⟩ := (CP_sl h hi.1).2.2.2.2.2
          rw [eV, nt_nI (by omega)] at b1
          have cp := CP_8 h hi.1 (V := V ||| 2 ^ j) (W := W ||| 2 ^ g j) (bt_orl hV (by omega)) (bt_orl hW hgj) (fun l hl => by
            rw [bt_orb, bt_orb, b1 l hl]
            congr 1
            rw [decide_eq_decide]
            exact ⟨fun hx => IJ_in (CP_g h) hj.1 hl hx, fun hx => by rw [hx]⟩) (fun l hl => by
            rw [bt_orb, hz l hl, decide_eq_false (by omega)]; rfl) (fun a ha hn => by
            rw [bt_orb, b2 a ha hn, decide_eq_false (hn j hj.1)]; rfl)
          show ((if j = i then (1, B) else if rfB B j i = true then (2, B) else (0, ud B 8 i (B 8 i ||| one j))) : Nat × Bd).1 = 0 ∧ ((if x = y then (2, 0, s) else if bitM s (g j) (g i) = true then (3, 0, s) else (0, btI (sl s (g i) 5 ||| one (g j)), su s (3 + 6 * g i + 5) (sl s (g i) 5 ||| one (g j)))) : Nat × Int32 × (Nat → Int32)).1 = 0 ∧ bcI (((if j = i then (1, B) else if rfB B j i = true then (2, B) else (0, ud B 8 i (B 8 i ||| one j))) : Nat × Bd).2 8 i) = ((if x = y then (2, 0, s) else if bitM s (g j) (g i) = true then (3, 0, s) else (0, btI (sl s (g i) 5 ||| one (g j)), su s (3 + 6 * g i + 5) (sl s (g i) 5 ||| one (g j)))) : Nat × Int32 × (Nat → Int32)).2.1 ∧ (∃ i' v, ((if j = i then (1, B) else if rfB B j i = true then (2, B) else (0, ud B 8 i (B 8 i ||| one j))) : Nat × Bd).2 = ud B 8 i' v) ∧ CP ((if j = i then (1, B) else if rfB B j i = true then (2, B) else (0, ud B 8 i (B 8 i ||| one j))) : Nat × Bd).2 ((if x = y then (2, 0, s) else if bitM s (g j) (g i) = true then (3, 0, s) else (0, btI (sl s (g i) 5 ||| one (g j)), su s (3 + 6 * g i + 5) (sl s (g i) 5 ||| one (g j)))) : Nat × Int32 × (Nat → Int32)).2.2 k p g
          rw [if_neg hji, if_neg hr, if_neg hxy, Q_rf h hi.1 hj.1, if_neg hr, eV, eW, bt_or V hV j (by omega), bt_or W hW _ hgj]
          refine ⟨rfl, rfl, ?_, ⟨_, _, rfl⟩, cp⟩
          have q := Q_bt cp hi.1
          rw [sl_su_s (by omega) (by omega), if_pos ⟨rfl, rfl⟩] at q
          exact q.symm
theorem O_wd (h : CP B s k p g) (x y : Int32) : ((tWd B k x y).1 = 0 ∧ (mWd s x y).1 = 0 ∧ bcI ((tWd B k x y).2 8 ((fx B k y).getD 0)) = (mWd s x y).2.1 ∧ (∃ i v, (tWd B k x y).2 = ud B 8 i v) ∧ CP (tWd B k x y).2 (mWd s x y).2.2 k p g) ∨ ((tWd B k x y).1 = 3 ∧ (mWd s x y).1 = 1) := by
  have hk := CP_k h
  unfold tWd mWd
  cases e1 : fx B k x with
  | none => rw [soM_n h e1]; right; exact ⟨rfl, rfl⟩
  | some j =>
    rw [soM_s h e1]
    cases e2 : fx B k y with
    | none => rw [soM_n h e2]; right; exact ⟨rfl, rfl⟩
    | some i =>
      rw [soM_s h e2]
      have hj := fx_k e1
      have hi := fx_k e2
      have hgi := IJ_lt (CP_g h) hi.1
      have hgj := IJ_lt (CP_g h) hj.1
      show ((if rfB B j i = true then (0, ud B 8 i (B 8 i &&& (one j ^^^ (-1)))) else (3, B)) : Nat × Bd).1 = 0 ∧ ((if bitM s (g j) (g i) = true then (0, btI (sl s (g i) 5 &&& (one (g j) ^^^ (-1))), su s (3 + 6 * g i + 5) (sl s (g i) 5 &&& (one (g j) ^^^ (-1)))) else (1, 0, s)) : Nat × Int32 × (Nat → Int32)).1 = 0 ∧ bcI (((if rfB B j i = true then (0, ud B 8 i (B 8 i &&& (one j ^^^ (-1)))) else (3, B)) : Nat × Bd).2 8 i) = ((if bitM s (g j) (g i) = true then (0, btI (sl s (g i) 5 &&& (one (g j) ^^^ (-1))), su s (3 + 6 * g i + 5) (sl s (g i) 5 &&& (one (g j) ^^^ (-1)))) else (1, 0, s)) : Nat × Int32 × (Nat → Int32)).2.1 ∧ (∃ i' v, ((if rfB B j i = true then (0, ud B 8 i (B 8 i &&& (one j ^^^ (-1)))) else (3, B)) : Nat × Bd).2 = ud B 8 i' v) ∧ CP ((if rfB B j i = true then (0, ud B 8 i (B 8 i &&& (one j ^^^ (-1)))) else (3, B)) : Nat × Bd).2 ((if bitM s (g j) (g i) = true then (0, btI (sl s (g i) 5 &&& (one (g j) ^^^ (-1))), su s (3 + 6 * g i + 5) (sl s (g i) 5 &&& (one (g j) ^^^ (-1)))) else (1, 0, s)) : Nat × Int32 × (Nat → Int32)).2.2 k p g ∨ ((if rfB B j i = true then (0, ud B 8 i (B 8 i &&& (one j ^^^ (-1)))) else (3, B)) : Nat × Bd).1 = 3 ∧ ((if bitM s (g j) (g i) = true then (0, btI (sl s (g i) 5 &&& (one (g j) ^^^ (-1))), su s (3 + 6 * g i + 5) (sl s (g i) 5 &&& (one (g j) ^^^ (-1)))) else (1, 0, s)) : Nat × Int32 × (Nat → Int32)).1 = 1
      rw [Q_rf h hi.1 hj.1]
      by_cases hr : rfB B j i = true
      · left
        obtain ⟨V, hV, eV, hz⟩ := CP_gv h hi.1
        obtain ⟨W, hW, eW, b1, b2⟩ := (CP_sl h hi.1).2.2.2.2.2
        rw [eV, nt_nI (by omega)] at b1
        have cp := CP_8 h hi.1 (V := clN j V) (W := clN (g j) W) (bt_cll hV) (bt_cll hW) (fun l hl => by
          rw [bt_clb _ _ _ (IJ_lt (CP_g h) hl), bt_clb _ _ _ (by omega), b1 l hl]
          congr 2
          rw [decide_eq_decide]
          exact ⟨fun hx => IJ_in (CP_g h) hj.1 hl hx, fun hx => by rw [hx]⟩) (fun l hl => by
          unfold clN; rw [Nat.testBit_and, hz l hl]; rfl) (fun a ha hn => by
          unfold clN; rw [Nat.testBit_and, b2 a ha hn]; rfl)
        rw [if_pos hr, if_pos hr, eV, eW, bt_cl V hV j (by omega), bt_cl W hW _ hgj]
        refine ⟨rfl, rfl, ?_, ⟨_, _, rfl⟩, cp⟩
        have q := Q_bt cp hi.1
        rw [sl_su_s (by omega) (by omega), if_pos ⟨rfl, rfl⟩] at q
        exact q.symm
      · right; rw [if_neg hr, if_neg hr]; exact ⟨rfl, rfl⟩
end
