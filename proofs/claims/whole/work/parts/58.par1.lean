/-! THE LAW'S LOOP, part 3: questions that may be refused. -/
section
variable {G : Glb} {A n r t : Nat} {H H0 : Hp} {mm : Mm} {D : Bd} {s : Nat → Int32}
abbrev oJ (b : Int32) : Int64 := b.toInt64
theorem P_4 (hL : LJ A H0 mm D s H n r t) (x : Int32) : PAIR G A H0 mm H n r t 4 220 [.int x] [.int x] oJ := by
  obtain ⟨k, p, g, C, u, cp, cb, hC, hn, hk, hp, hq, hv, h2, hu, hu8, hh, hDu, hid⟩ := LJ_get hL
  have e : ∀ H' n' r' (d : Nat), call G (d + 4) 220 [.ref (ad A 12 0), .int x] (S A H' (sb mm 12 (us D 1 s)) n' r') = _ := fun H' n' r' d => s220 x d
  rw [Q_many cp] at e
  cases hx : inR x 0 (nI k - 1) with
  | false => simp only [hx, Bool.false_eq_true, ↓reduceIte] at e; exact PQ_x hL not1 (w4_x1 rcX0 (s50n hx hn hk _) (by decide +kernel)) (e _ _ _ _)
  | true =>
    obtain ⟨i, hi, rfl⟩ := (inR_nI (by omega)).mp hx
    simp only [hx, ↓reduceIte] at e
    exact PQ_v hL (w4_v rcX0 (s50 hi hn hk _) (lC_w (LJ_lx hL) _)) (e _ _ _ _) (by rw [Q_at cp hi])
theorem P_5 (hL : LJ A H0 mm D s H n r t) (x : Int32) : PAIR G A H0 mm H n r t 5 222 [.int x] [.int x] oJ := by
  obtain ⟨k, p, g, C, u, cp, cb, hC, hn, hk, hp, hq, hv, h2, hu, hu8, hh, hDu, hid⟩ := LJ_get hL
  cases e : fx (mm 0) k x with
  | none => exact PQ_x hL not1 (w5_x1 rcX0 (s51n e hn hk _) (by decide +kernel)) (s222n (soM_n cp e) _)
  | some i => exact PQ_v hL (w5_v rcX0 (s51 e hn hk _) (lC_w (LJ_lx hL) _)) (s222 (soM_s cp e) _) (by rw [(CP_sl cp (fx_k e).1).2.1, chr_sh (Or.inr (CP_sh cp (fx_k e).1)), eq_chr (Or.inr (CP_sh cp (fx_k e).1))])
theorem P_6 (hL : LJ A H0 mm D s H n r t) (x : Int32) : PAIR G A H0 mm H n r t 6 223 [.int x] [.int x] oJ := by
  obtain ⟨k, p, g, C, u, cp, cb, hC, hn, hk, hp, hq, hv, h2, hu, hu8, hh, hDu, hid⟩ := LJ_get hL
  cases e : fx (mm 0) k x with
  | none => exact PQ_x hL not1 (w6_x1 rcX0 (s52n e hn hk _) (by decide +kernel)) (s223n (soM_n cp e) _)
  | some i => exact PQ_v hL (w6_v rcX0 (s52 e hn hk _) (lC_w (LJ_lx hL) _)) (s223 (soM_s cp e) _) (by rw [(CP_sl cp (fx_k e).1).2.2.1])
theorem P_7 (hL : LJ A H0 mm D s H n r t) (x : Int32) : PAIR G A H0 mm H n r t 7 224 [.int x] [.int x] oJ := by
  obtain ⟨k, p, g, C, u, cp, cb, hC, hn, hk, hp, hq, hv, h2, hu, hu8, hh, hDu, hid⟩ := LJ_get hL
  cases e : fx (mm 0) k x with
  | none => exact PQ_x hL not1 (w7_x1 rcX0 (s53n e hn hk _) (by decide +kernel)) (s224n (soM_n cp e) _)
  | some i => exact PQ_v hL (w7_v rcX0 (s53 e hn hk _) (lC_w (LJ_lx hL) _)) (s224 (soM_s cp e) _) (by rw [(CP_sl cp (fx_k e).1).2.2.2.1])
theorem P_8 (hL : LJ A H0 mm D s H n r t) (x : Int32) : PAIR G A H0 mm H n r t 8 225 [.int x] [.int x] oJ := by
  obtain ⟨k, p, g, C, u, cp, cb, hC, hn, hk, hp, hq, hv, h2, hu, hu8, hh, hDu, hid⟩ := LJ_get hL
  cases e : fx (mm 0) k x with
  | none => exact PQ_x hL not1 (w8_x1 rcX0 (s54n e hn hk _) (by decide +kernel)) (s225n (soM_n cp e) _)
  | some i => exact PQ_v hL (w8_v rcX0 (s54 e hn hk _) (lC_w (LJ_lx hL) _)) (s225 (soM_s cp e) _) (by rw [(CP_sl cp (fx_k e).1).2.2.2.2.1])
theorem P_9 (hL : LJ A H0 mm D s H n r t) (x : Int32) : PAIR G A H0 mm H n r t 9 226 [.int x] [.int x] oB := by
  obtain ⟨k, p, g, C, u, cp, cb, hC, hn, hk, hp, hq, hv, h2, hu, hu8, hh, hDu, hid⟩ := LJ_get hL
  cases e : fx (mm 0) k x with
  | none => exact PQ_x hL not1 (w9_x1 rcX0 (s55n e hn hk _) (by decide +kernel)) (s226n (soM_n cp e) _)
  | some i =>
    refine PQ_v hL (w9_v rcX0 (s55 e hn hk _) (lC_w (LJ_lx hL) _)) (s226 (soM_s cp e) h2 hq _) ?_
    rw [Q_fw cp (fx_k e).1]
    cases waB (mm 0) i <;> rfl
theorem P_10 (hL : LJ A H0 mm D s H n r t) (x : Int32) : PAIR G A H0 mm H n r t 10 227 [.int x] [.int x] oJ := by
  obtain ⟨k, p, g, C, u, cp, cb, hC, hn, hk, hp, hq, hv, h2, hu, hu8, hh, hDu, hid⟩ := LJ_get hL
  cases e : fx (mm 0) k x with
  | none => exact PQ_x hL not1 (w10_x1 rcX0 (s56n e hn hk _) (by decide +kernel)) (s227n (soM_n cp e) _)
  | some i =>
    have hfw := Q_fw cp (fx_k e).1
    cases hw : waB (mm 0) i with
    | true =>
      rw [hw, if_pos rfl] at hfw
      exact PQ_x hL not1 (w10_x1 rcX0 (s56w e hw hn hk _) (by decide +kernel)) (s227w (soM_s cp e) hfw h2 hq _)
    | false =>
      rw [hw, if_neg (by decide)] at hfw
      refine PQ_v hL (w10_v rcX0 (s56 e hw hn hk _) (lC_w (LJ_lx hL) _)) (s227 (soM_s cp e) hfw h2 hq _) ?_
      obtain ⟨q1, q2⟩ := PV_q hv (fx_k e).1 hq hw
      rw [q2, nt_nI (by omega)]
theorem P_11 (hL : LJ A H0 mm D s H n r t) (x : Int32) : PAIR G A H0 mm H n r t 11 228 [.int x] [.int x] oJ := by
  obtain ⟨k, p, g, C, u, cp, cb, hC, hn, hk, hp, hq, hv, h2, hu, hu8, hh, hDu, hid⟩ := LJ_get hL
  cases e : fx (mm 0) k x with
  | none => exact PQ_x hL not1 (w11_x1 rcX0 (s57n e hn hk _) (by decide +kernel)) (s228n (soM_n cp e) _)
  | some i => exact PQ_v hL (w11_v rcX0 (s57 e hn hk _) (lC_w (LJ_lx hL) _)) (s228 (soM_s cp e) _) (by rw [Q_pt cp (fx_k e).1])
theorem rk_all {B : Bd} {k p : Nat} {g : Nat → Nat} (cp : CP B s k p g) (x : Int32) : (∃ i, rkB B k x = some i) ↔ inR x 0 (nI k - 1) = true := by
  have hk := CP_k cp
  have lt : ∀ j, j < k → cnt (fun l => orB B l j) k < k := fun j hj => by
    have h1 := cnt_lt_of (P := fun l => orB B l j) (P' := fun _ => true) hj (or_irr cp hj) rfl (fun _ _ _ => rfl)
    have h2 := cnt_le (fun _ => true) k
    omega
  rw [inR_nI (by omega)]
  constructor
  · rintro ⟨i, e⟩
    have hi := fst_some e
    have e2 : nI (cnt (fun j => orB B j i) k) = x := by have := hi.2.1; simpa using this
    exact ⟨_, lt i hi.1, e2.symm⟩
  · rintro ⟨j, hj, rfl⟩
    obtain ⟨i, hi, e⟩ := ij_sur (f := fun j => cnt (fun l => orB B l j) k) ⟨fun j hj => lt j hj, fun a b ha hb e => rk_inj cp ha hb e⟩ j hj
    exact fst_ex ⟨i, hi, by simp only [beq_iff_eq]; exact congrArg nI e⟩
theorem P_12 (hL : LJ A H0 mm D s H n r t) (x : Int32) : PAIR G A H0 mm H n r t 12 229 [.int x] [.int x] oJ := by
  obtain ⟨k, p, g, C, u, cp, cb, hC, hn, hk, hp, hq, hv, h2, hu, hu8, hh, hDu, hid⟩ := LJ_get hL
  have e : ∀ H' n' r' (d : Nat), call G (d + 4) 229 [.ref (ad A 12 0), .int x] (S A H' (sb mm 12 (us D 1 s)) n' r') = _ := fun H' n' r' d => s229 x d
  rw [Q_many cp] at e
  have ra := rk_all cp x
  cases hx : rkB (mm 0) k x with
  | none =>
    have hf : inR x 0 (nI k - 1) = false := by
      cases h : inR x 0 (nI k - 1) with
      | false => rfl
      | true => obtain ⟨i, hi⟩ := ra.mpr h; rw [hx] at hi; cases hi
    simp only [hf, Bool.false_eq_true, ↓reduceIte] at e
    exact PQ_x hL not1 (w12_x1 rcX0 (s58n hx hn hk _) (by decide +kernel)) (e _ _ _ _)
  | some i =>
    have hi := (fst_some hx).1
    have hr := ra.mp ⟨i, hx⟩
    simp only [hr, ↓reduceIte] at e
    refine PQ_v hL (w12_v rcX0 (s58 hx hn hk _) (lC_w (LJ_lx hL) _)) (e _ _ _ _) ?_
    rw [Q_rank cp x, hx]
    show (mm 0 2 i).toInt64 = (idM s (g i)).toInt64
    rw [Q_id cp hi]
theorem P_15 (hL : LJ A H0 mm D s H n r t) (x y : Int32) : PAIR G A H0 mm H n r t 15 235 [.int x, .int y] [.int x, .int y] oB := by
  obtain ⟨k, p, g, C, u, cp, cb, hC, hn, hk, hp, hq, hv, h2, hu, hu8, hh, hDu, hid⟩ := LJ_get hL
  cases e : fx (mm 0) k x with
  | none => exact PQ_x hL not1 (w15_x1 rcX0 (s61n e hn hk _) (by decide +kernel)) (s235n (soM_n cp e) _)
  | some j =>
    cases e2 : fx (mm 0) k y with
    | none => exact PQ_x hL not1 (w15_x1 rcX0 (s61m e e2 hn hk _) (by decide +kernel)) (s235m (soM_s cp e) (soM_n cp e2) _)
    | some i =>
      refine PQ_v hL (w15_v rcX0 (s61 e e2 hn hk _) (lC_w (LJ_lx hL) _)) (s235 (soM_s cp e) (soM_s cp e2) _) ?_
      rw [Q_rf cp (fx_k e2).1 (fx_k e).1]; rfl
theorem P_16 (hL : LJ A H0 mm D s H n r t) (x : Int32) : PAIR G A H0 mm H n r t 16 236 [.int x] [.int x] oJ := by
  obtain ⟨k, p, g, C, u, cp, cb, hC, hn, hk, hp, hq, hv, h2, hu, hu8, hh, hDu, hid⟩ := LJ_get hL
  cases e : fx (mm 0) k x with
  | none => exact PQ_x hL not1 (w16_x1 rcX0 (s62n e hn hk _) (by decide +kernel)) (s236n (soM_n cp e) _)
  | some i => exact PQ_v hL (w16_v rcX0 (s62 e hn hk _) (lC_w (LJ_lx hL) _)) (s236 (soM_s cp e) _) (by rw [Q_bt cp (fx_k e).1])
theorem P_17 (hL : LJ A H0 mm D s H n r t) (x : Int32) : PAIR G A H0 mm H n r t 17 237 [.int x] [.int x] oJ := by
  obtain ⟨k, p, g, C, u, cp, cb, hC, hn, hk, hp, hq, hv, h2, hu, hu8, hh, hDu, hid⟩ := LJ_get hL
  cases e : fx (mm 0) k x with
  | none => exact PQ_x hL not1 (w17_x1 rcX0 (s63n e hn hk _) (by decide +kernel)) (s237n (soM_n cp e) _)
  | some i => exact PQ_v hL (w17_v rcX0 (s63 e hn hk _) (lC_w (LJ_lx hL) _)) (s237 (soM_s cp e) _) (by rw [Q_rr cp (fx_k e).1])
/-- a post or none -/
theorem inR_c {p : Nat} (hp : p ≤ 6) (x : Int32) : inR x 0 (nI p - 1) = false ∨ ∃ q, q < p ∧ x = nI q := by
  cases h : inR x 0 (nI p - 1) with
  | false => exact Or.inl rfl
  | true => exact Or.inr ((inR_nI (by omega)).mp h)
theorem P_20 (hL : LJ A H0 mm D s H n r t) (x : Int32) : PAIR G A H0 mm H n r t 20 245 [.int x] [.int x] oJ := by
  obtain ⟨k, p, g, C, u, cp, cb, hC, hn, hk, hp, hq, hv, h2, hu, hu8, hh, hDu, hid⟩ := LJ_get hL
  rcases inR_c hq x with hx | ⟨q, hqp, rfl⟩
  · exact PQ_x hL not1 (w20_x1 rcX0 (s68n hx hp hq _) (by decide +kernel)) (s245n hx h2 hq _)
  · exact PQ_v hL (w20_v rcX0 (s68 hqp hp hq _) (lC_w (LJ_lx hL) _)) (s245 hqp h2 hq _) (by rw [(CP_po cp hqp).1, chr_sh (cp.1.2.2.1 q hqp).1, eq_chr (cp.1.2.2.1 q hqp).1])
theorem P_21 (hL : LJ A H0 mm D s H n r t) (x : Int32) : PAIR G A H0 mm H n r t 21 246 [.int x] [.int x] oJ := by
  obtain ⟨k, p, g, C, u, cp, cb, hC, hn, hk, hp, hq, hv, h2, hu, hu8, hh, hDu, hid⟩ := LJ_get hL
  rcases inR_c hq x with hx | ⟨q, hqp, rfl⟩
  · exact PQ_x hL not1 (w21_x1 rcX0 (s69n hx hp hq _) (by decide +kernel)) (s246n hx h2 hq _)
  · exact PQ_v hL (w21_v rcX0 (s69 hqp hp hq _) (lC_w (LJ_lx hL) _)) (s246 hqp h2 hq _) (by rw [(CP_po cp hqp).2.1])
theorem P_22 (hL : LJ A H0 mm D s H n r t) (x : Int32) : PAIR G A H0 mm H n r t 22 247 [.int x] [.int x] oJ := by
  obtain ⟨k, p, g, C, u, cp, cb, hC, hn, hk, hp, hq, hv, h2, hu, hu8, hh, hDu, hid⟩ := LJ_get hL
  rcases inR_c hq x with hx | ⟨q, hqp, rfl⟩
  · exact PQ_x hL not1 (w22_x1 rcX0 (s70n hx hp hq _) (by decide +kernel)) (s247n hx h2 hq _)
  · exact PQ_v hL (w22_v rcX0 (s70 hqp hp hq _) (lC_w (LJ_lx hL) _)) (s247 hqp h2 hq _) (by rw [(CP_po cp hqp).2.2.1])
theorem P_23 (hL : LJ A H0 mm D s H n r t) (x : Int32) : PAIR G A H0 mm H n r t 23 248 [.int x] [.int x] oJ := by
  obtain ⟨k, p, g, C, u, cp, cb, hC, hn, hk, hp, hq, hv, h2, hu, hu8, hh, hDu, hid⟩ := LJ_get hL
  rcases inR_c hq x with hx | ⟨q, hqp, rfl⟩
  · exact PQ_x hL not1 (w23_x1 rcX0 (s71n hx hp hq _) (by decide +kernel)) (s248n hx h2 hq _)
  · exact PQ_v hL (w23_v rcX0 (s71 hqp hp hq _) (lC_w (LJ_lx hL) _)) (s248 hqp h2 hq _) (by rw [(CP_po cp hqp).2.2.2.1])
theorem not2 : ¬ (2 : Int32) = 0 := by decide
theorem P_24 (hL : LJ A H0 mm D s H n r t) (x : Int32) : PAIR G A H0 mm H n r t 24 249 [.int x] [.int x] oJ := by
  obtain ⟨k, p, g, C, u, cp, cb, hC, hn, hk, hp, hq, hv, h2, hu, hu8, hh, hDu, hid⟩ := LJ_get hL
  rcases inR_c hq x with hx | ⟨q, hqp, rfl⟩
  · exact PQ_x hL not1 (w24_x1 rcX0 (s72n hx hp hq _) (by decide +kernel)) (s249n hx h2 hq _)
  · cases e : fh (mm 0) k (nI q) with
    | none => exact PQ_x hL not2 (w24_x2 rcX0 (s72e hqp e hn hk hp hq _) (by decide +kernel)) (s249e hqp (poq_n cp hqp e) h2 hq _)
    | some i =>
      have hi := (fst_some e).1
      exact PQ_v hL (w24_v rcX0 (s72 hqp e hn hk hp hq hid _) (lC_w (LJ_lx hL) _)) (s249 hqp (IJ_lt (CP_g cp) hi) (poq_s cp hqp e) h2 hq _) (by rw [Q_id cp hi])
theorem P_25 (hL : LJ A H0 mm D s H n r t) (x y : Int32) : PAIR G A H0 mm H n r t 25 250 [.int x, .int y] [.int x, .int y] oB := by
  obtain ⟨k, p, g, C, u, cp, cb, hC, hn, hk, hp, hq, hv, h2, hu, hu8, hh, hDu, hid⟩ := LJ_get hL
  cases e : fx (mm 0) k x with
  | none => exact PQ_x hL not1 (w25_x1 rcX0 (s73n e hn hk _) (by decide +kernel)) (s250n (soM_n cp e) _)
  | some i =>
    rcases inR_c hq y with hy | ⟨q, hqp, rfl⟩
    · exact PQ_x hL not2 (w25_x2 rcX0 (s73m e hy hn hk hp hq _) (by decide +kernel)) (s250m (soM_s cp e) hy h2 hq _)
    · refine PQ_v hL (w25_v rcX0 (s73 e hqp hn hk hp hq _) (lC_w (LJ_lx hL) _)) (s250 (soM_s cp e) hqp h2 hq _) ?_
      rw [Q_ft cp (fx_k e).1 hqp]; rfl
theorem P_26 (hL : LJ A H0 mm D s H n r t) (x : Int32) : PAIR G A H0 mm H n r t 26 252 [.int x] [.int x] oJ := by
  obtain ⟨k, p, g, C, u, cp, cb, hC, hn, hk, hp, hq, hv, h2, hu, hu8, hh, hDu, hid⟩ := LJ_get hL
  cases e : fx (mm 0) k x with
  | none => exact PQ_x hL not1 (w26_x1 rcX0 (s74n e hn hk _) (by decide +kernel)) (s252n (soM_n cp e) _)
  | some i =>
    have hfa := Q_fa cp (fx_k e).1
    cases e2 : best (ftB (mm 0) i) (poB (mm 0)) p with
    | none =>
      rw [e2] at hfa
      exact PQ_x hL not1 (w26_x1 rcX0 (s74e e e2 hn hk hp hq _) (by decide +kernel)) (s252e (soM_s cp e) hfa h2 hq _)
    | some q =>
      rw [e2] at hfa
      exact PQ_v hL (w26_v rcX0 (s74 e e2 hn hk hp hq _) (lC_w (LJ_lx hL) _)) (s252 (soM_s cp e) hfa h2 hq _) rfl
theorem P_27 (hL : LJ A H0 mm D s H n r t) (x : Int32) : PAIR G A H0 mm H n r t 27 254 [.int x] [.int x] oJ := by
  obtain ⟨k, p, g, C, u, cp, cb, hC, hn, hk, hp, hq, hv, h2, hu, hu8, hh, hDu, hid⟩ := LJ_get hL
  rcases inR_c hq x with hx | ⟨q, hqp, rfl⟩
  · exact PQ_x hL not1 (w27_x1 rcX0 (s75n hx hp hq _) (by decide +kernel)) (s254n hx h2 hq _)
  · have hcd := Q_cd cp hqp
    cases e : best (fun i => waB (mm 0) i && ftB (mm 0) i q) (orB (mm 0)) k with
    | none =>
      rw [e] at hcd
      exact PQ_x hL not2 (w27_x2 rcX0 (s75e e hqp hn hk hp hq _) (by decide +kernel)) (s254e hqp hcd h2 hq _)
    | some i =>
      rw [e] at hcd
      exact PQ_v hL (w27_v rcX0 (s75 e hqp hn hk hp hq _) (lC_w (LJ_lx hL) _)) (s254 hqp hcd h2 hq _) (by rw [Q_id cp (best_lt e).1])
theorem P_28 (hL : LJ A H0 mm D s H n r t) (x : Int32) : PAIR G A H0 mm H n r t 28 255 [.int x] [.int x] oJ := by
  obtain ⟨k, p, g, C, u, cp, cb, hC, hn, hk, hp, hq, hv, h2, hu, hu8, hh, hDu, hid⟩ := LJ_get hL
  rcases inR_c hq x with hx | ⟨q, hqp, rfl⟩
  · exact PQ_x hL not1 (w28_x1 rcX0 (s76n hx hp hq _) (by decide +kernel)) (s255n hx h2 hq _)
  · exact PQ_v hL (w28_v rcX0 (s76 hqp hn hk hp hq _) (lC_w (LJ_lx hL) _)) (s255 hqp h2 hq _) (by rw [Q_cc cp hqp])
theorem P_33 (hL : LJ A H0 mm D s H n r t) (x : Int32) : PAIR G A H0 mm H n r t 33 275 [.int x] [.int x] oJ := by
  obtain ⟨k, p, g, C, u, cp, cb, hC, hn, hk, hp, hq, hv, h2, hu, hu8, hh, hDu, hid⟩ := LJ_get hL
  cases e : fx (mm 0) k x with
  | none => exact PQ_x hL not1 (w33_x1 rcX0 (s87n e hn hk _) (by decide +kernel)) (s275n (soM_n cp e) _)
  | some i =>
    have hi := (fx_k e).1
    have hfw := Q_fw cp hi
    cases hw : waB (mm 0) i with
    | true =>
      rw [hw, if_pos rfl] at hfw
      exact PQ_x hL not1 (w33_x1 rcX0 (s87w e hw hn hk _) (by decide +kernel)) (s275w (soM_s cp e) hfw h2 hq _)
    | false =>
      rw [hw, if_neg (by decide)] at hfw
      obtain ⟨q1, q2⟩ := PV_q hv hi hq hw
      have hfw' : fwM s p (g i) = some (qB (mm 0) i) := hfw
      have hpo : po s (qB (mm 0) i) 2 = mm 0 12 (qB (mm 0) i) := (CP_po cp q1).2.2.1
      by_cases h50 : mm 0 12 (qB (mm 0) i) < 50
      · refine PQ_v hL (w33_v rcX0 (s87 e hw h50 hn hk hp hq hv _) (lC_w (LJ_lx hL) _)) (s275 (soM_s cp e) hfw' (by rw [hpo]; exact Int32.not_le.mpr h50) h2 hq _) ?_
        rw [hpo, (CP_sl cp hi).2.2.2.1]
      · exact PQ_x hL not1 (w33_x1 rcX0 (s87e e hw h50 hn hk hp hq hv _) (by decide +kernel)) (s275e (soM_s cp e) hfw' (by rw [hpo]; exact Int32.not_lt.mp h50) h2 hq _)
end
