/-! THE LAW'S LOOP, part 5: changes. -/
section
variable {G : Glb} {A n r t w q : Nat} {H H0 : Hp} {mm : Mm} {D : Bd} {s : Nat → Int32} {ca ma : List Value} {fo : Int32 → Int64} {fl : Nat → Nat}
theorem oR_v {m : Mm} {u : Nat} {o : Nat × Int32 × (Nat → Int32)} (h : o.1 = 0) : oR A H m D s u n r o = vI o.2.1 (S A H (sb m 12 (us (enD (kD D s) u) 1 o.2.2)) n r) := by unfold oR; rw [if_pos h]
theorem oR_x {m : Mm} {u f : Nat} {o : Nat × Int32 × (Nat → Int32)} (h : o.1 = f) (hf : f ≠ 0) : oR A H m D s u n r o = vI 0 (S A H (sb m 12 (us (ud (kD D s) 0 6 (nI f)) 1 s)) n r) := by unfold oR; rw [if_neg (by rw [h]; exact hf), h]
/-- both refuse -/
theorem PX (hL : LJ A H0 mm D s H n r t) {mm' : Mm} (hS : SAME mm mm') (h12 : mm' 12 = mm 12) {kk b : Int32} {D' : Bd} (hk : ¬ kk = 0) (hw : call G 40 w (.ref (ad A 11 0) :: (ca ++ [.ref (A + 177)])) (S A H mm n r) = vI kk (S A H mm' (n + 1) (r + 6))) (hq : call G 40 q (.ref (ad A 12 0) :: ma) (S A H (sb mm' 12 (us D 1 s)) (n + 1) (r + 6)) = vI b (S A H (sb mm' 12 (us D' 1 s)) (n + 1) (r + 6))) (hD : SAMD D D') (h6 : D' 0 6 = kk) : PAIR G A H0 mm H n r t w q ca ma fo := by
  rw [LJ_mm hL h12] at hq
  exact ⟨kk, b, mm', H, n + 1, r + 6, D', s, H, n + 1, r + 6, hw, hq, h6, fun h => absurd h hk, HE_rfl A H, HE_rfl A H, LJ_same hL hS hD (HE_rfl A H) (LJ_lx hL) (SBK_n (by omega)) (by omega) (by omega) (by omega)⟩
theorem k6 (D : Bd) (v : Int32) : ud (kD D s) 0 6 v 0 6 = v := ud_eq ..
theorem fi_12 {m : Mm} {u : Nat} (hh : HW (m 11)) (hu8 : u ≤ 8) : fiM m u 12 = m 12 := by
  obtain ⟨s1, s2, _⟩ := HW_sl hh hu8
  exact fiM_b (by omega) (by omega)
/-- both change -/
theorem PC_v (hL : LJ A H0 mm D s H n r t) {M : Mm} {B' : Bd} {s' : Nat → Int32} {u : Nat} {y : Int64} {b : Int32} (hu : mm 11 0 4 = nI u) (hu8 : u ≤ 8) (hh : HW (mm 11)) (hm : ∀ b, b ≠ 0 → b ≠ 1 → b ≠ 11 → M b = mm b) (hm0 : M 0 = B') (hm1 : M 1 = cpB (mm 1) (mm 0)) (hm11 : ∀ c i, c < 3 ∨ 9 ≤ c → M 11 c i = mm 11 c i) (hR' : RE B' s' (2970 * (t + 1))) (hw : call G 40 w (.ref (ad A 11 0) :: (ca ++ [.ref (A + 177)])) (S A H mm n r) = vI 0 (S A (hset H (A + 177) (lC y)) (fiM M u) n r)) (hq : call G 40 q (.ref (ad A 12 0) :: ma) (S A (hset H (A + 177) (lC y)) (sb (fiM M u) 12 (us D 1 s)) n r) = vI b (S A (hset H (A + 177) (lC y)) (sb (fiM M u) 12 (us (enD (kD D s) u) 1 s')) n r)) (hy : y = fo b) : PAIR G A H0 mm H n r t w q ca ma fo := by
  have h12 : fiM M u 12 = mm 12 := by rw [fi_12 (HW_c hh fun i => hm11 1 i (by omega)) hu8, hm 12 (by omega) (by omega) (by omega)]
  rw [LJ_mm hL h12] at hq
  exact ⟨0, b, fiM M u, hset H (A + 177) (lC y), n, r, enD (kD D s) u, s', hset H (A + 177) (lC y), n, r, hw, hq, (en_o hu8).2.2.2, fun _ => by rw [← hy]; exact hset_at .., HE_set (by omega), HE_set (by omega), LJ_ch hL hu hu8 (fun b h0 h1 h11 _ => hm b h0 h1 h11) hm0 hm1 hm11 hR' (HE_set (by omega)) (LX_177 (LJ_lx hL) y) (SBK_q (by omega) (Or.inl (by omega)) (Nat.le_refl _)) (by omega) (by omega)⟩
/-- a change of the board alone -/
theorem PB_v (hL : LJ A H0 mm D s H n r t) {B' : Bd} {s' : Nat → Int32} {u : Nat} {y : Int64} {b : Int32} (hu : mm 11 0 4 = nI u) (hu8 : u ≤ 8) (hh : HW (mm 11)) (hR' : RE B' s' (2970 * (t + 1))) (hw : call G 40 w (.ref (ad A 11 0) :: (ca ++ [.ref (A + 177)])) (S A H mm n r) = vI 0 (S A (hset H (A + 177) (lC y)) (chM mm B' u) n r)) (hq : call G 40 q (.ref (ad A 12 0) :: ma) (S A (hset H (A + 177) (lC y)) (sb (chM mm B' u) 12 (us D 1 s)) n r) = vI b (S A (hset H (A + 177) (lC y)) (sb (chM mm B' u) 12 (us (enD (kD D s) u) 1 s')) n r)) (hy : y = fo b) : PAIR G A H0 mm H n r t w q ca ma fo :=
  PC_v (M := sb (bgM mm) 0 B') hL hu hu8 hh (fun b h0 h1 h11 => by rw [sb_ne h0, bg_ne h1]) (sb_eq ..) (by rw [sb_ne (by omega)]; unfold bgM; rw [sb_eq]) (fun c i _ => by rw [sb_ne (by omega), bg_ne (by omega)]) hR' hw hq hy
theorem bg_12 (mm : Mm) : bgM mm 12 = mm 12 := bg_ne (by omega)
theorem P_1 (hg : GF G fl) (hL : LJ A H0 mm D s H n r t) (ht : t < 600) (sh w rr : Int32) : PAIR G A H0 mm H n r t 1 212 [.int sh, .int w, .int rr] [.int sh, .int w, .int rr] oJ := by
  obtain ⟨k, p, g, C, u, cp, cb, hC, hn, hk, hp, hq, hv, h2, hu, hu8, hh, hDu, hid⟩ := LJ_get hL
  obtain ⟨nid, hn1, hn2⟩ := cb.1
  have e := s45 (G := G) (A := A) (n := n) (r := r) (H := H) (m := mm) (u := u) hg hn hk hu hu8 hh sh w rr 35
  rcases O_ad cp hn2 (by omega) sh w rr with ⟨h1, h2, h3, h4, g', h5⟩ | ⟨h1, h2⟩ | ⟨h1, h2⟩
  · rw [if_pos h1] at e
    refine PB_v hL hu hu8 hh ⟨_, _, _, h5, by rw [h4]; exact CB_le (CB_ad cb) (by omega)⟩ (w1_v rcX0 e (lC_w (LJ_lx hL) _)) ((s212 hDu hu8 sh w rr _).trans (oR_v h2)) (by rw [h3])
  · rw [if_neg (by rw [h1]; decide), h1] at e
    exact PX hL (SAME_bg mm) (bg_12 mm) not1 (w1_x1 rcX0 e (by decide +kernel)) ((s212 hDu hu8 sh w rr _).trans (oR_x h2 (by decide))) (SAMD_k D s _) (k6 D _)
  · rw [if_neg (by rw [h1]; decide), h1] at e
    exact PX hL (SAME_bg mm) (bg_12 mm) not2 (w1_x2 rcX0 e (by decide +kernel)) ((s212 hDu hu8 sh w rr _).trans (oR_x h2 (by decide))) (SAMD_k D s _) (k6 D _)
theorem P_2 (hg : GF G fl) (hL : LJ A H0 mm D s H n r t) (x : Int32) : PAIR G A H0 mm H n r t 2 215 [.int x] [.int x] oJ := by
  obtain ⟨k, p, g, C, u, cp, cb, hC, hn, hk, hp, hq, hv, h2, hu, hu8, hh, hDu, hid⟩ := LJ_get hL
  rcases O_lv cp x with ⟨i, hi, h1, h3, h4, h5, g', h6⟩ | ⟨hi, h1, h3⟩
  · refine PB_v hL hu hu8 hh ⟨_, _, _, h6, CB_le (CB_rm cb (fx_k hi).1) (by omega)⟩ (w2_v rcX0 (s46 hi hg hn hk hu hu8 hh _) (lC_w (LJ_lx hL) _)) ((s215 h2 hq hDu hu8 x _).trans (oR_v h3)) (by rw [h4])
  · exact PX hL (SAME_rfl mm) rfl not1 (w2_x1 rcX0 (s46n hi hn hk _) (by decide +kernel)) ((s215 h2 hq hDu hu8 x _).trans (oR_x h3 (by decide))) (SAMD_k D s _) (k6 D _)
theorem P_3 (hg : GF G fl) (hL : LJ A H0 mm D s H n r t) (x : Int32) : PAIR G A H0 mm H n r t 3 217 [.int x] [.int x] oJ := by
  obtain ⟨k, p, g, C, u, cp, cb, hC, hn, hk, hp, hq, hv, h2, hu, hu8, hh, hDu, hid⟩ := LJ_get hL
  cases hx : inR x 0 50 with
  | false =>
    have h3 : (mRj s p x).1 = 1 := by unfold mRj; rw [hx, if_neg (by decide)]
    exact PX hL (SAME_rfl mm) rfl not1 (w3_x1 rcX0 (s47n hx _) (by decide +kernel)) ((s217 h2 hq hDu hu8 x _).trans (oR_x h3 (by decide))) (SAMD_k D s _) (k6 D _)
  | true =>
    obtain ⟨⟨g', h5⟩, h6⟩ := O_rj cp x
    have em : mRj s p x = (0, nI (rjL s p x 10).2, (rjL s p x 10).1) := by unfold mRj; rw [hx, if_pos rfl]
    generalize rjL s p x 10 = R at h5 h6 em
    have e : ∀ m H' n' r' (d : Nat), call G (d + 4) 217 [.ref (ad A 12 0), .int x] (S A H' (sb m 12 (us D 1 s)) n' r') = _ := fun m H' n' r' d => (s217 h2 hq hDu hu8 x d).trans (oR_v (by rw [em]))
    rw [em] at e
    have hcb : ∀ i B k', i ≤ k' → CB B k' C → CB (rwa x i (B, k')).1 (rwa x i (B, k')).2 C := by
      intro i
      induction i with
      | zero => intro B k' _ h; exact h
      | succ i ih =>
        intro B k' hi h
        rw [rwa]
        split
        · exact ih _ _ (by show i ≤ k' - 1; omega) (CB_rm h (by omega))
        · exact ih _ _ (by omega) h
    exact PB_v hL hu hu8 hh ⟨_, _, _, h5, CB_le (hcb k (mm 0) k (Nat.le_refl k) cb) (by omega)⟩ (w3_v rcX0 (s47 hx hg hn hk hu hu8 hh _) (lC_w (LJ_lx hL) _)) (e _ _ _ _ _) (by rw [h6])
theorem P_13 (hg : GF G fl) (hL : LJ A H0 mm D s H n r t) (x y : Int32) : PAIR G A H0 mm H n r t 13 231 [.int x, .int y] [.int x, .int y] oJ := by
  obtain ⟨k, p, g, C, u, cp, cb, hC, hn, hk, hp, hq, hv, h2, hu, hu8, hh, hDu, hid⟩ := LJ_get hL
  have e := s59 (G := G) (A := A) (n := n) (r := r) (H := H) (m := mm) (u := u) hg hn hk hu hu8 hh x y 35
  rcases O_rf cp x y with ⟨h1, h3, h4, ⟨i, v, h5⟩, h6⟩ | ⟨h1, h3⟩ | ⟨h1, h3⟩ | ⟨h1, h3⟩
  · rw [if_pos h1] at e
    refine PB_v hL hu hu8 hh ⟨_, _, _, h6, by rw [h5]; exact CB_le (CB_c cb (by rw [ud_nc (by omega)]) (fun j _ => by rw [ud_nc (by omega)])) (by omega)⟩ (w13_v rcX0 e (lC_w (LJ_lx hL) _)) ((s231 hDu hu8 x y _).trans (oR_v h3)) (by rw [h4])
  · rw [if_neg (by rw [h1]; decide), h1] at e
    exact PX hL (SAME_bg mm) (bg_12 mm) not1 (w13_x1 rcX0 e (by decide +kernel)) ((s231 hDu hu8 x y _).trans (oR_x h3 (by decide))) (SAMD_k D s _) (k6 D _)
  · rw [if_neg (by rw [h1]; decide), h1] at e
    exact PX hL (SAME_bg mm) (bg_12 mm) not2 (w13_x2 rcX0 e (by decide +kernel)) ((s231 hDu hu8 x y _).trans (oR_x h3 (by decide))) (SAMD_k D s _) (k6 D _)
  · rw [if_neg (by rw [h1]; decide), h1] at e
    exact PX hL (SAME_bg mm) (bg_12 mm) (show ¬ (3 : Int32) = 0 by decide) (w13_x3 rcX0 e (by decide +kernel)) ((s231 hDu hu8 x y _).trans (oR_x h3 (by decide))) (SAMD_k D s _) (k6 D _)
theorem P_14 (hg : GF G fl) (hL : LJ A H0 mm D s H n r t) (x y : Int32) : PAIR G A H0 mm H n r t 14 234 [.int x, .int y] [.int x, .int y] oJ := by
  obtain ⟨k, p, g, C, u, cp, cb, hC, hn, hk, hp, hq, hv, h2, hu, hu8, hh, hDu, hid⟩ := LJ_get hL
  have e := s60 (G := G) (A := A) (n := n) (r := r) (H := H) (m := mm) (u := u) hg hn hk hu hu8 hh x y 35
  rcases O_wd cp x y with ⟨h1, h3, h4, ⟨i, v, h5⟩, h6⟩ | ⟨h1, h3⟩
  · rw [if_pos h1] at e
    refine PB_v hL hu hu8 hh ⟨_, _, _, h6, by rw [h5]; exact CB_le (CB_c cb (by rw [ud_nc (by omega)]) (fun j _ => by rw [ud_nc (by omega)])) (by omega)⟩ (w14_v rcX0 e (lC_w (LJ_lx hL) _)) ((s234 hDu hu8 x y _).trans (oR_v h3)) (by rw [h4])
  · rw [if_neg (by rw [h1]; decide), h1] at e
    exact PX hL (SAME_bg mm) (bg_12 mm) not1 (w14_x1 rcX0 e (by decide +kernel)) ((s234 hDu hu8 x y _).trans (oR_x h3 (by decide))) (SAMD_k D s _) (k6 D _)
theorem P_18 (hg : GF G fl) (hL : LJ A H0 mm D s H n r t) (sh lo hi pay : Int32) : PAIR G A H0 mm H n r t 18 239 [.int sh, .int lo, .int hi, .int pay] [.int sh, .int lo, .int hi, .int pay] oJ := by
  obtain ⟨k, p, g, C, u, cp, cb, hC, hn, hk, hp, hq, hv, h2, hu, hu8, hh, hDu, hid⟩ := LJ_get hL
  have e := s64 (G := G) (A := A) (n := n) (r := r) (H := H) (m := mm) (u := u) hg hp hq hu hu8 hh sh lo hi pay 34
  rcases O_op cp sh lo hi pay with ⟨h1, h3, h4, h5, h6⟩ | ⟨h1, h3⟩ | ⟨h1, h3⟩
  · rw [if_pos h1] at e
    have ec : ∀ c, c < 9 → apP (mm 0) p sh lo hi pay c = mm 0 c := by
      intro c hc; unfold apP; rw [ud_nc (by omega), ud_nc (by omega), ud_nc (by omega), ud_nc (by omega), ud_nc (by omega)]
    refine PB_v hL hu hu8 hh ⟨_, _, _, h6, by rw [h5]; exact CB_le (CB_c cb (by rw [ec 1 (by omega)]) (fun j _ => by rw [ec 6 (by omega)])) (by omega)⟩ (w18_v rcX0 e (lC_w (LJ_lx hL) _)) ((s239 h2 hq hDu hu8 sh lo hi pay _).trans (oR_v h3)) (by rw [h4])
  · rw [if_neg (by rw [h1]; decide), h1] at e
    exact PX hL (SAME_bg mm) (bg_12 mm) not1 (w18_x1 rcX0 e (by decide +kernel)) ((s239 h2 hq hDu hu8 sh lo hi pay _).trans (oR_x h3 (by decide))) (SAMD_k D s _) (k6 D _)
  · rw [if_neg (by rw [h1]; decide), h1] at e
    exact PX hL (SAME_bg mm) (bg_12 mm) not2 (w18_x2 rcX0 e (by decide +kernel)) ((s239 h2 hq hDu hu8 sh lo hi pay _).trans (oR_x h3 (by decide))) (SAMD_k D s _) (k6 D _)
theorem P_19 (hg : GF G fl) (hL : LJ A H0 mm D s H n r t) (x : Int32) : PAIR G A H0 mm H n r t 19 241 [.int x] [.int x] oB := by
  obtain ⟨k, p, g, C, u, cp, cb, hC, hn, hk, hp, hq, hv, h2, hu, hu8, hh, hDu, hid⟩ := LJ_get hL
  have em : ∀ m H' n' r' (d : Nat), call G (d + 3) 241 [.ref (ad A 12 0), .int x] (S A H' (sb m 12 (us D 1 s)) n' r') = _ := fun m H' n' r' d => s241 h2 hq hDu hu8 x d
  rcases O_cl cp x with ⟨h1, h3, h4, h5, hx, h6⟩ | ⟨h1, h3, hx⟩
  · have em2 : ∀ m H' n' r' (d : Nat), call G (d + 3) 241 [.ref (ad A 12 0), .int x] (S A H' (sb m 12 (us D 1 s)) n' r') = vI (bI (fh (mm 0) k x).isSome) (S A H' (sb m 12 (us (enD (kD D s) u) 1 (mCl s p x).2.2)) n' r') := by
      intro m H' n' r' d
      rw [em m H' n' r' d, cI_of (oR_v h3), h4]
      cases (fh (mm 0) k x).isSome <;> rfl
    rw [h5] at h6
    refine PB_v hL hu hu8 hh ⟨_, _, _, h6, CB_le (CB_c cb (by rw [cl_cell (by omega) (by omega)]) (fun i _ => by rw [cl_cell (by omega) (by omega)])) (by omega)⟩ (w19_v rcX0 (s65 hx hg hn hk hp hq hid hu hu8 hh _) (lC_w (LJ_lx hL) _)) (em2 _ _ _ _ _) rfl
  · have em2 : ∀ m H' n' r' (d : Nat), call G (d + 3) 241 [.ref (ad A 12 0), .int x] (S A H' (sb m 12 (us D 1 s)) n' r') = vI 0 (S A H' (sb m 12 (us (ud (kD D s) 0 6 (nI 1)) 1 s)) n' r') := by
      intro m H' n' r' d
      rw [em m H' n' r' d, cI_of (oR_x h3 (by decide))]; rfl
    exact PX hL (SAME_rfl mm) rfl not1 (w19_x1 rcX0 (s65n hx hp hq _) (by decide +kernel)) (em2 _ _ _ _ _) (SAMD_k D s _) (k6 D _)
theorem P_29 (hg : GF G fl) (hL : LJ A H0 mm D s H n r t) (x y : Int32) : PAIR G A H0 mm H n r t 29 258 [.int x, .int y] [.int x, .int y] oJ := by
  obtain ⟨k, p, g, C, u, cp, cb, hC, hn, hk, hp, hq, hv, h2, hu, hu8, hh, hDu, hid⟩ := LJ_get hL
  have e := s77 (G := G) (A := A) (n := n) (r := r) (H := H) (m := mm) (u := u) hg hn hk hp hq hu hu8 hh x y 34
  rcases O_hi cp x y with ⟨h1, h3, h4, ⟨i, v, h5⟩, h6⟩ | ⟨h1, h3⟩ | ⟨h1, h3⟩ | ⟨h1, h3⟩ | ⟨h1, h3⟩
  · rw [if_pos h1] at e
    refine PB_v hL hu hu8 hh ⟨_, _, _, h6, by rw [h5]; exact CB_le (CB_c cb (by rw [ud_nc (by omega)]) (fun j _ => by rw [ud_nc (by omega)])) (by omega)⟩ (w29_v rcX0 e (lC_w (LJ_lx hL) _)) ((s258 h2 hq hDu hu8 x y _).trans (oR_v h3)) (by rw [h4])
  · rw [if_neg (by rw [h1]; decide), h1] at e
    exact PX hL (SAME_bg mm) (bg_12 mm) not1 (w29_x1 rcX0 e (by decide +kernel)) ((s258 h2 hq hDu hu8 x y _).trans (oR_x h3 (by decide))) (SAMD_k D s _) (k6 D _)
  · rw [if_neg (by rw [h1]; decide), h1] at e
    exact PX hL (SAME_bg mm) (bg_12 mm) not2 (w29_x2 rcX0 e (by decide +kernel)) ((s258 h2 hq hDu hu8 x y _).trans (oR_x h3 (by decide))) (SAMD_k D s _) (k6 D _)
  · rw [if_neg (by rw [h1]; decide), h1] at e
    exact PX hL (SAME_bg mm) (bg_12 mm) (show ¬ (3 : Int32) = 0 by decide) (w29_x3 rcX0 e (by decide +kernel)) ((s258 h2 hq hDu hu8 x y _).trans (oR_x h3 (by decide))) (SAMD_k D s _) (k6 D _)
  · rw [if_neg (by rw [h1]; decide), h1] at e
    exact PX hL (SAME_bg mm) (bg_12 mm) (show ¬ (4 : Int32) = 0 by decide) (w29_x4 rcX0 e (by decide +kernel)) ((s258 h2 hq hDu hu8 x y _).trans (oR_x h3 (by decide))) (SAMD_k D s _) (k6 D _)
theorem P_30 (hg : GF G fl) (hL : LJ A H0 mm D s H n r t) (x : Int32) : PAIR G A H0 mm H n r t 30 260 [.int x] [.int x] oJ := by
  obtain ⟨k, p, g, C, u, cp, cb, hC, hn, hk, hp, hq, hv, h2, hu, hu8, hh, hDu, hid⟩ := LJ_get hL
  rcases O_hb cp x with ⟨hx, h3⟩ | ⟨q, hqp, rfl, ⟨f, hf, h3⟩ | ⟨hf, ⟨hb, h3⟩ | ⟨i, hb, h1, h3, h4, h5, h6⟩⟩⟩
  · exact PX hL (SAME_rfl mm) rfl not1 (w30_x1 rcX0 (s78n hx hp hq _) (by decide +kernel)) ((s260 h2 hq hDu hu8 _ _).trans (oR_x h3 (by decide))) (SAMD_k D s _) (k6 D _)
  · exact PX hL (SAME_rfl mm) rfl not2 (w30_x2 rcX0 (s78f ((inR_nI (by omega)).mpr ⟨q, hqp, rfl⟩) hf hn hk hp hq hid _) (by decide +kernel)) ((s260 h2 hq hDu hu8 _ _).trans (oR_x h3 (by decide))) (SAMD_k D s _) (k6 D _)
  · exact PX hL (SAME_rfl mm) rfl (show ¬ (3 : Int32) = 0 by decide) (w30_x3 rcX0 (s78e hf hb hqp hn hk hp hq _) (by decide +kernel)) ((s260 h2 hq hDu hu8 _ _).trans (oR_x h3 (by decide))) (SAMD_k D s _) (k6 D _)
  · have e := s78 (G := G) (A := A) (n := n) (r := r) (H := H) (m := mm) (u := u) hf hb hqp hg hn hk hp hq hu hu8 hh 34
    rw [if_pos h1] at e
    exact PB_v hL hu hu8 hh ⟨_, _, _, h6, by rw [h5]; exact CB_le (CB_c cb (by rw [ud_nc (by omega)]) (fun j _ => by rw [ud_nc (by omega)])) (by omega)⟩ (w30_v rcX0 e (lC_w (LJ_lx hL) _)) ((s260 h2 hq hDu hu8 _ _).trans (oR_v h3)) (by rw [h4])
theorem P_31 (hg : GF G fl) (hL : LJ A H0 mm D s H n r t) (x : Int32) : PAIR G A H0 mm H n r t 31 262 [.int x] [.int x] oJ := by
  obtain ⟨k, p, g, C, u, cp, cb, hC, hn, hk, hp, hq, hv, h2, hu, hu8, hh, hDu, hid⟩ := LJ_get hL
  have hF := Q_FV cp
  rcases inR_c hq x with hx | ⟨q, hqp, rfl⟩
  · have h3 : (mDi s p x).1 = 1 := by unfold mDi; rw [hx, if_neg (by decide)]
    exact PX hL (SAME_rfl mm) rfl not1 (w31_x1 rcX0 (s79n hx hp hq _) (by decide +kernel)) ((s262 h2 hq hF hDu hu8 _ _).trans (oR_x h3 (by decide))) (SAMD_k D s _) (k6 D _)
  · have hx : inR (nI q) 0 (nI p - 1) = true := (inR_nI (by omega)).mpr ⟨q, hqp, rfl⟩
    rcases O_di cp (nI q) with ⟨h1, h3, ⟨i, hf, h4, h5⟩, h6⟩ | ⟨h1, h3⟩ | ⟨h1, h3, hf⟩
    · rw [h5] at h6
      exact PB_v hL hu hu8 hh ⟨_, _, _, h6, CB_le (CB_c cb (by rw [ud_nc (by omega)]) (fun j _ => by rw [ud_nc (by omega)])) (by omega)⟩ (w31_v rcX0 (s79 hx hf hg hn hk hp hq hid hu hu8 hh _) (lC_w (LJ_lx hL) _)) ((s262 h2 hq hF hDu hu8 _ _).trans (oR_v h3)) (by rw [h4])
    · exfalso
      unfold tDi at h1
      rw [if_pos hx] at h1
      cases e : fh (mm 0) k (nI q) with
      | none => rw [e] at h1; have h1' : (2 : Nat) = 4 := h1; omega
      | some i => rw [e] at h1; have h1' : (0 : Nat) = 4 := h1; omega
    · exact PX hL (SAME_rfl mm) rfl not2 (w31_x2 rcX0 (s79e hx hf hn hk hp hq _) (by decide +kernel)) ((s262 h2 hq hF hDu hu8 _ _).trans (oR_x h3 (by decide))) (SAMD_k D s _) (k6 D _)
theorem CB_dys {B : Bd} {k p : Nat} {g : Nat → Nat} (cp : CP B s k p g) {C : Nat} (cb : CB B k C) : ∀ j, CB (dyS B k j).1 k (C + 99 * j) := by
  intro j
  induction j with
  | zero => exact cb
  | succ j ih =>
    have := CB_day (O_pd cp j).1 ih
    exact CB_le this (by omega)
theorem P_32 (hg : GF G fl) (hL : LJ A H0 mm D s H n r t) (x : Int32) : PAIR G A H0 mm H n r t 32 273 [.int x] [.int x] oJ := by
  obtain ⟨k, p, g, C, u, cp, cb, hC, hn, hk, hp, hq, hv, h2, hu, hu8, hh, hDu, hid⟩ := LJ_get hL
  have hF := Q_FV cp
  cases hx : inR x 1 30 with
  | false =>
    have h3 : (mPd s p x).1 = 1 := by unfold mPd; rw [hx, if_neg (by decide)]
    exact PX hL (SAME_rfl mm) rfl not1 (w32_x1 rcX0 (s85n hx _) (by decide +kernel)) ((s273 h2 hq hF hDu hu8 _ _).trans (oR_x h3 (by decide))) (SAMD_k D s _) (k6 D _)
  | true =>
    obtain ⟨j, j1, j30, rfl⟩ := inR_1_30 hx
    have em : mPd s p (nI j) = (0, nI (pdN s p j).2, (pdN s p j).1) := by unfold mPd; rw [hx, if_pos rfl, nI_clamp (by omega)]
    have e : ∀ m H' n' r' (d : Nat), call G (d + 4) 273 [.ref (ad A 12 0), .int (nI j)] (S A H' (sb m 12 (us D 1 s)) n' r') = _ := fun m H' n' r' d => (s273 h2 hq hF hDu hu8 (nI j) d).trans (oR_v (by rw [em]))
    rw [em] at e
    obtain ⟨c1, c2⟩ := O_pd cp j
    exact PB_v hL hu hu8 hh ⟨_, _, _, c1, CB_le (CB_dys cp cb j) (by omega)⟩ (w32_v rcX0 (s85 j1 j30 hg hn hk hp hq hv hu hu8 hh _) (lC_w (LJ_lx hL) _)) (e _ _ _ _ _) (by rw [c2])
/-- the stable matching -/
theorem A_35 (hg : GF G fl) (hL : LJ A H0 mm D s H n r t) : PAIA G A H0 mm H n r t 80 265 := by
  obtain ⟨k, p, g, C, u, cp, cb, hC, hn, hk, hp, hq, hv, h2, hu, hu8, hh, hDu, hid⟩ := LJ_get hL
  obtain ⟨c1, c2⟩ := O_ma cp (mm 11)
  have e := s80 (G := G) (A := A) (n := n) (r := r) (H := H) (m := mm) (u := u) hg hn hk hp hq hu hu8 hh 35
  have ema : maM mm k p = gsB (mm 0) k p (vac (mm 0) p k) 60 (X0g (mm 11)) := rfl
  have c2' : cnt (fun q => !(maM mm k p 3 q == -1)) 6 = (mtL p (vaM s p) s).2 := c2
  rw [c2'] at e
  obtain ⟨M, hM⟩ : ∃ M, M = sb (sb (bgM mm) 11 (maM mm k p)) 0 (hhB (mm 0) (maM mm k p) 6) := ⟨_, rfl⟩
  rw [← hM] at e
  have hm : ∀ b, b ≠ 0 → b ≠ 1 → b ≠ 11 → M b = mm b := fun b h0 h1 h11 => by rw [hM, sb_ne h0, sb_ne h11, bg_ne h1]
  have hm0 : M 0 = hhB (mm 0) (maM mm k p) 6 := by rw [hM, sb_eq]
  have hm1 : M 1 = cpB (mm 1) (mm 0) := by rw [hM, sb_ne (by omega), sb_ne (by omega)]; unfold bgM; rw [sb_eq]
  have hm11 : ∀ c i, c < 3 ∨ 9 ≤ c → M 11 c i = mm 11 c i := fun c i hc => by rw [hM, sb_ne (by omega), sb_eq, ema, gsB_n (by omega) (by omega), X0g_n (by omega) (by omega)]
  have h12 : fiM M u 12 = mm 12 := by rw [fi_12 (HW_c hh fun i => hm11 1 i (by omega)) hu8, hm 12 (by omega) (by omega) (by omega)]
  have e2 := (s265 (G := G) (A := A) (n := n) (r := r) (H := H) (m := fiM M u) (D := D) (s := s) h2 hq hDu hu8 35).trans (oR_v rfl)
  rw [LJ_mm hL h12] at e2
  refine ⟨_, fiM M u, H, n, r, enD (kD D s) u, _, H, n, r, e, e2, HE_rfl A H, LJ_ch hL hu hu8 (fun b h0 h1 h11 _ => hm b h0 h1 h11) hm0 hm1 hm11 ⟨_, _, _, c1, ?_⟩ (HE_rfl A H) (LJ_lx hL) (SBK_n (Nat.le_refl _)) (by omega) (by omega)⟩
  exact CB_le (CB_c cb (by rw [hh_c (by omega)]) (fun j _ => by rw [hh_c (by omega)])) (by omega)
end
