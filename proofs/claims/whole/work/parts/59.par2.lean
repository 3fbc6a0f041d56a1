/-! THE LAW'S LOOP, part 4: questions that are always answered. -/
theorem fpi_n {rec : Nat → Bd → Bool × Bd} {B : Bd} {q k c : Nat} (h5 : c ≠ 5) (h6 : c ≠ 6) (hr : ∀ q X, (rec q X).2 c = X c) : ∀ (t : Nat) (X : Bd), (fpi rec B q k t X).2 c = X c := by
  intro t
  induction t with
  | zero => intro X; rfl
  | succ t ih =>
    intro X
    rw [fpi]
    split
    · exact ih X
    · split
      · show ud (ud X 6 _ 1) 5 _ _ c = X c
        rw [ud_nc h5, ud_nc h6]
      · split
        · show ud _ 5 _ _ c = X c
          rw [ud_nc h5, hr, ud_nc h6]
        · rw [ih, hr, ud_nc h6]
theorem fpB_n {B : Bd} {k c : Nat} (h5 : c ≠ 5) (h6 : c ≠ 6) : ∀ (f q : Nat) (X : Bd), (fpB B k f q X).2 c = X c := by
  intro f
  induction f with
  | zero => intro q X; rfl
  | succ f ih => intro q X; exact fpi_n h5 h6 ih k X
theorem cpS_n {B X : Bd} {k c : Nat} {v : Int32} (h5 : c ≠ 5) (h6 : c ≠ 6) : ∀ q, (cpS B k v X q).2 c = X c := by
  intro q
  induction q with
  | zero => rfl
  | succ q ih =>
    rw [cpS]
    split
    · show (fpB B k 6 q (clr6 (cpS B k v X q).2)).2 c = X c
      rw [fpB_n h5 h6]
      unfold clr6; rw [us_ne h6]; exact ih
    · exact ih
theorem X0p_n {X : Bd} {c : Nat} (h5 : c ≠ 5) : X0p X c = X c := by unfold X0p; rw [us_ne h5]
section
variable {G : Glb} {A n r t : Nat} {H H0 : Hp} {mm : Mm} {D : Bd} {s : Nat → Int32}
theorem A_3 (hL : LJ A H0 mm D s H n r t) : PAIA G A H0 mm H n r t 48 218 := by
  obtain ⟨k, p, g, C, u, cp, cb, hC, hn, hk, hp, hq, hv, h2, hu, hu8, hh, hDu, hid⟩ := LJ_get hL
  have e : ∀ (d : Nat), call G (d + 3) 218 [.ref (ad A 12 0)] (S A H (sb mm 12 (us D 1 s)) n r) = _ := fun d => s218 d
  rw [Q_many cp] at e
  exact PA_v hL (SAME_rfl mm) rfl (s48 hn hk _) (e _)
theorem A_4 (hL : LJ A H0 mm D s H n r t) : PAIA G A H0 mm H n r t 49 219 := by
  obtain ⟨k, p, g, C, u, cp, cb, hC, hn, hk, hp, hq, hv, h2, hu, hu8, hh, hDu, hid⟩ := LJ_get hL
  have e : ∀ (d : Nat), call G (d + 3) 219 [.ref (ad A 12 0)] (S A H (sb mm 12 (us D 1 s)) n r) = _ := fun d => s219 h2 hq d
  rw [Q_wait cp] at e
  exact PA_v hL (SAME_rfl mm) rfl (s49 hn hk _) (e _)
theorem A_21 (hL : LJ A H0 mm D s H n r t) : PAIA G A H0 mm H n r t 66 242 := by
  obtain ⟨k, p, g, C, u, cp, cb, hC, hn, hk, hp, hq, hv, h2, hu, hu8, hh, hDu, hid⟩ := LJ_get hL
  exact PA_v hL (SAME_rfl mm) rfl (s66 hp hq _) (s242 h2 hq _)
theorem A_22 (hL : LJ A H0 mm D s H n r t) : PAIA G A H0 mm H n r t 67 244 := by
  obtain ⟨k, p, g, C, u, cp, cb, hC, hn, hk, hp, hq, hv, h2, hu, hu8, hh, hDu, hid⟩ := LJ_get hL
  have e : ∀ (d : Nat), call G (d + 2) 67 [.ref (ad A 11 0)] (S A H mm n r) = _ := fun d => s67 hn hk hp hq d
  rw [Q_vac cp] at e
  exact PA_v hL (SAME_rfl mm) rfl (e _) (s244 h2 hq _)
theorem A_38 (hL : LJ A H0 mm D s H n r t) : PAIA G A H0 mm H n r t 83 269 := by
  obtain ⟨k, p, g, C, u, cp, cb, hC, hn, hk, hp, hq, hv, h2, hu, hu8, hh, hDu, hid⟩ := LJ_get hL
  have e : ∀ (d : Nat), call G (d + 4) 269 [.ref (ad A 12 0)] (S A H (sb mm 12 (us D 1 s)) n r) = _ := fun d => s269 h2 hq (Q_FV cp) d
  rw [Q_bp cp] at e
  exact PA_v hL (SAME_rfl mm) rfl (s83 hn hk hp hq hv _) (e _)
theorem A_39 (hL : LJ A H0 mm D s H n r t) : PAIA G A H0 mm H n r t 84 270 := by
  obtain ⟨k, p, g, C, u, cp, cb, hC, hn, hk, hp, hq, hv, h2, hu, hu8, hh, hDu, hid⟩ := LJ_get hL
  have e : ∀ (d : Nat), call G (d + 6) 84 [.ref (ad A 11 0)] (S A H mm n r) = _ := fun d => s84 hn hk hp hq hv d
  rw [O_bo cp] at e
  exact PA_v hL (SAME_11 fun c i hc => by rw [us_ne (by omega)]) (sb_ne (by omega)) (e _) (s270 h2 hq (Q_FV cp) _)
theorem A_41 (hL : LJ A H0 mm D s H n r t) : PAIA G A H0 mm H n r t 86 274 := by
  obtain ⟨k, p, g, C, u, cp, cb, hC, hn, hk, hp, hq, hv, h2, hu, hu8, hh, hDu, hid⟩ := LJ_get hL
  have e : ∀ (d : Nat), call G d 274 [.ref (ad A 12 0)] (S A H (sb mm 12 (us D 1 s)) n r) = _ := fun d => s274 d
  rw [cp.2.2.1.2.1] at e
  exact PA_v hL (SAME_rfl mm) rfl (s86 _) (e _)
theorem A_43 (hL : LJ A H0 mm D s H n r t) : PAIA G A H0 mm H n r t 88 276 := by
  obtain ⟨k, p, g, C, u, cp, cb, hC, hn, hk, hp, hq, hv, h2, hu, hu8, hh, hDu, hid⟩ := LJ_get hL
  have e : ∀ (d : Nat), call G (d + 1) 276 [.ref (ad A 12 0)] (S A H (sb mm 12 (us D 1 s)) n r) = _ := fun d => s276 h2 hq d
  rw [Q_dw cp] at e
  exact PA_v hL (SAME_rfl mm) rfl (s88 hn hk hp hq hv _) (e _)
theorem A_55 (hL : LJ A H0 mm D s H n r t) : PAIA G A H0 mm H n r t 100 298 := by
  obtain ⟨k, p, g, C, u, cp, cb, hC, hn, hk, hp, hq, hv, h2, hu, hu8, hh, hDu, hid⟩ := LJ_get hL
  have e : ∀ (d : Nat), call G d 298 [.ref (ad A 12 0)] (S A H (sb mm 12 (us D 1 s)) n r) = _ := fun d => s298 d
  rw [hDu, ← hu] at e
  exact PA_v hL (SAME_rfl mm) rfl (s100 _) (e _)
/-- the most hires: the model makes a row -/
theorem PM_v (hL : LJ A H0 mm D s H n r t) {w q : Nat} {b : Int32} {mm' : Mm} {c : Cel} (hS : SAME mm mm') (h12 : mm' 12 = mm 12) (hw : call G 40 w [.ref (ad A 11 0)] (S A H mm n r) = vI b (S A H mm' n r)) (hq : call G 40 q [.ref (ad A 12 0)] (S A H (sb mm' 12 (us D 1 s)) n r) = vI b (S A (hset H n c) (sb mm' 12 (us (ud D 0 6 0) 1 s)) (n + 1) (r + 64))) : PAIA G A H0 mm H n r t w q := by
  have hn := LJ_n hL
  rw [LJ_mm hL h12] at hq
  exact ⟨b, mm', H, n, r, ud D 0 6 0, s, hset H n c, n + 1, r + 64, hw, hq, HE_set (by omega), LJ_q6 hL hS (HE_set (by omega)) (LX_hi (LJ_lx hL) hn) (SBK_q (by omega) (Or.inr (Nat.le_refl _)) (by omega)) (by omega) (by omega)⟩
theorem cp_same {B : Bd} {k p : Nat} {v : Int32} : SAME mm (sb mm 11 (cpS B k v (X0p (mm 11)) p).2) := SAME_11 fun c i hc => by rw [cpS_n (by omega) (by omega), X0p_n (by omega)]
theorem A_36 (hL : LJ A H0 mm D s H n r t) : PAIA G A H0 mm H n r t 81 266 := by
  obtain ⟨k, p, g, C, u, cp, cb, hC, hn, hk, hp, hq, hv, h2, hu, hu8, hh, hDu, hid⟩ := LJ_get hL
  have e : ∀ (d : Nat), call G (d + 9) 81 [.ref (ad A 11 0)] (S A H mm n r) = _ := fun d => s81 hn hk hp hq d
  rw [(O_mo cp (mm 11) (mm 11)).1] at e
  obtain ⟨c, e2⟩ := s266 (G := G) (A := A) (n := n) (r := r) (H := H) (m := sb mm 11 (cpS (mm 0) k (vac (mm 0) p k) (X0p (mm 11)) p).2) (D := D) (s := s) h2 hq (by have := LJ_n hL; omega) 37
  exact PM_v hL cp_same (sb_ne (by omega)) (e _) e2
theorem s267 {m : Mm} {p : Nat} (hp : s 2 = nI p) (hq : p ≤ 6) (hn : A + 177 ≤ n) (d : Nat) : ∃ c, call G (d + 4) 267 [.ref (ad A 12 0)] (S A H (sb m 12 (us D 1 s)) n r) = vI (mxM (mcA s p F0m 10) 64) (S A (hset H n c) (sb m 12 (us (ud D 0 6 0) 1 s)) (n + 1) (r + 64)) := by
  obtain ⟨c, e⟩ := s266 (G := G) (A := A) (n := n) (r := r) (H := H) (m := m) (D := D) (s := s) hp hq hn d
  refine ⟨c, ?_⟩
  rw [b267_e, if_pos rcM0, cI_of e]; rfl
theorem A_37 (hL : LJ A H0 mm D s H n r t) : PAIA G A H0 mm H n r t 82 267 := by
  obtain ⟨k, p, g, C, u, cp, cb, hC, hn, hk, hp, hq, hv, h2, hu, hu8, hh, hDu, hid⟩ := LJ_get hL
  have e : ∀ (d : Nat), call G (d + 3) 82 [.ref (ad A 11 0)] (S A H mm n r) = _ := fun d => s82 hn hk hp hq d
  rw [O_ms cp (mm 11)] at e
  obtain ⟨c, e2⟩ := s267 (G := G) (A := A) (n := n) (r := r) (H := H) (m := sb mm 11 (us (mm 11) 7 (fsA (mm 0) p (vac (mm 0) p k) (F0s (mm 11)) k))) (D := D) (s := s) h2 hq (by have := LJ_n hL; omega) 36
  exact PM_v hL (SAME_11 fun c i hc => by rw [us_ne (by omega)]) (sb_ne (by omega)) (e _) e2
/-- all is consistent -/
theorem s94 {k p : Nat} {g : Nat → Nat} (cp : CP (mm 0) s k p g) (d : Nat) : ∃ X, (∀ c i, c < 3 ∨ 9 ≤ c → X c i = mm 11 c i) ∧ call G (d + 10) 94 [.ref (ad A 11 0)] (S A H mm n r) = vI 1 (S A H (sb mm 11 X) n r) := by
  have hn := cp.1.1.1
  have hp := cp.1.1.2.2.1
  have hk := CP_k cp
  have hq := CP_p cp
  have hv := CP_pv cp
  obtain ⟨X1, hX1⟩ : ∃ X1, X1 = (cpS (mm 0) k (vac (mm 0) p k) (X0p (mm 11)) p).2 := ⟨_, rfl⟩
  have e1 := s81 (G := G) (A := A) (n := n) (r := r) (H := H) (m := mm) hn hk hp hq d
  rw [(O_mo cp (mm 11) X1).1, ← hX1] at e1
  have m10 : sb mm 11 X1 0 = mm 0 := sb_ne (by omega)
  have e2 := s82 (G := G) (A := A) (n := n) (r := r) (H := H) (m := sb mm 11 X1) (k := k) (p := p) (by rw [m10]; exact hn) hk (by rw [m10]; exact hp) hq (d + 6)
  rw [m10, sb_eq, sb_sb, O_ms cp X1] at e2
  obtain ⟨X2, hX2⟩ : ∃ X2, X2 = us X1 7 (fsA (mm 0) p (vac (mm 0) p k) (F0s X1) k) := ⟨_, rfl⟩
  rw [← hX2] at e2
  have m20 : sb mm 11 X2 0 = mm 0 := sb_ne (by omega)
  have e3 := s83 (G := G) (A := A) (n := n) (r := r) (H := H) (m := sb mm 11 X2) (k := k) (p := p) (by rw [m20]; exact hn) hk (by rw [m20]; exact hp) hq (by rw [m20]; exact hv) (d + 3)
  rw [m20] at e3
  have e4 := s84 (G := G) (A := A) (n := n) (r := r) (H := H) (m := sb mm 11 X2) (k := k) (p := p) (by rw [m20]; exact hn) hk (by rw [m20]; exact hp) hq (by rw [m20]; exact hv) (d + 3)
  rw [m20, sb_eq, sb_sb, O_bo cp, Q_bp cp] at e4
  obtain ⟨X3, hX3⟩ : ∃ X3, X3 = us X2 8 (srt (mm 0) (X2 8) p) := ⟨_, rfl⟩
  rw [← hX3] at e4
  have m30 : sb mm 11 X3 0 = mm 0 := sb_ne (by omega)
  have e5 := s147 (G := G) (A := A) (n := n) (r := r) (H := H) (m := sb mm 11 X3) (b := 0) (k := k) (p := p) (by omega) (by rw [m30]; exact hn) hk (by rw [m30]; exact hp) hq (by rw [m30]; exact hv) (d + 8)
  rw [m30] at e5
  have e6 : fst (fun i => !(waB (mm 0) i) && !(ftB (mm 0) i (qB (mm 0) i))) k = none := by
    refine fst_of0 fun i hi => ?_
    cases hw : waB (mm 0) i with
    | true => rfl
    | false =>
      have := cp.1.2.2.2.2 i hi (fun hx => by unfold waB at hw; rw [hx] at hw; simp at hw)
      have e : nt (mm 0 7 i) = qB (mm 0) i := rfl
      rw [e] at this
      rw [this]; rfl
  rw [e6] at e5
  refine ⟨X3, fun c i hc => ?_, ?_⟩
  · rw [hX3, us_ne (by omega), hX2, us_ne (by omega), hX1, cpS_n (by omega) (by omega), X0p_n (by omega)]
  · rw [b94_e, if_pos rcX0, cI_of e1, if_pos rcX0, cI_of e2, if_pos rfl, if_pos rcX0, cI_of e3, if_pos rcX0, cI_of e4, if_pos rfl, rfX0_0, Option.bind_some, if_pos (rcB0 (by omega)), cI_of e5, if_neg (show ¬ bI (Option.isNone (none : Option Nat)) = 0 by decide)]
    rfl
theorem A_49 (hL : LJ A H0 mm D s H n r t) : PAIA G A H0 mm H n r t 94 279 := by
  obtain ⟨k, p, g, C, u, cp, cb, hC, hn, hk, hp, hq, hv, h2, hu, hu8, hh, hDu, hid⟩ := LJ_get hL
  obtain ⟨X, hX, e⟩ := s94 (G := G) (A := A) (n := n) (r := r) (H := H) cp 30
  exact PA_v hL (SAME_11 hX) (sb_ne (by omega)) e (s279 _)
end
