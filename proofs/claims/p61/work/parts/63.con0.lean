/-! WHAT THE LAW ASKS: all is consistent. -/
theorem fpi_n {rec : Nat → Bd → Bool × Bd} {B : Bd} {q k c : Nat} (h5 : c ≠ 5) (h6 : c ≠ 6) (hr : ∀ q X, (rec q X).2 c = X c) : ∀ (t : Nat) (X : Bd), (fpi rec B q k t X).2 c = X c := by
  intro t
  induction t with
  | zero => intro X; rfl
  | succ t ih =>
    intro X
    rw [fpi]
    split
    · exact ih X
    · split
      · show ud (ud X 6 _ 1) 5 _ _ c = X c
        rw [ud_nc h5, ud_nc h6]
      · split
        · show ud _ 5 _ _ c = X c
          rw [ud_nc h5, hr, ud_nc h6]
        · rw [ih, hr, ud_nc h6]
theorem fpB_n {B : Bd} {k c : Nat} (h5 : c ≠ 5) (h6 : c ≠ 6) : ∀ (f q : Nat) (X : Bd), (fpB B k f q X).2 c = X c := by
  intro f
  induction f with
  | zero => intro q X; rfl
  | succ f ih => intro q X; exact fpi_n h5 h6 ih k X
theorem cpS_n {B X : Bd} {k c : Nat} {v : Int32} (h5 : c ≠ 5) (h6 : c ≠ 6) : ∀ q, (cpS B k v X q).2 c = X c := by
  intro q
  induction q with
  | zero => rfl
  | succ q ih =>
    rw [cpS]
    split
    · show (fpB B k 6 q (clr6 (cpS B k v X q).2)).2 c = X c
      rw [fpB_n h5 h6]
      unfold clr6; rw [us_ne h6]; exact ih
    · exact ih
theorem X0p_n {X : Bd} {c : Nat} (h5 : c ≠ 5) : X0p X c = X c := by unfold X0p; rw [us_ne h5]
section
variable {G : Glb} {A n r : Nat} {H : Hp} {mm : Mm} {s : Nat → Int32}
/-- all is consistent -/
theorem s94 {k p : Nat} {g : Nat → Nat} (cp : CP (mm 0) s k p g) (d : Nat) : ∃ X, (∀ c i, c < 3 ∨ 9 ≤ c → X c i = mm 11 c i) ∧ call G (d + 10) 94 [.ref (ad A 11 0)] (S A H mm n r) = vI 1 (S A H (sb mm 11 X) n r) := by
  have hn := cp.1.1.1
  have hp := cp.1.1.2.2.1
  have hk := CP_k cp
  have hq := CP_p cp
  have hv := CP_pv cp
  obtain ⟨X1, hX1⟩ : ∃ X1, X1 = (cpS (mm 0) k (vac (mm 0) p k) (X0p (mm 11)) p).2 := ⟨_, rfl⟩
  have e1 := s81 (G := G) (A := A) (n := n) (r := r) (H := H) (m := mm) hn hk hp hq d
  rw [(O_mo cp (mm 11) X1).1, ← hX1] at e1
  have m10 : sb mm 11 X1 0 = mm 0 := sb_ne (by omega)
  have e2 := s82 (G := G) (A := A) (n := n) (r := r) (H := H) (m := sb mm 11 X1) (k := k) (p := p) (by rw [m10]; exact hn) hk (by rw [m10]; exact hp) hq (d + 6)
  rw [m10, sb_eq, sb_sb, O_ms cp X1] at e2
  obtain ⟨X2, hX2⟩ : ∃ X2, X2 = us X1 7 (fsA (mm 0) p (vac (mm 0) p k) (F0s X1) k) := ⟨_, rfl⟩
  rw [← hX2] at e2
  have m20 : sb mm 11 X2 0 = mm 0 := sb_ne (by omega)
  have e3 := s83 (G := G) (A := A) (n := n) (r := r) (H := H) (m := sb mm 11 X2) (k := k) (p := p) (by rw [m20]; exact hn) hk (by rw [m20]; exact hp) hq (by rw [m20]; exact hv) (d + 3)
  rw [m20] at e3
  have e4 := s84 (G := G) (A := A) (n := n) (r := r) (H := H) (m := sb mm 11 X2) (k := k) (p := p) (by rw [m20]; exact hn) hk (by rw [m20]; exact hp) hq (by rw [m20]; exact hv) (d + 3)
  rw [m20, sb_eq, sb_sb, O_bo cp, Q_bp cp] at e4
  obtain ⟨X3, hX3⟩ : ∃ X3, X3 = us X2 8 (srt (mm 0) (X2 8) p) := ⟨_, rfl⟩
  rw [← hX3] at e4
  have m30 : sb mm 11 X3 0 = mm 0 := sb_ne (by omega)
  have e5 := s147 (G := G) (A := A) (n := n) (r := r) (H := H) (m := sb mm 11 X3) (b := 0) (k := k) (p := p) (by omega) (by rw [m30]; exact hn) hk (by rw [m30]; exact hp) hq (by rw [m30]; exact hv) (d + 8)
  rw [m30] at e5
  have e6 : fst (fun i => !(waB (mm 0) i) && !(ftB (mm 0) i (qB (mm 0) i))) k = none := by
    refine fst_of0 fun i hi => ?_
    cases hw : waB (mm 0) i with
    | true => rfl
    | false =>
      have := cp.1.2.2.2.2 i hi (fun hx => by unfold waB at hw; rw [hx] at hw; simp at hw)
      have e : nt (mm 0 7 i) = qB (mm 0) i := rfl
      rw [e] at this
      rw [this]; rfl
  rw [e6] at e5
  refine ⟨X3, fun c i hc => ?_, ?_⟩
  · rw [hX3, us_ne (by omega), hX2, us_ne (by omega), hX1, cpS_n (by omega) (by omega), X0p_n (by omega)]
  · rw [b94_e, if_pos rcX0, cI_of e1, if_pos rcX0, cI_of e2, if_pos rfl, if_pos rcX0, cI_of e3, if_pos rcX0, cI_of e4, if_pos rfl, rfX0_0, Option.bind_some, if_pos (rcB0 (by omega)), cI_of e5, if_neg (show ¬ bI (Option.isNone (none : Option Nat)) = 0 by decide)]
    rfl
end
