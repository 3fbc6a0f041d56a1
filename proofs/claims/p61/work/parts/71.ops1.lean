/-! WHAT A CHANGE DOES, part 2: each change of the law. -/
theorem CB_dys {B : Bd} {s : Nat → Int32} {k p : Nat} {g : Nat → Nat} (cp : CP B s k p g) {C : Nat} (cb : CB B k C) : ∀ j, CB (dyS B k j).1 k (C + 99 * j) := by
  intro j
  induction j with
  | zero => exact cb
  | succ j ih =>
    have := CB_day (O_pd cp j).1 ih
    exact CB_le this (by omega)
theorem dyS_le (B : Bd) (k : Nat) : ∀ t, (dyS B k t).2 ≤ k * t := by
  intro t
  induction t with
  | zero => exact Nat.le_refl _
  | succ t ih =>
    show (dyS B k t).2 + cnt (dgo (dyS B k t).1) k ≤ k * (t + 1)
    have := cnt_le (dgo (dyS B k t).1) k
    rw [Nat.mul_succ]; omega
def JT (mm : Mm) (C dn : Nat) (Bt : Nat → Bd) : Prop := (∃ s, RE (mm 0) s C) ∧ HIS mm dn Bt ∧ WZ (mm 11) 0
theorem WZ_c {X Y : Bd} {L : Nat} (h : WZ X L) (h' : ∀ c i, c < 3 ∨ 9 ≤ c → c ≠ 0 → c ≠ 1 → Y c i = X c i) : WZ Y L := by
  obtain ⟨a1, a2, a3, a4⟩ := h
  exact ⟨by rw [h' 11 1 (by omega) (by omega) (by omega)]; exact a1, a2, by rw [h' 11 4 (by omega) (by omega) (by omega)]; exact a3, by rw [h' 11 7 (by omega) (by omega) (by omega)]; exact a4⟩
theorem RE_le {B : Bd} {s : Nat → Int32} {C C' : Nat} (h : RE B s C) (hC : C ≤ C') : RE B s C' := RE_ext h (EB_rfl _) (fun _ _ => rfl) hC
theorem JT_keep {mm mm' : Mm} {C dn : Nat} {Bt : Nat → Bd} (h : JT mm C dn Bt) (hk : KEEP mm mm') : JT mm' C dn Bt := by
  obtain ⟨⟨s, h1⟩, h2, h3⟩ := h
  exact ⟨⟨s, by rw [hk.1 0 (by omega) (by omega)]; exact h1⟩, HI_keep h2 hk, WZ_c h3 fun c i hc _ _ => hk.2 c i hc⟩
theorem JT_push {mm mm' : Mm} {B' : Bd} {C C' dn : Nat} {Bt : Nat → Bd} (h : JT mm C dn Bt) (hd : dn ≤ 7) (hp : PUSH mm mm' B') (hB : Bt dn = mm 0) (hR : ∃ s, RE B' s C') : JT mm' C' (dn + 1) Bt ∧ mm' 0 = B' := by
  obtain ⟨_, h2, h3⟩ := h
  obtain ⟨a1, a2, a3⟩ := HI_push h2 hd hp hB
  obtain ⟨s, hs⟩ := hR
  exact ⟨⟨⟨s, by rw [a2]; exact hs⟩, a1, WZ_c h3 fun c i hc h0 h1 => a3 c i h0 h1 hc⟩, a2⟩
theorem JT_get {mm : Mm} {C dn : Nat} {Bt : Nat → Bd} (h : JT mm C dn Bt) : ∃ s k p g u, CP (mm 0) s k p g ∧ CB (mm 0) k C ∧ mm 0 1 0 = nI k ∧ k ≤ 10 ∧ mm 0 9 0 = nI p ∧ p ≤ 6 ∧ PV (mm 0) k p ∧ mm 11 0 4 = nI u ∧ u ≤ 8 ∧ HW (mm 11) ∧ ∀ i, i < k → ¬ mm 0 2 i = -1 := by
  obtain ⟨⟨s, k, p, g, cp, cb⟩, ⟨u, a1, a2, a3, a4, a5, a6⟩, _⟩ := h
  exact ⟨s, k, p, g, u, cp, cb, CF_n cp, CP_k cp, CF_p cp, CP_p cp, CP_pv cp, a3, a1, a4, CF_id cp⟩
/-- a change: refused, or pushed and done -/
def OPR (A : Nat) (H : Hp) (mm : Mm) (n r C' : Nat) (Φ : Int32 → Bd → Prop) (Ψ : Int32 → Prop) (F : Res) : Prop := ∃ v mm' n' r', F = vI v (S A H mm' n' r') ∧ n ≤ n' ∧ n' ≤ n + 1 ∧ r' ≤ r + 6 ∧ ((v < 0 ∧ Ψ v ∧ KEEP mm mm') ∨ (¬ v < 0 ∧ ∃ B', PUSH mm mm' B' ∧ (∃ s, RE B' s C') ∧ Φ v B'))
theorem OP_v {A : Nat} {H : Hp} {mm : Mm} {n r C' u : Nat} {Φ : Int32 → Bd → Prop} {Ψ : Int32 → Prop} {F : Res} {v : Int32} {B' : Bd} (hu : mm 11 0 4 = nI u) (hu8 : u ≤ 8) (hv : ¬ v < 0) (hR : ∃ s, RE B' s C') (hΦ : Φ v B') (hw : F = vI v (S A H (chM mm B' u) n r)) : OPR A H mm n r C' Φ Ψ F := ⟨v, _, n, r, hw, Nat.le_refl _, Nat.le_succ n, Nat.le_add_right r 6, Or.inr ⟨hv, B', PUSH_ch hu hu8, hR, hΦ⟩⟩
theorem OP_x {A : Nat} {H : Hp} {mm mm' : Mm} {n r C' : Nat} {Φ : Int32 → Bd → Prop} {Ψ : Int32 → Prop} {F : Res} {v : Int32} (hv : v < 0) (hΨ : Ψ v) (hk : KEEP mm mm') (hw : F = vI v (S A H mm' (n + 1) (r + 6))) : OPR A H mm n r C' Φ Ψ F := ⟨v, mm', n + 1, r + 6, hw, Nat.le_succ n, Nat.le_refl _, Nat.le_refl _, Or.inl ⟨hv, hΨ, hk⟩⟩
/-- what most changes leave -/
def LV4 (B B' : Bd) : Prop := B' 1 = B 1 ∧ B' 2 = B 2 ∧ B' 8 = B 8 ∧ B' 9 = B 9
theorem LV_7 (B : Bd) (i : Nat) (v : Int32) : LV4 B (ud B 7 i v) := ⟨ud_nc (by omega), ud_nc (by omega), ud_nc (by omega), ud_nc (by omega)⟩
theorem bc_nn {B : Bd} {s : Nat → Int32} {k p : Nat} {g : Nat → Nat} (h : CP B s k p g) {i : Nat} (hi : i < k) : ¬ bcI (B 8 i) < 0 := by
  obtain ⟨V, h1, h2, _⟩ := CP_gv h hi
  rw [h2, bt_bcI V h1]
  exact nI_pos (by have := pcn_le V; omega)
theorem vac_nn {B : Bd} {s : Nat → Int32} {k p : Nat} {g : Nat → Nat} (h : CP B s k p g) : ¬ bcI (vac B p k) < 0 := by
  rw [Q_vac h, Q_va h]
  exact nI_pos (by have := cnt_le (fun q => (fh B k (nI q)).isNone) p; have := CP_p h; omega)
section
variable {G : Glb} {A n r C dn : Nat} {H : Hp} {mm : Mm} {Bt : Nat → Bd} {fl : Nat → Nat}
theorem op_2 (hg : GF G fl) (hJ : JT mm C dn Bt) (hC : C < 1000000) (sh w rr : Int32) (d : Nat) : OPR A H mm n r (C + 1) (fun v B' => ∃ k, mm 0 1 0 = nI k ∧ k ≤ 10 ∧ B' = apB (mm 0) k sh w rr ∧ v = mm 0 1 1) (fun _ => ∃ k, mm 0 1 0 = nI k ∧ k ≤ 10 ∧ ¬ (tAd (mm 0) k sh w rr).1 = 0) (call G (d + 7) 2 [.ref (ad A 11 0), .int sh, .int w, .int rr] (S A H mm n r)) := by
  obtain ⟨s, k, p, g, u, cp, cb, hn, hk, hp, hq, hv, hu, hu8, hh, hid⟩ := JT_get hJ
  obtain ⟨nid, hn1, hn2⟩ := cb.1
  have e := s45 (G := G) (A := A) (n := n) (r := r) (H := H) (m := mm) (u := u) hg hn hk hu hu8 hh sh w rr (d + 2)
  rcases O_ad cp hn2 (by omega) sh w rr with ⟨h1, h2, h3, h4, g', h5⟩ | ⟨h1, h2⟩ | ⟨h1, h2⟩
  · rw [if_pos h1] at e
    have ev : (tAd (mm 0) k sh w rr).2 1 1 - 1 = mm 0 1 1 := by rw [h4]; unfold apB; rw [ud_eq, Int32.add_sub_cancel]
    rw [ev] at e
    exact OP_v hu hu8 (by rw [hn2]; exact nI_pos (by omega)) ⟨_, _, _, _, h5, by rw [h4]; exact CB_ad cb⟩ ⟨k, hn, hk, h4, rfl⟩ (w2_v rcX0 e)
  · rw [if_neg (by rw [h1]; decide)] at e
    have hne : ¬ (tAd (mm 0) k sh w rr).1 = 0 := by rw [h1]; decide
    rw [h1] at e
    exact OP_x (by decide) ⟨k, hn, hk, hne⟩ (KEEP_bg mm) (w2_x1 rcX0 e)
  · rw [if_neg (by rw [h1]; decide)] at e
    have hne : ¬ (tAd (mm 0) k sh w rr).1 = 0 := by rw [h1]; decide
    rw [h1] at e
    exact OP_x (by decide) ⟨k, hn, hk, hne⟩ (KEEP_bg mm) (w2_x2 rcX0 e)
theorem op_3 (hg : GF G fl) (hJ : JT mm C dn Bt) (hC : C < 1000000) (x : Int32) (d : Nat) : OPR A H mm n r C (fun _ B' => ∃ k i, mm 0 1 0 = nI k ∧ k ≤ 10 ∧ i < k ∧ B' = rmB (mm 0) k i) (fun _ => ∃ k, mm 0 1 0 = nI k ∧ k ≤ 10 ∧ fx (mm 0) k x = none) (call G (d + 7) 3 [.ref (ad A 11 0), .int x] (S A H mm n r)) := by
  obtain ⟨s, k, p, g, u, cp, cb, hn, hk, hp, hq, hv, hu, hu8, hh, hid⟩ := JT_get hJ
  rcases O_lv cp x with ⟨i, hi, h1, h3, h4, h5, g', h6⟩ | ⟨hi, h1, h3⟩
  · obtain ⟨y, y1, y2⟩ := cb.2 i (fx_k hi).1
    exact OP_v hu hu8 (by rw [y2]; exact nI_pos (by omega)) ⟨_, _, _, _, h6, CB_rm cb (fx_k hi).1⟩ ⟨k, i, hn, hk, (fx_k hi).1, rfl⟩ (w3_v rcX0 (s46 hi hg hn hk hu hu8 hh (d + 1)))
  · exact OP_x (by decide) ⟨k, hn, hk, hi⟩ (KEEP_rfl mm) (w3_x1 rcX0 (s46n hi hn hk (d + 1)))
theorem op_4 (hg : GF G fl) (hJ : JT mm C dn Bt) (x : Int32) (d : Nat) : OPR A H mm n r C (fun _ _ => True) (fun _ => True) (call G (d + 7) 4 [.ref (ad A 11 0), .int x] (S A H mm n r)) := by
  obtain ⟨s, k, p, g, u, cp, cb, hn, hk, hp, hq, hv, hu, hu8, hh, hid⟩ := JT_get hJ
  cases hx : inR x 0 50 with
  | false => exact OP_x (by decide) trivial (KEEP_rfl mm) (w4_x1 rcX0 (s47n hx (d + 1)))
  | true =>
    obtain ⟨⟨g', h5⟩, h6⟩ := O_rj cp x
    have hcb : ∀ i B k', i ≤ k' → CB B k' C → CB (rwa x i (B, k')).1 (rwa x i (B, k')).2 C := by
      intro i
      induction i with
      | zero => intro B k' _ h; exact h
      | succ i ih =>
        intro B k' hi h
        rw [rwa]
        split
        · exact ih _ _ (by show i ≤ k' - 1; omega) (CB_rm h (by omega))
        · exact ih _ _ (by omega) h
    exact OP_v hu hu8 (nI_pos (by omega)) ⟨_, _, _, _, h5, hcb k (mm 0) k (Nat.le_refl k) cb⟩ trivial (w4_v rcX0 (s47 hx hg hn hk hu hu8 hh (d + 1)))
theorem op_13 (hg : GF G fl) (hJ : JT mm C dn Bt) (x y : Int32) (d : Nat) : OPR A H mm n r C (fun _ B' => ∃ k i g, mm 0 1 0 = nI k ∧ k ≤ 10 ∧ i < k ∧ g < k ∧ g ≠ i ∧ B' = ud (mm 0) 8 i (mm 0 8 i ||| one g)) (fun v => v = -1 → ∃ k, mm 0 1 0 = nI k ∧ k ≤ 10 ∧ (fx (mm 0) k x = none ∨ fx (mm 0) k y = none)) (call G (d + 7) 13 [.ref (ad A 11 0), .int x, .int y] (S A H mm n r)) := by
  obtain ⟨s, k, p, g, u, cp, cb, hn, hk, hp, hq, hv, hu, hu8, hh, hid⟩ := JT_get hJ
  have e := s59 (G := G) (A := A) (n := n) (r := r) (H := H) (m := mm) (u := u) hg hn hk hu hu8 hh x y (d + 2)
  rcases O_rf cp x y with ⟨h1, h3, h4, ⟨i, v, h5⟩, h6⟩ | ⟨h1, h3⟩ | ⟨h1, h3⟩ | ⟨h1, h3⟩
  · rw [if_pos h1] at e
    obtain ⟨a, b, ea, eb, hab, et⟩ : ∃ a b, fx (mm 0) k x = some a ∧ fx (mm 0) k y = some b ∧ a ≠ b ∧ (tRf (mm 0) k x y).2 = ud (mm 0) 8 b (mm 0 8 b ||| one a) := by
      unfold tRf at h1 ⊢
      cases ea : fx (mm 0) k x with
      | none => rw [ea] at h1; exact absurd h1 (show ¬ (3 : Nat) = 0 by decide)
      | some a =>
        rw [ea] at h1
        cases eb : fx (mm 0) k y with
        | none => rw [eb] at h1; exact absurd h1 (show ¬ (3 : Nat) = 0 by decide)
        | some b =>
          rw [eb] at h1
          by_cases hab : a = b
          · have h1' : (if a = b then ((1 : Nat), mm 0) else if rfB (mm 0) a b = true then (2, mm 0) else (0, ud (mm 0) 8 b (mm 0 8 b ||| one a))).1 = 0 := h1
            rw [if_pos hab] at h1'
            exact absurd h1' (show ¬ (1 : Nat) = 0 by decide)
          · refine ⟨a, b, rfl, rfl, hab, ?_⟩
            have h1' : (if a = b then ((1 : Nat), mm 0) else if rfB (mm 0) a b = true then (2, mm 0) else (0, ud (mm 0) 8 b (mm 0 8 b ||| one a))).1 = 0 := h1
            show (if a = b then ((1 : Nat), mm 0) else if rfB (mm 0) a b = true then (2, mm 0) else (0, ud (mm 0) 8 b (mm 0 8 b ||| one a))).2 = _
            rw [if_neg hab] at h1' ⊢
            by_cases hr : rfB (mm 0) a b = true
            · rw [if_pos hr] at h1'; exact absurd h1' (show ¬ (2 : Nat) = 0 by decide)
            · rw [if_neg hr]
    have hb := (fx_k eb).1
    have hnn : ¬ bcI ((tRf (mm 0) k x y).2 8 ((fx (mm 0) k y).getD 0)) < 0 := by
      rw [eb]; exact bc_nn h6 hb
    refine OP_v hu hu8 hnn ⟨_, _, _, _, h6, ?_⟩ ⟨k, b, a, hn, hk, hb, (fx_k ea).1, hab, et⟩ (w13_v rcX0 e)
    rw [et]; exact CB_c cb (by rw [ud_nc (by omega)]) (fun j _ => by rw [ud_nc (by omega)])
  · rw [if_neg (by rw [h1]; decide)] at e
    have hno : fx (mm 0) k x = none ∨ fx (mm 0) k y = none := by
      unfold tRf at h1
      cases ea : fx (mm 0) k x with
      | none => exact Or.inl rfl
      | some a =>
        rw [ea] at h1
        cases eb : fx (mm 0) k y with
        | none => exact Or.inr rfl
        | some b =>
          rw [eb] at h1
          have h1' : (if a = b then ((1 : Nat), mm 0) else if rfB (mm 0) a b = true then (2, mm 0) else (0, ud (mm 0) 8 b (mm 0 8 b ||| one a))).1 = 3 := h1
          by_cases hab : a = b
          · rw [if_pos hab] at h1'; exact absurd h1' (show ¬ (1 : Nat) = 3 by decide)
          · rw [if_neg hab] at h1'
            by_cases hr : rfB (mm 0) a b = true
            · rw [if_pos hr] at h1'; exact absurd h1' (show ¬ (2 : Nat) = 3 by decide)
            · rw [if_neg hr] at h1'; exact absurd h1' (show ¬ (0 : Nat) = 3 by decide)
    rw [h1] at e
    exact OP_x (by decide) (fun _ => ⟨k, hn, hk, hno⟩) (KEEP_bg mm) (w13_x1 rcX0 e)
  · rw [if_neg (by rw [h1]; decide), h1] at e
    exact OP_x (by decide) (fun z => absurd z (by decide)) (KEEP_bg mm) (w13_x2 rcX0 e)
  · rw [if_neg (by rw [h1]; decide), h1] at e
    exact OP_x (by decide) (fun z => absurd z (by decide)) (KEEP_bg mm) (w13_x3 rcX0 e)
theorem op_14 (hg : GF G fl) (hJ : JT mm C dn Bt) (x y : Int32) (d : Nat) : OPR A H mm n r C (fun _ _ => True) (fun _ => True) (call G (d + 7) 14 [.ref (ad A 11 0), .int x, .int y] (S A H mm n r)) := by
  obtain ⟨s, k, p, g, u, cp, cb, hn, hk, hp, hq, hv, hu, hu8, hh, hid⟩ := JT_get hJ
  have e := s60 (G := G) (A := A) (n := n) (r := r) (H := H) (m := mm) (u := u) hg hn hk hu hu8 hh x y (d + 2)
  rcases O_wd cp x y with ⟨h1, h3, h4, ⟨i, v, h5⟩, h6⟩ | ⟨h1, h3⟩
  · rw [if_pos h1] at e
    obtain ⟨b, eb⟩ : ∃ b, fx (mm 0) k y = some b := by
      unfold tWd at h1
      cases ea : fx (mm 0) k x with
      | none => rw [ea] at h1; exact absurd h1 (show ¬ (3 : Nat) = 0 by decide)
      | some a =>
        rw [ea] at h1
        cases eb : fx (mm 0) k y with
        | none => rw [eb] at h1; exact absurd h1 (show ¬ (3 : Nat) = 0 by decide)
        | some b => exact ⟨b, rfl⟩
    have hnn : ¬ bcI ((tWd (mm 0) k x y).2 8 ((fx (mm 0) k y).getD 0)) < 0 := by
      rw [eb]; exact bc_nn h6 (fx_k eb).1
    refine OP_v hu hu8 hnn ⟨_, _, _, _, h6, ?_⟩ trivial (w14_v rcX0 e)
    rw [h5]; exact CB_c cb (by rw [ud_nc (by omega)]) (fun j _ => by rw [ud_nc (by omega)])
  · rw [if_neg (by rw [h1]; decide), h1] at e
    exact OP_x (by decide) trivial (KEEP_bg mm) (w14_x1 rcX0 e)
theorem op_18 (hg : GF G fl) (hJ : JT mm C dn Bt) (sh lo hi pay : Int32) (d : Nat) : OPR A H mm n r C (fun v B' => ∃ p, mm 0 9 0 = nI p ∧ p ≤ 6 ∧ B' = apP (mm 0) p sh lo hi pay ∧ v = nI p) (fun _ => ∃ p, mm 0 9 0 = nI p ∧ p ≤ 6 ∧ ¬ (tOp (mm 0) p sh lo hi pay).1 = 0) (call G (d + 7) 18 [.ref (ad A 11 0), .int sh, .int lo, .int hi, .int pay] (S A H mm n r)) := by
  obtain ⟨s, k, p, g, u, cp, cb, hn, hk, hp, hq, hv, hu, hu8, hh, hid⟩ := JT_get hJ
  have e := s64 (G := G) (A := A) (n := n) (r := r) (H := H) (m := mm) (u := u) hg hp hq hu hu8 hh sh lo hi pay (d + 1)
  rcases O_op cp sh lo hi pay with ⟨h1, h3, h4, h5, h6⟩ | ⟨h1, h3⟩ | ⟨h1, h3⟩
  · rw [if_pos h1] at e
    have ec : ∀ c, c < 9 → apP (mm 0) p sh lo hi pay c = mm 0 c := by
      intro c hc; unfold apP; rw [ud_nc (by omega), ud_nc (by omega), ud_nc (by omega), ud_nc (by omega), ud_nc (by omega)]
    have ev : (tOp (mm 0) p sh lo hi pay).2 9 0 - 1 = nI p := by rw [h5]; unfold apP; rw [ud_eq]; exact nI_pred p
    rw [ev] at e
    exact OP_v hu hu8 (nI_pos (by omega)) ⟨_, _, _, _, h6, by rw [h5]; exact CB_c cb (by rw [ec 1 (by omega)]) (fun j _ => by rw [ec 6 (by omega)])⟩ ⟨p, hp, hq, h5, rfl⟩ (w18_v rcX0 e)
  · rw [if_neg (by rw [h1]; decide)] at e
    have hne : ¬ (tOp (mm 0) p sh lo hi pay).1 = 0 := by rw [h1]; decide
    rw [h1] at e
    exact OP_x (by decide) ⟨p, hp, hq, hne⟩ (KEEP_bg mm) (w18_x1 rcX0 e)
  · rw [if_neg (by rw [h1]; decide)] at e
    have hne : ¬ (tOp (mm 0) p sh lo hi pay).1 = 0 := by rw [h1]; decide
    rw [h1] at e
    exact OP_x (by decide) ⟨p, hp, hq, hne⟩ (KEEP_bg mm) (w18_x2 rcX0 e)
theorem op_19 (hg : GF G fl) (hJ : JT mm C dn Bt) (x : Int32) (d : Nat) : OPR A H mm n r C (fun _ _ => True) (fun _ => True) (call G (d + 7) 19 [.ref (ad A 11 0), .int x] (S A H mm n r)) := by
  obtain ⟨s, k, p, g, u, cp, cb, hn, hk, hp, hq, hv, hu, hu8, hh, hid⟩ := JT_get hJ
  rcases O_cl cp x with ⟨h1, h3, h4, h5, hx, h6⟩ | ⟨h1, h3, hx⟩
  · rw [h5] at h6
    exact OP_v hu hu8 (by cases (fh (mm 0) k x).isSome <;> decide) ⟨_, _, _, _, h6, CB_c cb (by rw [cl_cell (by omega) (by omega)]) (fun i _ => by rw [cl_cell (by omega) (by omega)])⟩ trivial (w19_v rcX0 (s65 hx hg hn hk hp hq hid hu hu8 hh (d + 1)))
  · exact OP_x (by decide) trivial (KEEP_rfl mm) (w19_x1 rcX0 (s65n hx hp hq (d + 2)))
theorem op_29 (hg : GF G fl) (hJ : JT mm C dn Bt) (x y : Int32) (d : Nat) : OPR A H mm n r C (fun _ B' => LV4 (mm 0) B') (fun v => v = -1 → ∃ p, mm 0 9 0 = nI p ∧ p ≤ 6 ∧ inR x 0 (nI p - 1) = false) (call G (d + 7) 29 [.ref (ad A 11 0), .int x, .int y] (S A H mm n r)) := by
  obtain ⟨s, k, p, g, u, cp, cb, hn, hk, hp, hq, hv, hu, hu8, hh, hid⟩ := JT_get hJ
  have e := s77 (G := G) (A := A) (n := n) (r := r) (H := H) (m := mm) (u := u) hg hn hk hp hq hu hu8 hh x y (d + 1)
  rcases O_hi cp x y with ⟨h1, h3, h4, ⟨i, v, h5⟩, h6⟩ | ⟨h1, h3⟩ | ⟨h1, h3⟩ | ⟨h1, h3⟩ | ⟨h1, h3⟩
  · rw [if_pos h1] at e
    refine OP_v hu hu8 (vac_nn h6) ⟨_, _, _, _, h6, ?_⟩ (by rw [h5]; exact LV_7 _ _ _) (w29_v rcX0 e)
    rw [h5]; exact CB_c cb (by rw [ud_nc (by omega)]) (fun j _ => by rw [ud_nc (by omega)])
  · rw [if_neg (by rw [h1]; decide)] at e
    have hno : inR x 0 (nI p - 1) = false := by
      cases hx : inR x 0 (nI p - 1) with
      | false => rfl
      | true =>
        unfold tHi at h1
        rw [if_pos hx] at h1
        cases ea : fx (mm 0) k y with
        | none => rw [ea] at h1; exact absurd h1 (show ¬ (3 : Nat) = 4 by decide)
        | some a =>
          rw [ea] at h1
          cases eb : fh (mm 0) k x with
          | some b => rw [eb] at h1; exact absurd h1 (show ¬ (2 : Nat) = 4 by decide)
          | none =>
            rw [eb] at h1
            have h1' : (if waB (mm 0) a = true then (if ftB (mm 0) a x.toNatClampNeg = true then ((0 : Nat), ud (mm 0) 7 a x) else (5, mm 0)) else (2, mm 0)).1 = 4 := h1
            by_cases c1 : waB (mm 0) a = true
            · rw [if_pos c1] at h1'
              by_cases c2 : ftB (mm 0) a x.toNatClampNeg = true
              · rw [if_pos c2] at h1'; exact absurd h1' (show ¬ (0 : Nat) = 4 by decide)
              · rw [if_neg c2] at h1'; exact absurd h1' (show ¬ (5 : Nat) = 4 by decide)
            · rw [if_neg c1] at h1'; exact absurd h1' (show ¬ (2 : Nat) = 4 by decide)
    rw [h1] at e
    exact OP_x (by decide) (fun _ => ⟨p, hp, hq, hno⟩) (KEEP_bg mm) (w29_x1 rcX0 e)
  · rw [if_neg (by rw [h1]; decide), h1] at e
    exact OP_x (by decide) (fun z => absurd z (by decide)) (KEEP_bg mm) (w29_x2 rcX0 e)
  · rw [if_neg (by rw [h1]; decide), h1] at e
    exact OP_x (by decide) (fun z => absurd z (by decide)) (KEEP_bg mm) (w29_x3 rcX0 e)
  · rw [if_neg (by rw [h1]; decide), h1] at e
    exact OP_x (by decide) (fun z => absurd z (by decide)) (KEEP_bg mm) (w29_x4 rcX0 e)
theorem op_30 (hg : GF G fl) (hJ : JT mm C dn Bt) (x : Int32) (d : Nat) : OPR A H mm n r C (fun _ B' => LV4 (mm 0) B') (fun v => v = -1 → ∃ p, mm 0 9 0 = nI p ∧ p ≤ 6 ∧ inR x 0 (nI p - 1) = false) (call G (d + 7) 30 [.ref (ad A 11 0), .int x] (S A H mm n r)) := by
  obtain ⟨s, k, p, g, u, cp, cb, hn, hk, hp, hq, hv, hu, hu8, hh, hid⟩ := JT_get hJ
  rcases O_hb cp x with ⟨hx, h3⟩ | ⟨q, hqp, rfl, ⟨f, hf, h3⟩ | ⟨hf, ⟨hb, h3⟩ | ⟨i, hb, h1, h3, h4, h5, h6⟩⟩⟩
  · exact OP_x (by decide) (fun _ => ⟨p, hp, hq, hx⟩) (KEEP_rfl mm) (w30_x1 rcX0 (s78n hx hp hq (d + 1)))
  · exact OP_x (by decide) (fun z => absurd z (by decide)) (KEEP_rfl mm) (w30_x2 rcX0 (s78f ((inR_nI (by omega)).mpr ⟨q, hqp, rfl⟩) hf hn hk hp hq hid (d + 1)))
  · exact OP_x (by decide) (fun z => absurd z (by decide)) (KEEP_rfl mm) (w30_x3 rcX0 (s78e hf hb hqp hn hk hp hq (d + 1)))
  · have e := s78 (G := G) (A := A) (n := n) (r := r) (H := H) (m := mm) (u := u) hf hb hqp hg hn hk hp hq hu hu8 hh (d + 1)
    rw [if_pos h1] at e
    refine OP_v hu hu8 (CF_0 cp i (best_lt hb).1) ⟨_, _, _, _, h6, ?_⟩ (by rw [h5]; exact LV_7 _ _ _) (w30_v rcX0 e)
    rw [h5]; exact CB_c cb (by rw [ud_nc (by omega)]) (fun j _ => by rw [ud_nc (by omega)])
theorem op_31 (hg : GF G fl) (hJ : JT mm C dn Bt) (x : Int32) (d : Nat) : OPR A H mm n r C (fun _ _ => True) (fun _ => True) (call G (d + 7) 31 [.ref (ad A 11 0), .int x] (S A H mm n r)) := by
  obtain ⟨s, k, p, g, u, cp, cb, hn, hk, hp, hq, hv, hu, hu8, hh, hid⟩ := JT_get hJ
  cases hx : inR x 0 (nI p - 1) with
  | false => exact OP_x (by decide) trivial (KEEP_rfl mm) (w31_x1 rcX0 (s79n hx hp hq (d + 1)))
  | true =>
    rcases O_di cp x with ⟨h1, h3, ⟨i, hf, h4, h5⟩, h6⟩ | ⟨h1, h3⟩ | ⟨h1, h3, hf⟩
    · rw [h5] at h6
      exact OP_v hu hu8 (CF_0 cp i (fst_some hf).1) ⟨_, _, _, _, h6, CB_c cb (by rw [ud_nc (by omega)]) (fun j _ => by rw [ud_nc (by omega)])⟩ trivial (w31_v rcX0 (s79 hx hf hg hn hk hp hq hid hu hu8 hh (d + 1)))
    · exfalso
      unfold tDi at h1
      rw [if_pos hx] at h1
      cases e : fh (mm 0) k x with
      | none => rw [e] at h1; exact absurd h1 (show ¬ (2 : Nat) = 4 by decide)
      | some i => rw [e] at h1; exact absurd h1 (show ¬ (0 : Nat) = 4 by decide)
    · exact OP_x (by decide) trivial (KEEP_rfl mm) (w31_x2 rcX0 (s79e hx hf hn hk hp hq (d + 1)))
theorem op_32 (hg : GF G fl) (hJ : JT mm C dn Bt) (x : Int32) (d : Nat) : OPR A H mm n r (C + 2970) (fun _ B' => LV4 (mm 0) B') (fun _ => inR x 1 30 = false) (call G (d + 7) 32 [.ref (ad A 11 0), .int x] (S A H mm n r)) := by
  obtain ⟨s, k, p, g, u, cp, cb, hn, hk, hp, hq, hv, hu, hu8, hh, hid⟩ := JT_get hJ
  cases hx : inR x 1 30 with
  | false => exact OP_x (by decide) rfl (KEEP_rfl mm) (w32_x1 rcX0 (s85n hx (d + 3)))
  | true =>
    obtain ⟨j, j1, j30, rfl⟩ := inR_1_30 hx
    obtain ⟨c1, c2⟩ := O_pd cp j
    have ok := (dyS_ok hv j).2
    have hkk : (dyS (mm 0) k j).2 ≤ k * j := dyS_le (mm 0) k j
    have hnn : ¬ nI (dyS (mm 0) k j).2 < 0 := nI_pos (by have := Nat.mul_le_mul hk j30; omega)
    refine OP_v hu hu8 hnn ⟨_, _, _, _, c1, CB_le (CB_dys cp cb j) (by omega)⟩ ⟨?_, ?_, ?_, ?_⟩ (w32_v rcX0 (s85 j1 j30 hg hn hk hp hq hv hu hu8 hh (d + 3)))
    · funext i; exact ok 1 i (by omega) (by omega) (by omega) (by omega)
    · funext i; exact ok 2 i (by omega) (by omega) (by omega) (by omega)
    · funext i; exact ok 8 i (by omega) (by omega) (by omega) (by omega)
    · funext i; exact ok 9 i (by omega) (by omega) (by omega) (by omega)
theorem op_80 (hg : GF G fl) (hJ : JT mm C dn Bt) (d : Nat) : OPR A H mm n r C (fun _ B' => LV4 (mm 0) B') (fun _ => False) (call G (d + 7) 80 [.ref (ad A 11 0)] (S A H mm n r)) := by
  obtain ⟨s, k, p, g, u, cp, cb, hn, hk, hp, hq, hv, hu, hu8, hh, hid⟩ := JT_get hJ
  obtain ⟨c1, c2⟩ := O_ma cp (mm 11)
  have e := s80 (G := G) (A := A) (n := n) (r := r) (H := H) (m := mm) (u := u) hg hn hk hp hq hu hu8 hh (d + 2)
  have ema : maM mm k p = gsB (mm 0) k p (vac (mm 0) p k) 60 (X0g (mm 11)) := rfl
  refine ⟨_, _, n, r, e, Nat.le_refl _, Nat.le_succ n, Nat.le_add_right r 6, Or.inr ⟨nI_pos (by have := cnt_le (fun q => !(maM mm k p 3 q == -1)) 6; omega), hhB (mm 0) (maM mm k p) 6, ⟨sb (sb (bgM mm) 11 (maM mm k p)) 0 (hhB (mm 0) (maM mm k p) 6), u, hu, hu8, rfl, fun b h0 h1 h11 => by rw [sb_ne h0, sb_ne h11, bg_ne h1], sb_eq .., ?_, fun c i hc => ?_⟩, ⟨_, _, _, _, c1, CB_c cb (by rw [hh_c (by omega)]) (fun j _ => by rw [hh_c (by omega)])⟩, hh_c (by omega) 6, hh_c (by omega) 6, hh_c (by omega) 6, hh_c (by omega) 6⟩⟩
  · rw [sb_ne (by omega), sb_ne (by omega)]; unfold bgM; rw [sb_eq]
  · rw [sb_ne (by omega), sb_eq, ema, gsB_n (by omega) (by omega), X0g_n (by omega) (by omega)]
end
