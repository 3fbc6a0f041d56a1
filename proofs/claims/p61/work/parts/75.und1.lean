/-! THE LAW'S FIFTH CHECK, part 2: the turns, taken back. -/
def t419 : List Int32 := [100, 97, 121, 59, 109, 97, 116, 99, 104, 59, 100, 105, 115, 109, 105, 115, 115, 32]
def t421 : List Int32 := [59, 97, 112, 112, 108, 121, 32, 99]
def UT (G : Glb) (A : Nat) (H : Hp) : Prop := KT G A H 404 [99, 115, 110, 120] ∧ KT G A H 409 [99, 115, 110, 42, 120] ∧ KT G A H 419 t419 ∧ KT G A H 421 t421 ∧ KT G A H 423 [47, 51]
theorem UT_kp {G : Glb} {A : Nat} {W : Nat → Prop} {H H' : Hp} (h : UT G A H) (hk : KP A W H H') : UT G A H' := ⟨KT_kp h.1 hk, KT_kp h.2.1 hk, KT_kp h.2.2.1 hk, KT_kp h.2.2.2.1 hk, KT_kp h.2.2.2.2 hk⟩
theorem KN_kp {G : Glb} {A : Nat} {W : Nat → Prop} {H H' : Hp} {kd : Nat → Nat} (h : KN G H A kd) (hk : KP A W H H') : KN G H' A kd := by
  obtain ⟨⟨ka, h1, h2, ty, fl, h3, h4⟩, h5⟩ := h
  refine ⟨⟨ka, h1, h2, ty, fl, h3, by rw [hk ka (Or.inl h2)]; exact h4⟩, fun i hi => ?_⟩
  obtain ⟨⟨f, a, b⟩, c⟩ := h5 i hi
  obtain ⟨b1, b2, b3, va, b4, b5, b6⟩ := b
  exact ⟨⟨f, a, b1, b2, b3, va, b4, b5, by rw [hk va (Or.inl b4)]; exact b6⟩, c⟩
theorem SW_kp {G : Glb} {A : Nat} {W : Nat → Prop} {H H' : Hp} (h : SW G H A) (hk : KP A W H H') : SW G H' A := by
  obtain ⟨sw, fl, h1, h2, h3⟩ := h
  exact ⟨sw, fl, h1, h2, by rw [hk sw (Or.inl h2)]; exact h3⟩
theorem KP_0 {A : Nat} {W : Nat → Prop} {H H' : Hp} (h : KP A W H H') : KP A W0 H H' := fun q hq => h q (by rcases hq with h | h; exact Or.inl h; exact absurd h (fun z => z))
/-- what stands from the start -/
def EV (G : Glb) (A : Nat) (fl kd : Nat → Nat) (H : Hp) : Prop := DG G H A ∧ LT G A H ∧ UT G A H ∧ KN G H A kd ∧ SW G H A
theorem EV_kp {G : Glb} {A : Nat} {W : Nat → Prop} {fl kd : Nat → Nat} {H H' : Hp} (h : EV G A fl kd H) (hk : KP A W H H') : EV G A fl kd H' := ⟨DG_kp h.1 hk, LT_kp h.2.1 hk, UT_kp h.2.2.1 hk, KN_kp h.2.2.2.1 hk, SW_kp h.2.2.2.2 hk⟩
section
variable {G : Glb} {A n r C dn w : Nat} {W : Nat → Prop} {H : Hp} {mm : Mm} {Bt : Nat → Bd} {fl kd : Nat → Nat}
theorem UND_up {H1 : Hp} {n1 r1 a0 i d e f e' f' : Nat} {F : Res} (h : UND G A H1 n1 r1 C dn w a0 i d e f F) (hk : KP A W0 H H1) (h1 : n ≤ n1) (h2 : n1 + e ≤ n + e') (h3 : r1 + f ≤ r + f') : UND G A H n r C dn w a0 i d e' f' F := by
  obtain ⟨dn', Bt', mm', H', n', r', o5, o6, o7, a1, a2, a3, a4, a5, a6, a7, a8, a9⟩ := h
  exact ⟨dn', Bt', mm', H', n', r', o5, o6, o7, a1, a2, a3, a4, a5, KP_trans hk a6, by omega, by omega, by omega⟩
/-- a text is made, fed and executed -/
theorem und_x (hgb : GB G) (hgs : GS G) (hg : GF G fl) (hgn : ∀ a, A ≤ a → G 2009 a = none) (hE : EV G A fl kd H) (hn : A + 169 ≤ n) (hwn : w < n) (hwA : A + 169 ≤ w) (hJ : JT mm C dn Bt) (hC : C < 1000000) (hB : Bt dn = mm 0) (hRB : RB Bt dn C) (hLA : LAr H w Bt (dn + 1)) (hd7 : dn ≤ 7) (a0 i d : Nat) (hi : i < 100) (o5 o7 : Option Value) {y : Nat} (hy : y < 2 ^ 31) : UND G A H n r C dn w a0 i d 760 2800 (run G (d + 12) 197 344 [some (.ref a0), some (.ref (ad A 11 0)), some (.ref w), some (.int (nI dn)), some (.int (nI i)), o5, some (.int (nI y)), o7] [] (S A H mm n r)) := by
  obtain ⟨hd, hlt, hut, hkn, hsw⟩ := hE
  have hfw : FR A w := Or.inl hwA
  obtain ⟨z, hz, ez⟩ := ush_nn (nI y) ((3 : Int32).toUInt32 &&& Int32.toUInt32 31) (by decide)
  have e6 : nI y - nI y / 6 * 6 = nI (y % 6) := nI_rm (b := 6) hy (by omega) (by omega)
  have e105 : nI z - nI z / 105 * 105 = nI (z % 105) := nI_rm (b := 105) hz (by omega) (by omega)
  have hz105 : z % 105 < 105 := Nat.mod_lt _ (by omega)
  have hy6 : y % 6 < 6 := Nat.mod_lt _ (by omega)
  have l6 := dg_lenj (v := y % 6) (j := 1) (by omega) (by omega)
  have l105 := dg_lenj (v := z % 105) (j := 3) (by omega) (by omega)
  obtain ⟨H1, e1, s1, k1⟩ := s319s (G := G) (A := A) (n := n) (r := r) (H := H) (m := mm) (W := fun q => q = w) hgb hn (fun q h => by omega) (d + 10)
  have kk1 : KP A (fun q => q = w) H H1 := fun q hq => k1 q (by rcases hq with h | h <;> omega)
  obtain ⟨c2, ec2, x2⟩ := KT_kp hut.2.2.1 kk1
  have ln1 : t419.length = 18 := rfl
  have ln2 : t421.length = 8 := rfl
  obtain ⟨H2, n2, r2, p2, e2, s2, k2, g2⟩ := s205 (G := G) (m := mm) (r := r + 20) hgb hgs s1 (TX_W x2 fun q h => absurd h (fun z => z)) (by omega) (by rw [List.length_nil]; omega) (d + 7)
  rw [List.nil_append] at s2
  have kk2 := KP_trans kk1 k2
  obtain ⟨H3, n3, r3, p3, e3, s3, k3, g3⟩ := s321 (G := G) (m := mm) (r := r2) hgb (DG_kp hd kk2) s2 (v := y % 6) (by omega) (by omega) (d + 7)
  have kk3 := KP_trans kk2 k3
  obtain ⟨c4, ec4, x4⟩ := KT_kp hut.2.2.2.1 kk3
  obtain ⟨H4, n4, r4, p4, e4, s4, k4, g4⟩ := s205 (G := G) (m := mm) (r := r3) hgb hgs s3 (TX_W x4 fun q h => absurd h (fun z => z)) (by omega) (by rw [List.length_append]; omega) (d + 7)
  have kk4 := KP_trans kk3 k4
  obtain ⟨H5, n5, r5, p5, e5, s5', k5, g5⟩ := s321 (G := G) (m := mm) (r := r4) hgb (DG_kp hd kk4) s4 (v := z % 105) (by omega) (by rw [List.length_append, List.length_append]; omega) (d + 7)
  have kk5 := KP_trans kk4 k5
  obtain ⟨c6, ec6, x6⟩ := KT_kp hut.2.2.2.2 kk5
  obtain ⟨H6, n6, r6, p6, e6', s6, k6, g6⟩ := s205 (G := G) (m := mm) (r := r5) hgb hgs s5' (TX_W x6 fun q h => absurd h (fun z => z)) (by simp) (by simp only [List.length_append, List.length_cons, List.length_nil]; omega) (d + 7)
  have kk6 := KP_trans kk5 k6
  obtain ⟨T, hT⟩ : ∃ T, T = t419 ++ dg (y % 6) ++ t421 ++ dg (z % 105) ++ [47, 51] := ⟨_, rfl⟩
  rw [← hT] at s6
  have hTl : T.length ≤ 32 := by rw [hT]; simp only [List.length_append, List.length_cons, List.length_nil]; omega
  have hA : ASC T := by
    rw [hT]
    exact ASC_app (ASC_app (ASC_app (ASC_app x2.1.1 (ASC_dg (by omega))) x4.1.1) (ASC_dg (by omega))) x6.1.1
  obtain ⟨H7, e7, x7, k7⟩ := s206 (G := G) (m := mm) (r := r6) hgb hgn s6 hA (by omega) (d + 6)
  obtain ⟨b1, b2, b3⟩ := GR_b (GR_trans g2 (GR_trans g3 (GR_trans g4 (GR_trans g5 g6)))) (Nat.le_refl _) (SB_n s6).2.2
  have kk7 : KP A (fun q => q = w) H H7 := fun q hq => by
    have hl : q < n := by rcases hq with h | h <;> omega
    rw [k7 q (by omega)]; exact kk6 q hq
  have hLA7 := LA_kp hLA kk7
  obtain ⟨W3, hW3⟩ : ∃ W3 : Nat → Prop, W3 = fun q => q = w ∨ (q = n6 ∨ q = n6 + 1) := ⟨_, rfl⟩
  have hx7 : TX G A W3 H7 n6 T := TX_W x7 fun q h => by rw [hW3]; exact Or.inr h
  have hS := s39 (G := G) (A := A) (n := n6 + 2) (r := r6 + 4 + T.length) (H := H7) (mm := mm) hgs hg (KN_kp hkn kk7) (SW_kp hsw kk7) hx7 (by omega) hJ hC hd7 hB (d + 1)
  have hS' : STEP A (fun q => q = w) H7 mm (n6 + 2) (r6 + 4 + T.length) C dn Bt (call G (d + 1 + 10) 39 [.ref (ad A 11 0), .ref n6] (S A H7 mm (n6 + 2) (r6 + 4 + T.length))) := by
    obtain ⟨v, mm', H', n', r', e, hK, q1, q2, q3, h⟩ := hS
    refine ⟨v, mm', H', n', r', e, fun q hq => hK q ?_, q1, q2, q3, h⟩
    rcases hq with h | h
    · exact Or.inl h
    · exact Or.inr (by rw [hW3]; exact Or.inl h)
  have hU := und_t (G := G) hfw hJ hB hRB hLA7 hd7 hS' a0 i d hi o5 (nI y)
  refine UND_up (H := H) (n := n) (r := r) (e' := 760) (f' := 2800) ?_ (KP_0 kk7) (n1 := n6 + 2) (r1 := r6 + 4 + T.length) (by omega) (by omega) (by omega) (H1 := H7) (e := 410) (f := 1560)
  have eb : run G (d + 12) 197 344 [some (.ref a0), some (.ref (ad A 11 0)), some (.ref w), some (.int (nI dn)), some (.int (nI i)), o5, some (.int (nI y)), o7] [] (S A H mm n r) = cI (call G (d + 1 + 10) 39 [.ref (ad A 11 0), .ref n6] (S A H7 mm (n6 + 2) (r6 + 4 + T.length))) fun v1 s1 => run G (d + 12) 197 396 [some (.ref a0), some (.ref (ad A 11 0)), some (.ref w), some (.int (nI dn)), some (.int (nI i)), o5, some (.int (nI y)), some (.int v1)] [] s1 := by
    rw [b197_344]
    show cV (call G (d + 11) 319 [.ref n] (wall (S A H mm n r) (.inr (7, [.null, .int 0, .int 0, .int 0])) 4)) _ = _
    rw [cV_of e1, ec2]
    simp only [gR_sm]
    show (if rcv (S A H1 mm (n + 2) (r + 20)) n 7 = true then cR (call G (d + 11) 205 [.ref n, .ref c2] (S A H1 mm (n + 2) (r + 20))) _ else none) = _
    rw [if_pos (SB_rc s1), cR_of e2, if_pos (SB_rc s2), e6, cR_of e3, ec4]
    simp only [gR_sm]
    rw [if_pos (SB_rc s3), cR_of e4, if_pos (SB_rc s4), ez, e105, cR_of e5, ec6]
    simp only [gR_sm]
    rw [if_pos (SB_rc s5'), cR_of e6', if_pos (SB_rc s6), cR_of e7]
  rw [eb]
  exact hU
/-- a turn -/
theorem und_1 (hgb : GB G) (hgs : GS G) (hg : GF G fl) (hgn : ∀ a, A ≤ a → G 2009 a = none) (hE : EV G A fl kd H) {a0 N : Nat} {f : Nat → Int32} (hSC : SC A H a0 N f) (hn : A + 169 ≤ n) (hwn : w < n) (hwA : A + 169 ≤ w) (hJ : JT mm C dn Bt) (hC : C < 1000000) (hRB : RB Bt dn C) (hLA : LAr H w Bt dn) {i : Nat} (hi : i < 7) (hdi : dn ≤ i) (d : Nat) (o5 o6 o7 : Option Value) : UND G A H n r C dn w a0 i d 800 3000 (run G (d + 12) 197 10 [some (.ref a0), some (.ref (ad A 11 0)), some (.ref w), some (.int (nI dn)), some (.int (nI i)), o5, o6, o7] [] (S A H mm n r)) := by
  have hfw : FR A w := Or.inl hwA
  obtain ⟨c, hc⟩ : ∃ c, c = if N ≤ 29 + i then 40503 * nI (29 + i) else f (29 + i) := ⟨_, rfl⟩
  have ec := SC_c (G := G) (n := n) (r := r) (m := mm) hSC (29 + i) (d + 11) (by omega)
  rw [← hc] at ec
  obtain ⟨n1, r1, a1, a2, a3, e2⟩ := JT_sum (G := G) (A := A) (H := H) hJ (d + 5) n r
  obtain ⟨H1, e3, hLA1, hq⟩ := LA_w (A := A) (n := n1) (r := r1) (mm := mm) hfw hLA (by omega) (mm 0)
  have k1 : KP A W0 H H1 := fun q hq' => hq q (by rcases hq' with h | h; omega; exact absurd h (fun z => z))
  obtain ⟨B1, hB1⟩ : ∃ B1, B1 = exB Bt dn (mm 0) := ⟨_, rfl⟩
  rw [← hB1] at hLA1
  have hJ1 : JT mm C dn B1 := by rw [hB1]; exact JT_ex hJ (mm 0)
  have hBd : B1 dn = mm 0 := by rw [hB1]; exact if_pos rfl
  have hRB1 : RB B1 dn C := fun t ht => by
    have : B1 t = Bt t := by rw [hB1]; exact if_neg (by omega)
    rw [this]; exact hRB t ht
  have hE1 := EV_kp hE k1
  obtain ⟨x5, hx5⟩ : ∃ x5, x5 = ((c : Int32).toUInt32 >>> ((1 : Int32).toUInt32 &&& Int32.toUInt32 31)).toInt32 := ⟨_, rfl⟩
  obtain ⟨y, hy, ey⟩ := ush_nn x5 ((4 : Int32).toUInt32 &&& Int32.toUInt32 31) (by decide)
  rw [b197_10, if_neg (by rw [show (7 : Int32) = nI 7 from rfl, nI_leI (by omega) (by omega)]; omega), show (29 : Int32) + nI i = nI (29 + i) from nI_add 29 i, cI_of ec, cJ_of e2, e3, Option.bind_some, ← hx5, ey, b197_48]
  have fin : ∀ (F : Res) (x7 : Option Value), STEP A (fun q => q = w) H1 mm n1 r1 C dn B1 F → UND G A H n r C dn w a0 i d 800 3000 (cI F fun v1 s1 => run G (d + 12) 197 396 [some (.ref a0), some (.ref (ad A 11 0)), some (.ref w), some (.int (nI dn)), some (.int (nI i)), some (.int x5), some (.int (nI y)), some (.int v1)] [] s1) := fun F _ hS => UND_up (und_t (G := G) hfw hJ1 hBd hRB1 hLA1 (by omega) hS a0 i d (by omega) (some (.int x5)) (nI y)) k1 a1 (by omega) (by omega)
  have hd7 : dn ≤ 7 := by omega
  refine sw13 (P := UND G A H n r C dn w a0 i d 800 3000) fun t ht => ?_
  rcases ht with e | e | e | e | e | e | e | e | e | e | e | e | e <;> subst e
  · exact UND_up (und_x hgb hgs hg hgn hE1 (by omega) (by omega) hwA hJ1 hC hBd hRB1 hLA1 hd7 a0 i d (by omega) (some (.int x5)) o7 hy) k1 a1 (by omega) (by omega)
  · obtain ⟨v1, ev, xv⟩ := hE1.2.2.1.1
    obtain ⟨va, hr, -⟩ := TX_r xv mm n1 r1
    show UND G A H n r C dn w a0 i d 800 3000 (run G (d + 12) 197 112 _ [] (S A H1 mm n1 r1))
    rw [b197_112, ev]
    simp only [gR_sm]
    rw [if_pos hr.1, show nI y - nI y / 4 * 4 = nI (y % 4) from nI_rm (b := 4) hy (by omega) (by omega), cI_of (s315t hgs hr xv.1.1 xv.1.2 (i := y % 4) (Nat.mod_lt _ (by omega)) (d + 8))]
    exact fin _ none (STEP_op hJ1 hd7 hBd (by omega) (op_2 hg hJ1 hC _ _ _ (d + 4)))
  · show UND G A H n r C dn w a0 i d 800 3000 (run G (d + 12) 197 146 _ [] (S A H1 mm n1 r1))
    rw [b197_146]
    exact fin _ none (STEP_op hJ1 hd7 hBd (by omega) (op_3 hg hJ1 hC _ (d + 4)))
  · show UND G A H n r C dn w a0 i d 800 3000 (run G (d + 12) 197 160 _ [] (S A H1 mm n1 r1))
    rw [b197_160]
    exact fin _ none (STEP_op hJ1 hd7 hBd (by omega) (op_4 hg hJ1 _ (d + 4)))
  · obtain ⟨v1, ev, xv⟩ := hE1.2.2.1.2.1
    obtain ⟨va, hr, -⟩ := TX_r xv mm n1 r1
    show UND G A H n r C dn w a0 i d 800 3000 (run G (d + 12) 197 174 _ [] (S A H1 mm n1 r1))
    rw [b197_174, ev]
    simp only [gR_sm]
    rw [if_pos hr.1, show nI y - nI y / 5 * 5 = nI (y % 5) from nI_rm (b := 5) hy (by omega) (by omega), cI_of (s315t hgs hr xv.1.1 xv.1.2 (i := y % 5) (Nat.mod_lt _ (by omega)) (d + 8))]
    exact fin _ none (STEP_op hJ1 hd7 hBd (by omega) (op_18 hg hJ1 _ _ _ _ (d + 4)))
  · show UND G A H n r C dn w a0 i d 800 3000 (run G (d + 12) 197 216 _ [] (S A H1 mm n1 r1))
    rw [b197_216]
    exact fin _ none (STEP_op hJ1 hd7 hBd (by omega) (op_19 hg hJ1 _ (d + 4)))
  · show UND G A H n r C dn w a0 i d 800 3000 (run G (d + 12) 197 230 _ [] (S A H1 mm n1 r1))
    rw [b197_230]
    exact fin _ none (STEP_op hJ1 hd7 hBd (by omega) (op_29 hg hJ1 _ _ (d + 4)))
  · show UND G A H n r C dn w a0 i d 800 3000 (run G (d + 12) 197 251 _ [] (S A H1 mm n1 r1))
    rw [b197_251]
    exact fin _ none (STEP_op hJ1 hd7 hBd (by omega) (op_30 hg hJ1 _ (d + 4)))
  · show UND G A H n r C dn w a0 i d 800 3000 (run G (d + 12) 197 265 _ [] (S A H1 mm n1 r1))
    rw [b197_265]
    exact fin _ none (STEP_op hJ1 hd7 hBd (by omega) (op_31 hg hJ1 _ (d + 4)))
  · show UND G A H n r C dn w a0 i d 800 3000 (run G (d + 12) 197 279 _ [] (S A H1 mm n1 r1))
    rw [b197_279]
    exact fin _ none (STEP_op hJ1 hd7 hBd (by omega) (op_13 hg hJ1 _ _ (d + 4)))
  · show UND G A H n r C dn w a0 i d 800 3000 (run G (d + 12) 197 300 _ [] (S A H1 mm n1 r1))
    rw [b197_300]
    exact fin _ none (STEP_op hJ1 hd7 hBd (by omega) (op_14 hg hJ1 _ _ (d + 4)))
  · show UND G A H n r C dn w a0 i d 800 3000 (run G (d + 12) 197 321 _ [] (S A H1 mm n1 r1))
    rw [b197_321, if_pos rcX0]
    exact fin _ none (STEP_op hJ1 hd7 hBd (by omega) (op_80 hg hJ1 (d + 4)))
  · show UND G A H n r C dn w a0 i d 800 3000 (run G (d + 12) 197 330 _ [] (S A H1 mm n1 r1))
    rw [b197_330]
    exact fin _ none (STEP_op hJ1 hd7 hBd (by omega) (op_32 hg hJ1 _ (d + 4)))
/-- the turns -/
theorem und_lp (hgb : GB G) (hgs : GS G) (hg : GF G fl) (hgn : ∀ a, A ≤ a → G 2009 a = none) {a0 N : Nat} {f : Nat → Int32} (hwA : A + 169 ≤ w) (d : Nat) : ∀ t i, i + t = 7 → ∀ H mm n r C dn Bt o5 o6 o7, EV G A fl kd H → SC A H a0 N f → A + 169 ≤ n → w < n → JT mm C dn Bt → C + 5940 * t < 1000000 → RB Bt dn C → LAr H w Bt dn → dn ≤ i → ∃ dn' Bt' mm' H' n' r' C' q5 q6 q7, run G (d + 12) 197 10 [some (.ref a0), some (.ref (ad A 11 0)), some (.ref w), some (.int (nI dn)), some (.int (nI i)), o5, o6, o7] [] (S A H mm n r) = run G (d + 12) 197 10 [some (.ref a0), some (.ref (ad A 11 0)), some (.ref w), some (.int (nI dn')), some (.int 7), q5, q6, q7] [] (S A H' mm' n' r') ∧ dn' ≤ 7 ∧ C' < 1000000 ∧ JT mm' C' dn' Bt' ∧ RB Bt' dn' C' ∧ LAr H' w Bt' dn' ∧ KP A W0 H H' ∧ n ≤ n' ∧ n' ≤ n + 800 * t ∧ r' ≤ r + 3000 * t := by
  intro t
  induction t with
  | zero =>
    intro i hi H mm n r C dn Bt o5 o6 o7 _ _ _ _ hJ hC hRB hLA hdi
    have : i = 7 := by omega
    subst this
    exact ⟨dn, Bt, mm, H, n, r, C, o5, o6, o7, rfl, hdi, by omega, hJ, hRB, hLA, KP_refl _ _ _, Nat.le_refl _, Nat.le_refl _, Nat.le_refl _⟩
  | succ t ih =>
    intro i hi H mm n r C dn Bt o5 o6 o7 hE hSC hn hwn hJ hC hRB hLA hdi
    obtain ⟨dn1, B1, mm1, H1, n1, r1, p5, p6, p7, a1, a2, a3, a4, a5, a6, a7, a8, a9⟩ := und_1 (G := G) (A := A) (r := r) hgb hgs hg hgn hE hSC hn hwn hwA hJ (by omega) hRB hLA (i := i) (by omega) hdi d o5 o6 o7
    obtain ⟨dn2, B2, mm2, H2, n2, r2, C2, q5, q6, q7, b1, b2, b3, b4, b5, b6, b7, b8, b9, b10⟩ := ih (i + 1) (by omega) H1 mm1 n1 r1 (C + 5940) dn1 B1 p5 p6 p7 (EV_kp hE a6) (SC_kp hSC a6) (by omega) (by omega) a3 (by omega) a4 a5 (by omega)
    exact ⟨dn2, B2, mm2, H2, n2, r2, C2, q5, q6, q7, a1.trans b1, b2, b3, b4, b5, b6, KP_trans a6 b7, by omega, by omega, by omega⟩
/-- all is taken back -/
theorem und_b (hwA : A + 169 ≤ w) (d : Nat) (o0 o3 o6 o7 : Option Value) : ∀ dn, dn ≤ 7 → ∀ mm n r C Bt u, JT mm C dn Bt → mm 11 0 4 = nI u → u ≤ 8 → RB Bt dn C → LAr H w Bt dn → ∃ mm' n' r' Bt', run G (d + 12) 197 444 [o0, some (.ref (ad A 11 0)), some (.ref w), o3, some (.int (nI u)), some (.int (nI dn - 1)), o6, o7] [] (S A H mm n r) = vI 1 (S A H mm' n' r') ∧ JT mm' C 0 Bt' ∧ n ≤ n' ∧ n' ≤ n + 10 * dn ∧ r' ≤ r + 60 * dn := by
  intro dn
  induction dn with
  | zero =>
    intro _ mm n r C Bt u hJ hu hu8 _ _
    refine ⟨mm, n, r, Bt, ?_, hJ, Nat.le_refl _, Nat.le_refl _, Nat.le_refl _⟩
    rw [b197_444, if_pos (by decide)]; rfl
  | succ dn ih =>
    intro hd mm n r C Bt u hJ hu hu8 hRB hLA
    have hfw : FR A w := Or.inl hwA
    obtain ⟨⟨s0, hs0⟩, ⟨u', b1, b2, b3, b4, b5, b6⟩, hz⟩ := hJ
    have huu : u' = u := (nI_eq (by omega) (by omega)).mp (b3.symm.trans hu)
    subst huu
    obtain ⟨v, rfl⟩ : ∃ v, u' = v + 1 := ⟨u' - 1, by omega⟩
    have hv8 : v < 8 := by omega
    obtain ⟨j1, j2, j3⟩ := hix_e b4 hv8
    have e9 := s99 (G := G) (A := A) (n := n) (r := r) (H := H) (m := mm) hv8 hu j1 j2 j3 (d + 8)
    obtain ⟨mm', hmm⟩ : ∃ mm', mm' = sb (sb mm 11 (ud (mm 11) 0 4 (nI v))) 0 (cpB (mm 0) (mm (hix (mm 11) v))) := ⟨_, rfl⟩
    rw [← hmm] at e9
    have hEB : EB (mm' 0) (Bt dn) := by
      rw [hmm, sb_eq]
      have h1 := b6 dn (Nat.lt_succ_self dn)
      have : v + 1 - (dn + 1) + dn = v := by omega
      rw [this] at h1
      exact EB_tr (EB_cp _ _) h1
    have m11 : mm' 11 = ud (mm 11) 0 4 (nI v) := by rw [hmm, sb_ne (by omega), sb_eq]
    have mb : ∀ b, b ≠ 0 → b ≠ 11 → mm' b = mm b := fun b h0 h11 => by rw [hmm, sb_ne h0, sb_ne h11]
    obtain ⟨s1, hs1⟩ := hRB dn (Nat.lt_succ_self dn)
    have x1 : ∀ i, mm' 11 1 i = mm 11 1 i := fun i => by rw [m11, ud_nc (by omega)]
    have hJ' : JT mm' C dn Bt := by
      refine ⟨⟨s1, RE_ext hs1 (EB_symm hEB) (fun _ _ => rfl) (Nat.le_refl _)⟩, ⟨v, by omega, by omega, by rw [m11, ud_eq], HW_c b4 x1, HD_c b5 x1, fun t ht => ?_⟩, by rw [m11]; exact WZ_d hz fun i => by rw [ud_nc (by omega)]⟩
      have h1 := b6 t (by omega)
      have e : v + 1 - (dn + 1) + t = v - dn + t := by omega
      rw [e] at h1
      obtain ⟨c1, c2, _⟩ := hix_e b4 (show v - dn + t < 8 by omega)
      have e' : hix (mm' 11) (v - dn + t) = hix (mm 11) (v - dn + t) := by unfold hix; rw [x1]
      rw [e', mb _ (by omega) (by omega)]
      exact h1
    obtain ⟨n1, r1, a1, a2, a3, e2⟩ := JT_sum (G := G) (A := A) (H := H) hJ' (d + 5) n r
    obtain ⟨mm2, n2, r2, B2, g1, g2, g3, g4, g5⟩ := ih (by omega) mm' n1 r1 C Bt v hJ' (by rw [m11, ud_eq]) (by omega) (fun t ht => hRB t (by omega)) (LA_le hLA (by omega))
    have esum : sumB (mm' 0) = sumB (Bt dn) := by
      obtain ⟨s, k, p, g, uu, cp, cb, hn, hk, hp, hq, _⟩ := JT_get hJ'
      exact sumB_EB hEB hn hk hp hq
    have ed : nI (dn + 1) - 1 = nI dn := nI_pred dn
    have ev : nI (v + 1) + (-1) = nI v := by rw [show (-1 : Int32) = -(1 : Int32) from rfl, ← Int32.sub_eq_add_neg]; exact nI_pred v
    have edm : nI dn + (-1) = nI dn - 1 := by rw [show (-1 : Int32) = -(1 : Int32) from rfl, ← Int32.sub_eq_add_neg]
    refine ⟨mm2, n2, r2, B2, ?_, g2, by omega, by omega, by omega⟩
    rw [ed, b197_444, if_neg (nI_pos (by omega)), cI_of (show call G (d + 11) 38 [.ref (ad A 11 0)] (S A H mm n r) = vI (nI v) (S A H mm' n r) from w38_v rcX0 e9), ev, if_pos rfl, cJ_of e2, LA_r hfw hLA (Nat.lt_succ_self dn) (by omega), esum]
    show (if lg_cmp (sumB (Bt dn)) (sumB (Bt dn)) = 0 then _ else _) = _
    rw [if_pos (lg_self _), edm]
    exact g1
theorem s197 (hgb : GB G) (hgs : GS G) (hg : GF G fl) (hgn : ∀ a, A ≤ a → G 2009 a = none) (hE : EV G A fl kd H) {a0 N : Nat} {f : Nat → Int32} (hSC : SC A H a0 N f) (hn : A + 169 ≤ n) (hJ : JT mm C dn Bt) (hC : C < 900000) (d : Nat) : ∃ H' mm' n' r' C' Bt', call G (d + 12) 197 [.ref a0, .ref (ad A 11 0)] (S A H mm n r) = vI 1 (S A H' mm' n' r') ∧ JT mm' C' 0 Bt' ∧ C' < 1000000 ∧ KP A W0 H H' ∧ n ≤ n' ∧ n' ≤ n + 6000 ∧ r' ≤ r + 25000 := by
  have hJ0 : JT mm C 0 Bt := ⟨hJ.1, HI_0 hJ.2.1, hJ.2.2⟩
  have k1 : KP A W0 H (hset H n (.inl (.long, true, List.replicate 9 (.long 0)))) := fun q hq => hset_ne (by rcases hq with h | h; omega; exact absurd h (fun z => z))
  obtain ⟨dn1, B1, mm1, H1, n1, r1, C1, o5, o6, o7, a1, a2, a3, a4, a5, a6, a7, a8, a9, a10⟩ := und_lp (G := G) (A := A) (w := n) hgb hgs hg hgn hn d 7 0 (by omega) (hset H n (.inl (.long, true, List.replicate 9 (.long 0)))) mm (n + 1) (r + 9) C 0 Bt none none none (EV_kp hE k1) (SC_kp hSC k1) (by omega) (by omega) hJ0 (by omega) (fun t ht => absurd ht (Nat.not_lt_zero t)) ⟨_, hset_at .., List.length_replicate .., fun t ht => absurd ht (Nat.not_lt_zero t)⟩ (Nat.le_refl 0)
  obtain ⟨s, k, p, g, u, cp, cb, hn', hk, hp, hq, hv, hu, hu8, hh, hid⟩ := JT_get a4
  obtain ⟨mm2, n2, r2, B2, b1, b2, b3, b4, b5⟩ := und_b (G := G) (A := A) (H := H1) hn d (some (.ref a0)) (some (.int (nI dn1))) o6 o7 dn1 a2 mm1 n1 r1 C1 B1 u a4 hu hu8 a5 a6
  refine ⟨H1, mm2, n2, r2, C1, B2, ?_, b2, a3, KP_trans k1 a7, by omega, by omega, by omega⟩
  have e00 : nI 0 = 0 := rfl
  rw [e00] at a1
  rw [b197_e, wall_S hn]
  show run G (d + 12) 197 10 [some (.ref a0), some (.ref (ad A 11 0)), some (.ref n), some (.int 0), some (.int 0), none, none, none] [] (S A _ mm (n + 1) (r + 9)) = _
  rw [a1, b197_10, if_pos (Int32.le_refl _), if_pos rcX0, cI_of (s100 (d + 11)), hu]
  exact b1
end
