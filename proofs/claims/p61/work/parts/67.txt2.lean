/-! THE LAW'S FOURTH CHECK, part 2: the applicants' texts. -/
def KT (G : Glb) (A : Nat) (H : Hp) (i : Nat) (u : List Int32) : Prop := ∃ a, G 100 i = some (.ref a) ∧ TX G A W0 H a u
def LT (G : Glb) (A : Nat) (H : Hp) : Prop := KT G A H 349 [] ∧ KT G A H 357 [47] ∧ KT G A H 359 [43] ∧ KT G A H 365 [36] ∧ KT G A H 367 [64] ∧ KT G A H 376 [32] ∧ KT G A H 378 [45]
theorem KT_kp {G : Glb} {A i : Nat} {W : Nat → Prop} {H H' : Hp} {u : List Int32} (h : KT G A H i u) (hk : KP A W H H') : KT G A H' i u := by
  obtain ⟨a, h1, h2⟩ := h
  refine ⟨a, h1, TX_kp h2 fun q hq => hk q ?_⟩
  rcases hq with h | h
  · exact Or.inl h
  · exact absurd h (fun z => z)
theorem LT_kp {G : Glb} {A : Nat} {W : Nat → Prop} {H H' : Hp} (h : LT G A H) (hk : KP A W H H') : LT G A H' :=
  ⟨KT_kp h.1 hk, KT_kp h.2.1 hk, KT_kp h.2.2.1 hk, KT_kp h.2.2.2.1 hk, KT_kp h.2.2.2.2.1 hk, KT_kp h.2.2.2.2.2.1 hk, KT_kp h.2.2.2.2.2.2 hk⟩
theorem GR_b {n r c n' r' c' : Nat} (g : GR n r c n' r' c') (h : 16 ≤ c) (h' : c' ≤ 120) : n ≤ n' ∧ n' ≤ n + 104 ∧ r' ≤ r + 208 := by
  obtain ⟨a1, a2, a3, a4, a5⟩ := g
  omega
/-- what is put behind next: a constant or a made text -/
def NX (G : Glb) (A : Nat) (W : Nat → Prop) (H : Hp) (b cap : Nat) (t : List Int32) (n a : Nat) (u : List Int32) : Prop := (SB A W b H cap t n ∧ TX G A W0 H a u) ∨ (SB A (fun q => W q ∨ q = a ∨ q = a + 1) b H cap t n ∧ TX G A (fun q => q = a ∨ q = a + 1) H a u)
section
variable {G : Glb} {A n r k p cap : Nat} {W : Nat → Prop} {H : Hp} {m : Mm} {t : List Int32}
theorem NX_rc {b a : Nat} {u : List Int32} (h : NX G A W H b cap t n a u) : rcv (S A H m n r) b 7 = true := by
  rcases h with h | h
  · exact SB_rc h.1
  · exact SB_rc h.1
theorem ap_x {b a : Nat} {u : List Int32} (hgb : GB G) (hgs : GS G) (h : NX G A W H b cap t n a u) (hl : t.length + u.length ≤ 60) (d : Nat) : ∃ H' n' r' cap', call G (d + 5) 205 [.ref b, .ref a] (S A H m n r) = vR b (S A H' m n' r') ∧ SB A W b H' cap' (t ++ u) n' ∧ KP A W H H' ∧ n ≤ n' ∧ n' ≤ n + 104 ∧ r' ≤ r + 208 := by
  rcases h with ⟨hs, hx⟩ | ⟨hs, hx⟩
  · obtain ⟨H', n', r', c', e, s, kk, g⟩ := s205 (G := G) (m := m) (r := r) hgb hgs hs (TX_W hx fun q h => absurd h (fun z => z)) (by omega) hl (d + 1)
    obtain ⟨a1, a2, a3⟩ := GR_b g (SB_n hs).2.1 (SB_n s).2.2
    exact ⟨H', n', r', c', e, s, kk, a1, a2, a3⟩
  · obtain ⟨H', n', r', c', e, s, kk, g⟩ := s205 (G := G) (m := m) (r := r) hgb hgs hs (TX_W hx fun q h => Or.inr h) (by omega) hl (d + 1)
    obtain ⟨a1, a2, a3⟩ := GR_b g (SB_n hs).2.1 (SB_n s).2.2
    refine ⟨H', n', r', c', e, SB_W s (fun q h => Or.inl h), fun q hq => kk q ?_, a1, a2, a3⟩
    rcases hq with h | h
    · exact Or.inl h
    · exact Or.inr (Or.inl h)
/-- the letter, the whiteness and the rain of a text -/
theorem txt_e (hgb : GB G) (hgs : GS G) (hd : DG G H A) (hlt : LT G A H) (hgn : ∀ a, A ≤ a → G 2009 a = none) (hW : ∀ q, W q → q < n) (hnA : A + 169 ≤ n) (hf : ∀ i, i < k → fx (m 0) k (m 0 2 i) = some i) (hn : m 0 1 0 = nI k) (hk : k ≤ 10) (hp : m 0 9 0 = nI p) (hq : p ≤ 6) (hv : PV (m 0) k p) {i : Nat} (hi : i < k) {sh w rr g : Nat} (h3 : chr (m 0 3 i) = nI sh) (hsh : sh < 128) (h4 : m 0 4 i = nI w) (h5 : m 0 5 i = nI rr) (h8 : bcI (m 0 8 i) = nI g) (w9 : w ≤ 100) (r9 : rr ≤ 50) (g9 : g ≤ 10) (d : Nat) (o2 o3 o4 o5 : Option Value) : ∃ b H' n' r' cap' a', run G (d + 8) 195 2 [some (.ref (ad A 11 0)), some (.int (nI i)), o2, o3, o4, o5] [] (S A H m n r) = run G (d + 8) 195 102 [some (.ref (ad A 11 0)), some (.int (nI i)), some (.int (m 0 2 i)), some (.int (nI g)), some (.int (ownI (m 0) i)), o5] [.ref a', .ref b] (S A H' m n' r') ∧ NX G A W H' b cap' ([nI sh] ++ (dg w ++ ([47] ++ dg rr))) n' a' (opt g 43) ∧ KP A W H H' ∧ n ≤ n' ∧ n' ≤ n + 300 ∧ r' ≤ r + 600 := by
  obtain ⟨n0, r0, a1, a2, a3, e10⟩ := s10_own (G := G) (A := A) (H := H) hf hn hk hi (d + 3) n r
  obtain ⟨H1, e1, s1, k1⟩ := s319s (G := G) (A := A) (n := n0) (r := r0) (H := H) (m := m) (W := W) hgb (by omega) (fun q h => by have := hW q h; omega) (d + 6)
  have kk1 : KP A W H H1 := fun q hq => k1 q (by rcases hq with h | h; omega; have := hW q h; omega)
  have ld := fun (v : Nat) (h : v < 10 ^ 3) => dg_lenj (v := v) (j := 3) h (by omega)
  obtain ⟨H2, n2, r2, c2, e2, s2, k2, g2⟩ := s320 (G := G) (m := m) (r := r0 + 20) hgb s1 (by rw [List.length_nil]; omega) hsh (d + 3)
  rw [List.nil_append] at s2
  have kk2 := KP_trans kk1 k2
  obtain ⟨a0, ea0, x0⟩ := KT_kp hlt.1 kk2
  obtain ⟨H3, n3, r3, c3, e3, s3, k3, g3⟩ := s205 (G := G) (m := m) (r := r2) hgb hgs s2 (TX_W x0 fun q h => absurd h (fun z => z)) (by rw [List.length_nil]; omega) (by rw [List.length_nil, List.length_singleton]; omega) (d + 3)
  rw [List.append_nil] at s3
  have kk3 := KP_trans kk2 k3
  have l1 := ld w (by omega)
  have l2 := ld rr (by omega)
  obtain ⟨H4, n4, r4, c4, e4, s4, k4, g4⟩ := s321 (G := G) (m := m) (r := r3) hgb (DG_kp hd kk3) s3 (v := w) (by omega) (by rw [List.length_singleton]; omega) (d + 3)
  have kk4 := KP_trans kk3 k4
  obtain ⟨a5, ea5, x5⟩ := KT_kp hlt.2.1 kk4
  obtain ⟨H5, n5, r5, c5, e5, s5', k5, g5⟩ := s205 (G := G) (m := m) (r := r4) hgb hgs s4 (TX_W x5 fun q h => absurd h (fun z => z)) (by rw [List.length_singleton]; omega) (by simp only [List.length_append, List.length_singleton]; omega) (d + 3)
  have kk5 := KP_trans kk4 k5
  obtain ⟨H6, n6, r6, c6, e6, s6, k6, g6⟩ := s321 (G := G) (m := m) (r := r5) hgb (DG_kp hd kk5) s5' (v := rr) (by omega) (by simp only [List.length_append, List.length_singleton]; omega) (d + 3)
  have kk6 := KP_trans kk5 k6
  have hT : [nI sh] ++ dg w ++ [47] ++ dg rr = [nI sh] ++ (dg w ++ ([47] ++ dg rr)) := by simp only [List.append_assoc]
  rw [hT] at s6
  obtain ⟨b1, b2, b3⟩ := GR_b (GR_trans g2 (GR_trans g3 (GR_trans g4 (GR_trans g5 g6)))) (Nat.le_refl _) (SB_n s6).2.2
  have hle : ¬ k ≤ i := by omega
  have rc1 := SB_rc (m := m) (r := r0 + 20) s1
  have rc2 := SB_rc (m := m) (r := r2) s2
  have rc3 := SB_rc (m := m) (r := r3) s3
  have rc4 := SB_rc (m := m) (r := r4) s4
  have rc5 := SB_rc (m := m) (r := r5) s5'
  have f51 := s51i (G := G) (A := A) (n := n0 + 2) (r := r0 + 20) (H := H1) hi hf hn hk (d + 5)
  rw [h3] at f51
  have f52 := s52i (G := G) (A := A) (n := n3) (r := r3) (H := H3) hi hf hn hk (d + 5)
  rw [h4] at f52
  have f53 := s53i (G := G) (A := A) (n := n5) (r := r5) (H := H5) hi hf hn hk (d + 5)
  rw [h5] at f53
  have f62 := s62i (G := G) (A := A) (n := n) (r := r) (H := H) hi hf hn hk (d + 5)
  rw [h8] at f62
  have st : ∀ Q : Res → Prop, Q (if nI g ≤ 0 then run G (d + 8) 195 102 [some (.ref (ad A 11 0)), some (.int (nI i)), some (.int (m 0 2 i)), some (.int (nI g)), some (.int (ownI (m 0) i)), o5] [.ref a0, .ref n0] (S A H6 m n6 r6) else cV (call G (d + 7) 319 [.ref n6] (wall (S A H6 m n6 r6) (.inr (7, [.null, .int 0, .int 0, .int 0])) 4)) fun s14 => gR (G 100 359) fun v17 => if rcv s14 n6 7 = true then cR (call G (d + 7) 205 [.ref n6, .ref v17] s14) fun v18 s15 => if rcv s15 v18 7 = true then cR (call G (d + 7) 321 [.ref v18, .int (nI g)] s15) fun v19 s16 => if rcv s16 v19 7 = true then cR (call G (d + 7) 206 [.ref v19] s16) fun v20 s17 => run G (d + 8) 195 102 [some (.ref (ad A 11 0)), some (.int (nI i)), some (.int (m 0 2 i)), some (.int (nI g)), some (.int (ownI (m 0) i)), o5] [.ref v20, .ref n0] s17 else none else none else none) → Q (run G (d + 8) 195 2 [some (.ref (ad A 11 0)), some (.int (nI i)), o2, o3, o4, o5] [] (S A H m n r)) := by
    intro Q hQ
    rw [b195_2, if_pos rcX0, cI_of (s48 hn hk (d + 7))]
    rw [if_neg (by rw [nI_leI (by omega) (by omega)]; exact hle), cI_of (s5 hi hn hk (d + 5))]
    rw [if_pos rcX0, cI_of (f62)]
    rw [cI_of (e10)]
    show Q (cV (call G (d + 7) 319 [.ref n0] (wall (S A H m n0 r0) (.inr (7, [.null, .int 0, .int 0, .int 0])) 4)) _)
    rw [cV_of e1, if_pos rcX0, cI_of f51]
    show Q (if rcv (S A H1 m (n0 + 2) (r0 + 20)) n0 7 = true then _ else none)
    rw [if_pos rc1]
    show Q (cR (call G (d + 7) 320 [.ref n0, .int (nI sh)] (S A H1 m (n0 + 2) (r0 + 20))) _)
    rw [cR_of e2, ea0]
    simp only [gR_sm]
    rw [if_pos rc2, cR_of e3, if_pos rcX0, cI_of f52, if_pos rc3, cR_of e4, ea5]
    simp only [gR_sm]
    rw [if_pos rc4, cR_of e5, if_pos rcX0, cI_of f53, if_pos rc5, cR_of e6]
    exact hQ
  by_cases h0 : 0 < g
  · have eo : opt g 43 = [43] ++ dg g := if_pos h0
    obtain ⟨a7, ea7, x7⟩ := KT_kp hlt.2.2.1 kk6
    obtain ⟨K1, K2, m2, q2, K3, m3, q3, K4, q4, f1, f2, f3, f4, f5, f6, f7, f8, f9, fa, fb, fc, fd⟩ := mk_o (G := G) (m := m) (r := r6) hgb hgs (DG_kp hd kk6) hgn s6 x7 (by rw [List.length_singleton]; omega) (g := g) (by omega) (by have := ld g (by omega); omega) (d + 2)
    refine ⟨n0, K4, m3 + 2, q4, c6, m3, ?_, Or.inr ⟨f8, by rw [eo]; exact f9⟩, KP_trans kk6 fa, by omega, by omega, by omega⟩
    refine st (fun z => z = _) ?_
    rw [if_neg (nI_nle h0 (by omega)), cV_of f1, ea7]
    simp only [gR_sm]
    rw [if_pos f2, cR_of f3, if_pos f4, cR_of f5, if_pos f6, cR_of f7]
  · have eg : g = 0 := by omega
    obtain ⟨a7, ea7, x7⟩ := KT_kp hlt.1 kk6
    have ea : a7 = a0 := Value.ref.inj (Option.some.inj (ea7.symm.trans ea0))
    subst ea
    refine ⟨n0, H6, n6, r6, c6, a7, ?_, Or.inl ⟨s6, by rw [eg]; exact x7⟩, kk6, by omega, by omega, by omega⟩
    refine st (fun z => z = _) ?_
    rw [if_pos (by rw [eg]; decide)]
/-- the coins -/
theorem txt_c (hgb : GB G) (hgs : GS G) (hd : DG G H A) (hlt : LT G A H) (hgn : ∀ a, A ≤ a → G 2009 a = none) (hf : ∀ i, i < k → fx (m 0) k (m 0 2 i) = some i) (hn : m 0 1 0 = nI k) (hk : k ≤ 10) {i : Nat} (hi : i < k) {b a c : Nat} {u : List Int32} (hx : NX G A W H b cap t n a u) (hl : t.length + u.length ≤ 60) (h6 : m 0 6 i = nI c) (c9 : c < 10 ^ 7) (d : Nat) (x1 x4 : Int32) (o3 o5 : Option Value) : ∃ H' n' r' cap' a', run G (d + 8) 195 102 [some (.ref (ad A 11 0)), some (.int x1), some (.int (m 0 2 i)), o3, some (.int x4), o5] [.ref a, .ref b] (S A H m n r) = run G (d + 8) 195 143 [some (.ref (ad A 11 0)), some (.int x1), some (.int (m 0 2 i)), o3, some (.int x4), o5] [.ref a', .ref b] (S A H' m n' r') ∧ NX G A W H' b cap' (t ++ u) n' a' (opt c 36) ∧ KP A W H H' ∧ n ≤ n' ∧ n' ≤ n + 300 ∧ r' ≤ r + 600 := by
  obtain ⟨H1, n1, r1, c1, e1, s1, k1, a1, a2, a3⟩ := ap_x (G := G) (m := m) (r := r) hgb hgs hx hl (d + 2)
  have f54 := fun (n r : Nat) (H : Hp) => s54i (G := G) (A := A) (n := n) (r := r) (H := H) hi hf hn hk (d + 5)
  rw [h6] at f54
  rw [b195_102, if_pos (NX_rc hx), cR_of e1, if_pos rcX0, cI_of (f54 n1 r1 H1)]
  by_cases h0 : 0 < c
  · have eo : opt c 36 = [36] ++ dg c := if_pos h0
    obtain ⟨a7, ea7, x7⟩ := KT_kp hlt.2.2.2.1 k1
    obtain ⟨K1, K2, m2, q2, K3, m3, q3, K4, q4, f1, f2, f3, f4, f5, f6, f7, f8, f9, fa, fb, fc, fd⟩ := mk_o (G := G) (m := m) (r := r1) hgb hgs (DG_kp hd k1) hgn s1 x7 (by rw [List.length_singleton]; omega) (g := c) (by omega) (by have := dg_lenj (v := c) (j := 7) (by omega) (by omega); omega) (d + 2)
    refine ⟨K4, m3 + 2, q4, c1, m3, ?_, Or.inr ⟨f8, by rw [eo]; exact f9⟩, KP_trans k1 fa, by omega, by omega, by omega⟩
    rw [if_neg (nI_nle h0 (by omega))]
    show cV (call G (d + 7) 319 [.ref n1] (wall (S A H1 m n1 r1) (.inr (7, [.null, .int 0, .int 0, .int 0])) 4)) _ = _
    rw [cV_of f1, ea7]
    simp only [gR_sm]
    show (if rcv (S A K1 m (n1 + 2) (r1 + 20)) n1 7 = true then cR (call G (d + 7) 205 [.ref n1, .ref a7] (S A K1 m (n1 + 2) (r1 + 20))) _ else none) = _
    rw [if_pos f2, cR_of f3, if_pos rcX0, cI_of (f54 m2 q2 K2), if_pos f4, cR_of f5, if_pos f6, cR_of f7]
  · have eg : c = 0 := by omega
    obtain ⟨a7, ea7, x7⟩ := KT_kp hlt.1 k1
    refine ⟨H1, n1, r1, c1, a7, ?_, Or.inl ⟨s1, by rw [eg]; exact x7⟩, k1, by omega, by omega, by omega⟩
    rw [if_pos (by rw [eg]; decide), ea7]
    rfl
/-- the post -/
theorem txt_p (hgb : GB G) (hgs : GS G) (hd : DG G H A) (hlt : LT G A H) (hgn : ∀ a, A ≤ a → G 2009 a = none) (hv : PV (m 0) k p) (hq : p ≤ 6) {i : Nat} (hi : i < k) {b a : Nat} {u : List Int32} (hx : NX G A W H b cap t n a u) (hl : t.length + u.length ≤ 60) (d : Nat) (x1 x2 : Int32) (o3 o5 : Option Value) : ∃ H' n' r' cap' a', run G (d + 8) 195 143 [some (.ref (ad A 11 0)), some (.int x1), some (.int x2), o3, some (.int (ownI (m 0) i)), o5] [.ref a, .ref b] (S A H m n r) = run G (d + 8) 195 178 [some (.ref (ad A 11 0)), some (.int x1), some (.int x2), o3, some (.int (ownI (m 0) i)), o5] [.ref a', .ref b] (S A H' m n' r') ∧ NX G A W H' b cap' (t ++ u) n' a' (optO (if waB (m 0) i = true then none else some (qB (m 0) i)) 64) ∧ KP A W H H' ∧ n ≤ n' ∧ n' ≤ n + 300 ∧ r' ≤ r + 600 := by
  obtain ⟨H1, n1, r1, c1, e1, s1, k1, a1, a2, a3⟩ := ap_x (G := G) (m := m) (r := r) hgb hgs hx hl (d + 2)
  have hol := own_lt (m := m) hv hq hi
  rw [b195_143, if_pos (NX_rc hx), cR_of e1]
  cases hw : waB (m 0) i with
  | true =>
    obtain ⟨a7, ea7, x7⟩ := KT_kp hlt.1 k1
    refine ⟨H1, n1, r1, c1, a7, ?_, Or.inl ⟨s1, x7⟩, k1, by omega, by omega, by omega⟩
    rw [if_neg (fun z => Int32.not_lt.mpr z (hol.mpr hw)), ea7]
    rfl
  | false =>
    obtain ⟨q, hqp, e7⟩ : ∃ q, q < p ∧ m 0 7 i = nI q := by
      rcases hv i hi with h | h
      · unfold waB at hw; rw [h] at hw; exact absurd hw (by decide)
      · exact h
    have eq : qB (m 0) i = q := by unfold qB; rw [e7]; exact nI_clamp (by omega)
    have eo : ownI (m 0) i = nI q := (own_of hw).trans e7
    obtain ⟨a7, ea7, x7⟩ := KT_kp hlt.2.2.2.2.1 k1
    obtain ⟨K1, K2, m2, q2, K3, m3, q3, K4, q4, f1, f2, f3, f4, f5, f6, f7, f8, f9, fa, fb, fc, fd⟩ := mk_o (G := G) (m := m) (r := r1) hgb hgs (DG_kp hd k1) hgn s1 x7 (by rw [List.length_singleton]; omega) (g := q) (by omega) (by have := dg_lenj (v := q) (j := 1) (by omega) (by omega); omega) (d + 2)
    refine ⟨K4, m3 + 2, q4, c1, m3, ?_, Or.inr ⟨f8, by rw [eq]; exact f9⟩, KP_trans k1 fa, by omega, by omega, by omega⟩
    rw [if_pos (Int32.not_lt.mp (fun z => by rw [hol.mp z] at hw; cases hw))]
    rw [eo]
    show cV (call G (d + 7) 319 [.ref n1] (wall (S A H1 m n1 r1) (.inr (7, [.null, .int 0, .int 0, .int 0])) 4)) _ = _
    rw [cV_of f1, ea7]
    simp only [gR_sm]
    show (if rcv (S A K1 m (n1 + 2) (r1 + 20)) n1 7 = true then cR (call G (d + 7) 205 [.ref n1, .ref a7] (S A K1 m (n1 + 2) (r1 + 20))) _ else none) = _
    rw [if_pos f2, cR_of f3, if_pos f4, cR_of f5, if_pos f6, cR_of f7]
end
