/-! THE LAW'S FOURTH CHECK, part 3: each applicant's text is written and compared; the posts' text. -/
section
variable {G : Glb} {A n r k p cap : Nat} {W : Nat → Prop} {H : Hp} {m : Mm} {t : List Int32}
theorem s34 (hgb : GB G) (hd : DG G H A) (hs : SB A W (ad A 11 9) H cap t n) (hf : ∀ i, i < k → fx (m 0) k (m 0 2 i) = some i) (hn : m 0 1 0 = nI k) (hk : k ≤ 10) (hp : m 0 9 0 = nI p) (hq : p ≤ 6) (hv : PV (m 0) k p) {i : Nat} (hi : i < k) {sh w rr g c : Nat} (h3 : chr (m 0 3 i) = nI sh) (hsh : sh < 128) (h4 : m 0 4 i = nI w) (h5 : m 0 5 i = nI rr) (h8 : bcI (m 0 8 i) = nI g) (h6 : m 0 6 i = nI c) (w9 : w ≤ 100) (r9 : rr ≤ 50) (g9 : g ≤ 10) (c9 : c < 10 ^ 7) (d : Nat) : ∃ H' n' r' cap', call G (d + 7) 34 [.ref (ad A 11 0), .int (m 0 2 i)] (S A H m n r) = vI (nI (waT (nI sh) w rr g c (if waB (m 0) i = true then none else some (qB (m 0) i))).length) (S A H' m n' r') ∧ SB A W (ad A 11 9) H' cap' (waT (nI sh) w rr g c (if waB (m 0) i = true then none else some (qB (m 0) i))) n' ∧ KP A W H H' ∧ n ≤ n' ∧ n' ≤ n + 104 ∧ r' ≤ r + 208 := by
  have hqo : ∀ q, (if waB (m 0) i = true then none else some (qB (m 0) i)) = some q → q < 10 := by
    intro q hq'
    cases hw : waB (m 0) i with
    | true => rw [hw] at hq'; cases hq'
    | false =>
      rw [hw] at hq'
      have e : qB (m 0) i = q := Option.some.inj hq'
      rcases hv i hi with h | ⟨u, hu, e7⟩
      · unfold waB at hw; rw [h] at hw; exact absurd hw (by decide)
      · have : qB (m 0) i = u := by unfold qB; rw [e7]; exact nI_clamp (by omega)
        omega
  have hl := wa_len (sh := nI sh) (w := w) (rr := rr) (g := g) (c := c) w9 r9 g9 c9 hqo
  obtain ⟨H', n', r', c', e, s, kk, gr⟩ := s91 (G := G) (m := m) (r := r) hgb hd hs (hf i hi) hn hk hp hq hv h3 hsh h4 h5 h8 h6 (by omega) (by omega) (by omega) (by omega) (by omega) d
  obtain ⟨a1, a2, a3⟩ := GR_b gr (SB_n hs).2.1 (SB_n s).2.2
  exact ⟨H', n', r', c', w34_v rcX0 e, s, kk, a1, a2, a3⟩
/-- the end of an applicant's turn -/
theorem txt_w {H0 : Hp} {n0 cap0 b a : Nat} {t0 u : List Int32} (hgb : GB G) (hgs : GS G) (hd : DG G H0 A) (hgn : ∀ a, A ≤ a → G 2009 a = none) (hs : SB A W0 (ad A 11 9) H0 cap0 t0 n0) (hx : NX G A (BC H0 (ad A 11 9) t0.length) H b cap t n a u) (hK : KP A (BC H0 (ad A 11 9) t0.length) H0 H) (hn0 : n0 ≤ n) (hf : ∀ i, i < k → fx (m 0) k (m 0 2 i) = some i) (hn : m 0 1 0 = nI k) (hk : k ≤ 10) (hp : m 0 9 0 = nI p) (hq : p ≤ 6) (hv : PV (m 0) k p) {i : Nat} (hi : i < k) {sh w rr g c : Nat} (h3 : chr (m 0 3 i) = nI sh) (hsh : sh < 128) (h4 : m 0 4 i = nI w) (h5 : m 0 5 i = nI rr) (h8 : bcI (m 0 8 i) = nI g) (h6 : m 0 6 i = nI c) (w9 : w ≤ 100) (r9 : rr ≤ 50) (g9 : g ≤ 10) (c9 : c < 10 ^ 7) (hT : t ++ u = waT (nI sh) w rr g c (if waB (m 0) i = true then none else some (qB (m 0) i))) (hA : ASC (t ++ u)) (hl : t.length + u.length ≤ 60) (d : Nat) (o3 o4 o5 : Option Value) : ∃ H' n' r' cap' t' o5', run G (d + 8) 195 178 [some (.ref (ad A 11 0)), some (.int (nI i)), some (.int (m 0 2 i)), o3, o4, o5] [.ref a, .ref b] (S A H m n r) = run G (d + 8) 195 2 [some (.ref (ad A 11 0)), some (.int (nI (i + 1))), some (.int (m 0 2 i)), o3, o4, o5'] [] (S A H' m n' r') ∧ SB A W0 (ad A 11 9) H' cap' t' n' ∧ KP A W0 H0 H' ∧ n ≤ n' ∧ n' ≤ n + 300 ∧ r' ≤ r + 600 := by
  obtain ⟨H1, n1, r1, c1, e1, s1, k1, a1, a2, a3⟩ := ap_x (G := G) (m := m) (r := r) hgb hgs hx hl (d + 2)
  obtain ⟨H2, e2, x2, k2⟩ := s206 (G := G) (m := m) (r := r1) hgb hgn s1 hA (by rw [List.length_append]; omega) (d + 2)
  have kk1 := KP_trans hK k1
  have hl2 : (t ++ u).length ≤ 60 := by rw [List.length_append]; exact hl
  have kq : ∀ q, q < n0 → BC H0 (ad A 11 9) t0.length q → H2 q = H0 q := fun q hq h => by rw [k2 q (by omega)]; exact kk1 q (Or.inr h)
  have s2 : SB A (fun q => q = n1 ∨ q = n1 + 1) (ad A 11 9) H2 cap0 t0 (n1 + 2) := SB_new hs (by omega) kq (fun q hq => Or.inr (by omega))
  have hn0A := (SB_n hs).1
  have k02 : KP A W0 H0 H2 := by
    intro q hq
    rcases hq with h | h
    · rw [k2 q (by omega)]; exact kk1 q (Or.inl h)
    · exact absurd h (fun z => z)
  obtain ⟨H3, n3, r3, c3, e3, s3, k3, b1, b2, b3⟩ := s34 (G := G) (m := m) (r := r1 + 4 + (t ++ u).length) hgb (DG_kp hd k02) s2 hf hn hk hp hq hv hi h3 hsh h4 h5 h8 h6 w9 r9 g9 c9 d
  rw [← hT] at e3 s3
  have e4 := s194 (G := G) (m := m) (r := r3) hgb hgs (TX_kp x2 k3) s3 d
  refine ⟨H3, n3 + 1, r3 + 6, c3, t ++ u, some (.ref n1), ?_, SB_up (SB_W s3 fun q h => absurd h (fun z => z)) (by omega), ?_, by omega, by omega, by omega⟩
  · rw [b195_178, if_pos (NX_rc hx), cR_of e1, if_pos (SB_rc s1), cR_of e2, cI_of e3, cI_of e4, if_neg not1, nI_1]
  · refine KP_trans k02 fun q hq => k3 q ?_
    rcases hq with h | h
    · exact Or.inl h
    · exact absurd h (fun z => z)
/-- the turn of an applicant -/
theorem txt_1 (hgb : GB G) (hgs : GS G) (hd : DG G H A) (hlt : LT G A H) (hgn : ∀ a, A ≤ a → G 2009 a = none) (hs : SB A W0 (ad A 11 9) H cap t n) (hf : ∀ i, i < k → fx (m 0) k (m 0 2 i) = some i) (hn : m 0 1 0 = nI k) (hk : k ≤ 10) (hp : m 0 9 0 = nI p) (hq : p ≤ 6) (hv : PV (m 0) k p) {i : Nat} (hi : i < k) {sh w rr g c : Nat} (h3 : chr (m 0 3 i) = nI sh) (hsh : sh < 128) (h4 : m 0 4 i = nI w) (h5 : m 0 5 i = nI rr) (h8 : bcI (m 0 8 i) = nI g) (h6 : m 0 6 i = nI c) (w9 : w ≤ 100) (r9 : rr ≤ 50) (g9 : g ≤ 10) (c9 : c < 10 ^ 7) (d : Nat) (o2 o3 o4 o5 : Option Value) : ∃ H' n' r' cap' t' o2' o3' o4' o5', run G (d + 8) 195 2 [some (.ref (ad A 11 0)), some (.int (nI i)), o2, o3, o4, o5] [] (S A H m n r) = run G (d + 8) 195 2 [some (.ref (ad A 11 0)), some (.int (nI (i + 1))), o2', o3', o4', o5'] [] (S A H' m n' r') ∧ SB A W0 (ad A 11 9) H' cap' t' n' ∧ KP A W0 H H' ∧ n ≤ n' ∧ n' ≤ n + 1200 ∧ r' ≤ r + 2400 := by
  obtain ⟨b, H1, n1, r1, c1, a1, e1, x1, k1, p1, p2, p3⟩ := txt_e (G := G) (A := A) (H := H) (n := n) (r := r) (W := BC H (ad A 11 9) t.length) hgb hgs hd hlt hgn (fun q h => (BC_lt hs h).1) (SB_n hs).1 hf hn hk hp hq hv hi h3 hsh h4 h5 h8 w9 r9 g9 d o2 o3 o4 o5
  have ld := fun (v : Nat) (h : v < 10 ^ 3) => dg_lenj (v := v) (j := 3) h (by omega)
  have l1 := ld w (by omega)
  have l2 := ld rr (by omega)
  have l3 := opt_len (g := g) (j := 2) (x := 43) (by omega) (by omega)
  have l4 := opt_len (g := c) (j := 7) (x := 36) c9 (by omega)
  have hqo : ∀ q, (if waB (m 0) i = true then none else some (qB (m 0) i)) = some q → q < 10 := by
    intro q hq'
    cases hw : waB (m 0) i with
    | true => rw [hw] at hq'; cases hq'
    | false =>
      rw [hw] at hq'
      have e : qB (m 0) i = q := Option.some.inj hq'
      rcases hv i hi with h | ⟨u, hu, e7⟩
      · unfold waB at hw; rw [h] at hw; exact absurd hw (by decide)
      · have : qB (m 0) i = u := by unfold qB; rw [e7]; exact nI_clamp (by omega)
        omega
  have hl := wa_len (sh := nI sh) (w := w) (rr := rr) (g := g) (c := c) w9 r9 g9 c9 hqo
  have hA := ASC_wa (sh := sh) (w := w) (rr := rr) (g := g) (c := c) (o := if waB (m 0) i = true then none else some (qB (m 0) i)) hsh (by omega) (by omega) (by omega) (by omega) (fun q h => by have := hqo q h; omega)
  have hLn : (waT (nI sh) w rr g c (if waB (m 0) i = true then none else some (qB (m 0) i))).length = 1 + ((dg w).length + (1 + ((dg rr).length + ((opt g 43).length + ((opt c 36).length + (optO (if waB (m 0) i = true then none else some (qB (m 0) i)) 64).length))))) := by
    unfold waT; simp only [List.length_append, List.length_singleton]
  rw [hLn] at hl
  obtain ⟨H2, n2, r2, c2, a2, e2, x2, k2, q1, q2, q3⟩ := txt_c (G := G) (m := m) (r := r1) hgb hgs (DG_kp hd k1) (LT_kp hlt k1) hgn hf hn hk hi x1 (by simp only [List.length_append, List.length_singleton]; omega) h6 c9 d (nI i) (ownI (m 0) i) (some (.int (nI g))) o5
  have kk2 := KP_trans k1 k2
  obtain ⟨H3, n3, r3, c3, a3, e3, x3, k3, s1, s2, s3⟩ := txt_p (G := G) (m := m) (r := r2) hgb hgs (DG_kp hd kk2) (LT_kp hlt kk2) hgn hv hq hi x2 (by simp only [List.length_append, List.length_singleton]; omega) d (nI i) (m 0 2 i) (some (.int (nI g))) o5
  have kk3 := KP_trans kk2 k3
  have hT : [nI sh] ++ (dg w ++ ([47] ++ dg rr)) ++ opt g 43 ++ opt c 36 ++ optO (if waB (m 0) i = true then none else some (qB (m 0) i)) 64 = waT (nI sh) w rr g c (if waB (m 0) i = true then none else some (qB (m 0) i)) := by
    unfold waT; simp only [List.append_assoc]
  obtain ⟨H4, n4, r4, c4, t4, o5', e4, s4, k4, u1, u2, u3⟩ := txt_w (G := G) (m := m) (r := r3) hgb hgs hd hgn hs x3 kk3 (by omega) hf hn hk hp hq hv hi h3 hsh h4 h5 h8 h6 w9 r9 g9 c9 hT (by rw [hT]; exact hA) (by simp only [List.length_append, List.length_singleton]; omega) d (some (.int (nI g))) (some (.int (ownI (m 0) i))) o5
  exact ⟨H4, n4, r4, c4, t4, some (.int (m 0 2 i)), some (.int (nI g)), some (.int (ownI (m 0) i)), o5', e1.trans (e2.trans (e3.trans e4)), s4, k4, by omega, by omega, by omega⟩
/-- what is known of an applicant's numbers -/
def AF (B : Bd) (i : Nat) : Prop := ∃ sh w rr g c, (chr (B 3 i) = nI sh ∧ sh < 128) ∧ (B 4 i = nI w ∧ w ≤ 100) ∧ (B 5 i = nI rr ∧ rr ≤ 50) ∧ (bcI (B 8 i) = nI g ∧ g ≤ 10) ∧ B 6 i = nI c ∧ c < 10 ^ 7
theorem txt_lp (hgb : GB G) (hgs : GS G) (hgn : ∀ a, A ≤ a → G 2009 a = none) (hf : ∀ i, i < k → fx (m 0) k (m 0 2 i) = some i) (hn : m 0 1 0 = nI k) (hk : k ≤ 10) (hp : m 0 9 0 = nI p) (hq : p ≤ 6) (hv : PV (m 0) k p) (hAF : ∀ i, i < k → AF (m 0) i) (d : Nat) : ∀ u i, i + u = k → ∀ H cap t n r o2 o3 o4 o5, DG G H A → LT G A H → SB A W0 (ad A 11 9) H cap t n → ∃ H' n' r' cap' t' o2' o3' o4' o5', run G (d + 8) 195 2 [some (.ref (ad A 11 0)), some (.int (nI i)), o2, o3, o4, o5] [] (S A H m n r) = run G (d + 8) 195 2 [some (.ref (ad A 11 0)), some (.int (nI k)), o2', o3', o4', o5'] [] (S A H' m n' r') ∧ SB A W0 (ad A 11 9) H' cap' t' n' ∧ KP A W0 H H' ∧ n ≤ n' ∧ n' ≤ n + 1200 * u ∧ r' ≤ r + 2400 * u := by
  intro u
  induction u with
  | zero =>
    intro i hi H cap t n r o2 o3 o4 o5 _ _ hs
    have : i = k := by omega
    subst this
    exact ⟨H, n, r, cap, t, o2, o3, o4, o5, rfl, hs, KP_refl _ _ _, Nat.le_refl _, Nat.le_refl _, Nat.le_refl _⟩
  | succ u ih =>
    intro i hi H cap t n r o2 o3 o4 o5 hd hlt hs
    obtain ⟨sh, w, rr, g, c, ⟨f1, f2⟩, ⟨f3, f4⟩, ⟨f5, f6⟩, ⟨f7, f8⟩, f9, f10⟩ := hAF i (by omega)
    obtain ⟨H1, n1, r1, c1, t1, p2, p3, p4, p5, e1, s1, k1, a1, a2, a3⟩ := txt_1 (G := G) (A := A) (H := H) (m := m) (r := r) hgb hgs hd hlt hgn hs hf hn hk hp hq hv (i := i) (by omega) f1 f2 f3 f5 f7 f9 f4 f6 f8 f10 d o2 o3 o4 o5
    obtain ⟨H2, n2, r2, c2, t2, q2, q3, q4, q5, e2, s2, k2, b1, b2, b3⟩ := ih (i + 1) (by omega) H1 c1 t1 n1 r1 p2 p3 p4 p5 (DG_kp hd k1) (LT_kp hlt k1) s1
    exact ⟨H2, n2, r2, c2, t2, q2, q3, q4, q5, e1.trans e2, s2, KP_trans k1 k2, by omega, by omega, by omega⟩
/-- the turn of a post -/
theorem txq_1 {a : Nat} (hgb : GB G) (hgs : GS G) (hd : DG G H A) (hlt : LT G A H) (hgn : ∀ a, A ≤ a → G 2009 a = none) (hs : SB A W (ad A 11 9) H cap t n) (hn : m 0 1 0 = nI k) (hk : k ≤ 10) (hp : m 0 9 0 = nI p) (hq : p ≤ 6) (hid : ∀ i, i < k → ¬ m 0 2 i = -1) (hi9 : ∀ i, i < k → ∃ v, v < 10 ^ 7 ∧ m 0 2 i = nI v) {q : Nat} (hqp : q < p) (hx : TX G A W H a (cpT (m 0) k q)) (hA : ∀ q, q ≤ p → ASC (cpT (m 0) k q) ∧ (cpT (m 0) k q).length ≤ 8 * q) (d : Nat) (o3 o4 o5 : Option Value) : ∃ H' n' r' a' o3', run G (d + 8) 195 214 [some (.ref (ad A 11 0)), some (.ref a), some (.int (nI q)), o3, o4, o5] [] (S A H m n r) = run G (d + 8) 195 214 [some (.ref (ad A 11 0)), some (.ref a'), some (.int (nI (q + 1))), o3', o4, o5] [] (S A H' m n' r') ∧ SB A (fun x => x = a' ∨ x = a' + 1) (ad A 11 9) H' cap t n' ∧ TX G A (fun x => x = a' ∨ x = a' + 1) H' a' (cpT (m 0) k (q + 1)) ∧ KP A W0 H H' ∧ n ≤ n' ∧ n' ≤ n + 500 ∧ r' ≤ r + 1200 := by
  obtain ⟨n0, r0, a1, a2, a3, e24⟩ := s24_by (G := G) (A := A) (H := H) hn hk hp hq hid hqp (d + 3) n r
  obtain ⟨hnA, hc16, hc120⟩ := SB_n hs
  obtain ⟨W1, hW1⟩ : ∃ W1 : Nat → Prop, W1 = fun x => W x ∨ BC H (ad A 11 9) t.length x := ⟨_, rfl⟩
  have lW : ∀ x, W1 x → x < n := by
    intro x hx
    rw [hW1] at hx
    rcases hx with h | h
    · exact SB_Wlt hs h
    · exact (BC_lt hs h).1
  have hlen := (hA q (by omega)).2
  have hlen1 := (hA (q + 1) (by omega)).2
  have eT : cpT (m 0) k (q + 1) = cpT (m 0) k q ++ cpo (m 0) k q := rfl
  rw [eT, List.length_append] at hlen1
  obtain ⟨H1, e1, s1, k1⟩ := s319s (G := G) (A := A) (n := n0) (r := r0) (H := H) (m := m) (W := W1) hgb (by omega) (fun x h => by have := lW x h; omega) (d + 6)
  have kk1 : KP A W1 H H1 := fun x hx => k1 x (by rcases hx with h | h; omega; have := lW x h; omega)
  have hx1 : TX G A W1 H1 a (cpT (m 0) k q) := TX_kp (TX_W hx fun x h => by rw [hW1]; exact Or.inl h) kk1
  obtain ⟨H2, n2, r2, c2, e2, s2, k2, g2⟩ := s205 (G := G) (m := m) (r := r0 + 20) hgb hgs s1 hx1 (by omega) (by rw [List.length_nil]; omega) (d + 3)
  rw [List.nil_append] at s2
  have kk2 := KP_trans kk1 k2
  obtain ⟨b1, b2, b3⟩ := GR_b g2 (Nat.le_refl _) (SB_n s2).2.2
  -- the blank
  obtain ⟨a7, nx7, e7⟩ : ∃ a7, NX G A W1 H2 n0 c2 (cpT (m 0) k q) n2 a7 (if q = 0 then [] else [32]) ∧ run G (d + 8) 195 214 [some (.ref (ad A 11 0)), some (.ref a), some (.int (nI q)), o3, o4, o5] [] (S A H m n r) = run G (d + 8) 195 252 [some (.ref (ad A 11 0)), some (.ref a), some (.int (nI q)), some (.int (byI (m 0) k q)), o4, o5] [.ref a7, .ref n0] (S A H2 m n2 r2) := by
    have st : ∀ Q : Res → Prop, Q (if nI q = 0 then gR (G 100 349) fun v8 => run G (d + 8) 195 252 [some (.ref (ad A 11 0)), some (.ref a), some (.int (nI q)), some (.int (byI (m 0) k q)), o4, o5] [.ref v8, .ref n0] (S A H2 m n2 r2) else gR (G 100 376) fun v7 => run G (d + 8) 195 252 [some (.ref (ad A 11 0)), some (.ref a), some (.int (nI q)), some (.int (byI (m 0) k q)), o4, o5] [.ref v7, .ref n0] (S A H2 m n2 r2)) → Q (run G (d + 8) 195 214 [some (.ref (ad A 11 0)), some (.ref a), some (.int (nI q)), o3, o4, o5] [] (S A H m n r)) := by
      intro Q hQ
      rw [b195_214, if_pos rcX0, cI_of (s66 hp hq (d + 7))]
      rw [if_neg (by rw [nI_leI (by omega) (by omega)]; omega), cI_of (e24)]
      show Q (cV (call G (d + 7) 319 [.ref n0] (wall (S A H m n0 r0) (.inr (7, [.null, .int 0, .int 0, .int 0])) 4)) _)
      rw [cV_of e1]
      show Q (if rcv (S A H1 m (n0 + 2) (r0 + 20)) n0 7 = true then cR (call G (d + 7) 205 [.ref n0, .ref a] (S A H1 m (n0 + 2) (r0 + 20))) _ else none)
      rw [if_pos (SB_rc s1), cR_of e2]
      exact hQ
    by_cases h0 : q = 0
    · obtain ⟨a7, ea7, x7⟩ := KT_kp hlt.1 kk2
      refine ⟨a7, Or.inl ⟨s2, by rw [if_pos h0]; exact x7⟩, st (fun z => z = _) ?_⟩
      rw [if_pos (by rw [h0]; rfl), ea7]; rfl
    · obtain ⟨a7, ea7, x7⟩ := KT_kp hlt.2.2.2.2.2.1 kk2
      refine ⟨a7, Or.inl ⟨s2, by rw [if_neg h0]; exact x7⟩, st (fun z => z = _) ?_⟩
      rw [if_neg (by rw [show (0 : Int32) = nI 0 from rfl, nI_eq (by omega) (by omega)]; exact h0), ea7]; rfl
  have hbl : (if q = 0 then [] else [(32 : Int32)]).length ≤ 1 := by split <;> simp
  have ecpo : cpo (m 0) k q = (if q = 0 then [] else [32]) ++ (match fh (m 0) k (nI q) with
    | none => [45]
    | some i => dg (m 0 2 i).toNatClampNeg) := rfl
  have hl7 : (cpo (m 0) k q).length = (if q = 0 then [] else [(32 : Int32)]).length + (match fh (m 0) k (nI q) with
    | none => [(45 : Int32)]
    | some i => dg (m 0 2 i).toNatClampNeg).length := by rw [ecpo, List.length_append]
  obtain ⟨H3, n3, r3, c3, e3, s3, k3, d1, d2, d3⟩ := ap_x (G := G) (m := m) (r := r2) hgb hgs nx7 (by omega) (d + 2)
  have kk3 := KP_trans kk2 k3
  -- who holds it
  obtain ⟨a8, H4, n4, r4, c4, nx8, k4, e8, f1, f2, f3⟩ : ∃ a8 H4 n4 r4 c4, NX G A W1 H4 n0 c4 (cpT (m 0) k q ++ (if q = 0 then [] else [32])) n4 a8 (match fh (m 0) k (nI q) with
    | none => [45]
    | some i => dg (m 0 2 i).toNatClampNeg) ∧ KP A W1 H3 H4 ∧ run G (d + 8) 195 252 [some (.ref (ad A 11 0)), some (.ref a), some (.int (nI q)), some (.int (byI (m 0) k q)), o4, o5] [.ref a7, .ref n0] (S A H2 m n2 r2) = run G (d + 8) 195 285 [some (.ref (ad A 11 0)), some (.ref a), some (.int (nI q)), some (.int (byI (m 0) k q)), o4, o5] [.ref a8, .ref n0] (S A H4 m n4 r4) ∧ n3 ≤ n4 ∧ n4 ≤ n3 + 130 ∧ r4 ≤ r3 + 330 := by
    have st : ∀ Q : Res → Prop, Q (if 0 ≤ byI (m 0) k q then cV (call G (d + 7) 319 [.ref n3] (wall (S A H3 m n3 r3) (.inr (7, [.null, .int 0, .int 0, .int 0])) 4)) fun s2 => gR (G 100 349) fun v2 => if rcv s2 n3 7 = true then cR (call G (d + 7) 205 [.ref n3, .ref v2] s2) fun v3 s3 => if rcv s3 v3 7 = true then cR (call G (d + 7) 321 [.ref v3, .int (byI (m 0) k q)] s3) fun v4 s4 => if rcv s4 v4 7 = true then cR (call G (d + 7) 206 [.ref v4] s4) fun v5 s5 => run G (d + 8) 195 285 [some (.ref (ad A 11 0)), some (.ref a), some (.int (nI q)), some (.int (byI (m 0) k q)), o4, o5] [.ref v5, .ref n0] s5 else none else none else none else gR (G 100 378) fun v6 => run G (d + 8) 195 285 [some (.ref (ad A 11 0)), some (.ref a), some (.int (nI q)), some (.int (byI (m 0) k q)), o4, o5] [.ref v6, .ref n0] (S A H3 m n3 r3)) → Q (run G (d + 8) 195 252 [some (.ref (ad A 11 0)), some (.ref a), some (.int (nI q)), some (.int (byI (m 0) k q)), o4, o5] [.ref a7, .ref n0] (S A H2 m n2 r2)) := by
      intro Q hQ
      rw [b195_252, if_pos (NX_rc nx7), cR_of e3]
      exact hQ
    cases hfh : fh (m 0) k (nI q) with
    | none =>
      have eby : byI (m 0) k q = -13 := by unfold byI; rw [hfh]
      obtain ⟨a8, ea8, x8⟩ := KT_kp hlt.2.2.2.2.2.2 kk3
      refine ⟨a8, H3, n3, r3, c3, Or.inl ⟨s3, x8⟩, KP_refl _ _ _, st (fun z => z = _) ?_, by omega, by omega, by omega⟩
      rw [if_neg (by rw [eby]; decide), ea8]; rfl
    | some f =>
      have hfk := (fst_some hfh).1
      obtain ⟨v, hv7, ev⟩ := hi9 f hfk
      have eby : byI (m 0) k q = nI v := by unfold byI; rw [hfh]; exact ev
      obtain ⟨a8, ea8, x8⟩ := KT_kp hlt.1 kk3
      obtain ⟨K1, K2, m2, q2, K3, m3, q3, K4, q4, g1, g2, g3, g4, g5, g6, g7, g8, g9, ga, gb, gc, gd⟩ := mk_o (G := G) (m := m) (r := r3) hgb hgs (DG_kp hd kk3) hgn s3 x8 (by rw [List.length_nil]; omega) (g := v) (by omega) (by have := dg_lenj (v := v) (j := 7) (by omega) (by omega); omega) (d + 2)
      refine ⟨m3, K4, m3 + 2, q4, c3, Or.inr ⟨g8, ?_⟩, ga, st (fun z => z = _) ?_, by omega, by omega, by omega⟩
      · show TX G A (fun q => q = m3 ∨ q = m3 + 1) K4 m3 (dg (m 0 2 f).toNatClampNeg)
        rw [ev, nI_clamp (by omega)]; exact g9
      · rw [eby, if_pos (Int32.not_lt.mp (nI_pos (by omega))), cV_of g1, ea8]
        simp only [gR_sm]
        rw [if_pos g2, cR_of g3, if_pos g4, cR_of g5, if_pos g6, cR_of g7]
  have kk4 := KP_trans kk3 k4
  obtain ⟨H5, n5, r5, c5, e5, s5', k5, h1, h2, h3⟩ := ap_x (G := G) (m := m) (r := r4) hgb hgs nx8 (by rw [List.length_append]; omega) (d + 2)
  have kk5 := KP_trans kk4 k5
  have eTT : (cpT (m 0) k q ++ if q = 0 then [] else [32]) ++ (match fh (m 0) k (nI q) with
    | none => [45]
    | some i => dg (m 0 2 i).toNatClampNeg) = cpT (m 0) k (q + 1) := by rw [eT, ecpo, List.append_assoc]
  rw [eTT] at s5'
  obtain ⟨H6, e6, x6, k6⟩ := s206 (G := G) (m := m) (r := r5) hgb hgn s5' (hA (q + 1) (by omega)).1 (by have := (hA (q + 1) (by omega)).2; omega) (d + 2)
  have hl6 := (hA (q + 1) (by omega)).2
  refine ⟨H6, n5 + 2, r5 + 4 + (cpT (m 0) k (q + 1)).length, n5, some (.int (byI (m 0) k q)), ?_, ?_, x6, ?_, by omega, by omega, by omega⟩
  · rw [e7, e8, b195_285, if_pos (NX_rc nx8), cR_of e5, if_pos (SB_rc s5'), cR_of e6, nI_1]
  · refine SB_new hs (by omega) (fun x hx h => ?_) (fun x hx => Or.inr (by omega))
    rw [k6 x (by omega)]
    exact kk5 x (Or.inr (by rw [hW1]; exact Or.inr h))
  · intro x hx
    rcases hx with h | h
    · rw [k6 x (by omega)]; exact kk5 x (Or.inl h)
    · exact absurd h (fun z => z)
theorem txq_lp (hgb : GB G) (hgs : GS G) (hgn : ∀ a, A ≤ a → G 2009 a = none) (hn : m 0 1 0 = nI k) (hk : k ≤ 10) (hp : m 0 9 0 = nI p) (hq : p ≤ 6) (hid : ∀ i, i < k → ¬ m 0 2 i = -1) (hi9 : ∀ i, i < k → ∃ v, v < 10 ^ 7 ∧ m 0 2 i = nI v) (hA : ∀ q, q ≤ p → ASC (cpT (m 0) k q) ∧ (cpT (m 0) k q).length ≤ 8 * q) (d : Nat) : ∀ u q, q + u = p → ∀ W H n r a o3 o4 o5, DG G H A → LT G A H → SB A W (ad A 11 9) H cap t n → TX G A W H a (cpT (m 0) k q) → ∃ W' H' n' r' a' o3', run G (d + 8) 195 214 [some (.ref (ad A 11 0)), some (.ref a), some (.int (nI q)), o3, o4, o5] [] (S A H m n r) = run G (d + 8) 195 214 [some (.ref (ad A 11 0)), some (.ref a'), some (.int (nI p)), o3', o4, o5] [] (S A H' m n' r') ∧ SB A W' (ad A 11 9) H' cap t n' ∧ TX G A W' H' a' (cpT (m 0) k p) ∧ KP A W0 H H' ∧ n ≤ n' ∧ n' ≤ n + 500 * u ∧ r' ≤ r + 1200 * u := by
  intro u
  induction u with
  | zero =>
    intro q hqq W H n r a o3 o4 o5 _ _ hs hx
    have : q = p := by omega
    subst this
    exact ⟨W, H, n, r, a, o3, rfl, hs, hx, KP_refl _ _ _, Nat.le_refl _, Nat.le_refl _, Nat.le_refl _⟩
  | succ u ih =>
    intro q hqq W H n r a o3 o4 o5 hd hlt hs hx
    obtain ⟨H1, n1, r1, a1, p3, e1, s1, x1, k1, b1, b2, b3⟩ := txq_1 (G := G) (A := A) (H := H) (m := m) (r := r) hgb hgs hd hlt hgn hs hn hk hp hq hid hi9 (q := q) (by omega) hx hA d o3 o4 o5
    obtain ⟨W2, H2, n2, r2, a2, q3, e2, s2, x2, k2, c1, c2, c3⟩ := ih (q + 1) (by omega) _ H1 n1 r1 a1 p3 o4 o5 (DG_kp hd k1) (LT_kp hlt k1) s1 x1
    exact ⟨W2, H2, n2, r2, a2, q3, e1.trans e2, s2, x2, KP_trans k1 k2, by omega, by omega, by omega⟩
/-- all of it -/
theorem s195 (hgb : GB G) (hgs : GS G) (hgn : ∀ a, A ≤ a → G 2009 a = none) (hd : DG G H A) (hlt : LT G A H) (hs : SB A W0 (ad A 11 9) H cap t n) (hf : ∀ i, i < k → fx (m 0) k (m 0 2 i) = some i) (hn : m 0 1 0 = nI k) (hk : k ≤ 10) (hp : m 0 9 0 = nI p) (hq : p ≤ 6) (hv : PV (m 0) k p) (hid : ∀ i, i < k → ¬ m 0 2 i = -1) (hAF : ∀ i, i < k → AF (m 0) i) (hi9 : ∀ i, i < k → ∃ v, v < 10 ^ 7 ∧ m 0 2 i = nI v) (hA : ∀ q, q ≤ p → ASC (cpT (m 0) k q) ∧ (cpT (m 0) k q).length ≤ 8 * q) (hm1 : fx (m 0) k (-1) = none) (d : Nat) : ∃ H' n' r' cap' t', call G (d + 8) 195 [.ref (ad A 11 0)] (S A H m n r) = vI 1 (S A H' m n' r') ∧ SB A W0 (ad A 11 9) H' cap' t' n' ∧ KP A W0 H H' ∧ n ≤ n' ∧ n' ≤ n + 16000 ∧ r' ≤ r + 32000 := by
  obtain ⟨H1, n1, r1, c1, t1, o2, o3, o4, o5, e1, s1, k1, a1, a2, a3⟩ := txt_lp (G := G) (A := A) (m := m) hgb hgs hgn hf hn hk hp hq hv hAF d k 0 (by omega) H cap t n r none none none none hd hlt hs
  obtain ⟨a7, ea7, x7⟩ := KT_kp hlt.1 k1
  obtain ⟨W2, H2, n2, r2, b2, p3, e2, s2, x2, k2, b1, b3, b4⟩ := txq_lp (G := G) (A := A) (m := m) hgb hgs hgn hn hk hp hq hid hi9 hA d p 0 (by omega) W0 H1 n1 r1 a7 o3 o4 o5 (DG_kp hd k1) (LT_kp hlt k1) s1 x7
  have hlp := (hA p (Nat.le_refl _)).2
  have kk2 := KP_trans k1 k2
  obtain ⟨H3, n3, r3, c3, e3, s3, k3, g3⟩ := s92 (G := G) (m := m) (r := r2) hgb (DG_kp hd kk2) s2 hn hk hp hq (fun i hi => by obtain ⟨v, h1, h2⟩ := hi9 i hi; exact ⟨v, by omega, h2⟩) (by omega) (d + 2)
  obtain ⟨c1', c2', c3'⟩ := GR_b g3 (SB_n s2).2.1 (SB_n s3).2.2
  have e4 := s194 (G := G) (m := m) (r := r3) hgb hgs (TX_kp x2 k3) s3 d
  have e5 : call G (d + 7) 34 [.ref (ad A 11 0), .int (-1)] (S A H3 m (n3 + 1) (r3 + 6)) = vI (-13) (S A H3 m (n3 + 1 + 1) (r3 + 6 + 6)) := w34_x13 rcX0 (s91n hm1 hn hk d)
  refine ⟨H3, n3 + 1 + 1, r3 + 6 + 6, c3, cpT (m 0) k p, ?_, SB_up (SB_W s3 fun q h => absurd h (fun z => z)) (by omega), ?_, by omega, by omega, by omega⟩
  · have e00 : nI 0 = 0 := rfl
    rw [e00] at e1 e2
    rw [b195_e, e1, b195_2, if_pos rcX0, cI_of (s48 hn hk (d + 7))]
    rw [if_pos (Int32.le_refl _), ea7]
    simp only [gR_sm]
    rw [e2, b195_214, if_pos rcX0, cI_of (s66 hp hq (d + 7))]
    rw [if_pos (Int32.le_refl _), if_pos rcX0, cI_of e3, cI_of e4, if_neg not1, cI_of e5, if_pos rfl]; rfl
  · refine KP_trans kk2 fun q hq => k3 q ?_
    rcases hq with h | h
    · exact Or.inl h
    · exact absurd h (fun z => z)
end
