/-! THE LAW'S TEXTS, part 1: a text in a builder, a text compared with the output. -/
def W0 : Nat → Prop := fun _ => False
section
variable {G : Glb} {A n r k p cap : Nat} {W : Nat → Prop} {H : Hp} {m : Mm} {t : List Int32}
theorem pa_lt {q : Nat} (h : PA A q n) (hn : A + 169 ≤ n) : q < n := by
  unfold PA at h; rw [ad_9, ad_10] at h; omega
theorem SB_up {b n' : Nat} (hs : SB A W b H cap t n) (h : n ≤ n') : SB A W b H cap t n' := by
  obtain ⟨v, mb, f, h1, h2, ⟨a1, a2, a3, a4⟩, h4, h5, h6, h7, h8⟩ := hs
  refine ⟨v, mb, f, h1, h2, ⟨pa_up a1 h, pa_up a2 h, a3, fun q hq => ?_⟩, h4, h5, by omega, h7, h8⟩
  obtain ⟨b1, b2, b3⟩ := a4 q hq
  exact ⟨b1, b2, by omega⟩
theorem SB_W {b : Nat} {W' : Nat → Prop} (hs : SB A W b H cap t n) (h : ∀ q, W' q → W q) : SB A W' b H cap t n := by
  obtain ⟨v, mb, f, h1, h2, ⟨a1, a2, a3, a4⟩, h4, h5, h6, h7, h8⟩ := hs
  exact ⟨v, mb, f, h1, h2, ⟨a1, a2, a3, fun q hq => a4 q (h q hq)⟩, h4, h5, h6, h7, h8⟩
/-- the builder's cells stand, more is protected -/
theorem SB_new {b n' : Nat} {W' : Nat → Prop} {H' : Hp} (hs : SB A W b H cap t n) (hn : n ≤ n') (hH : ∀ q, q < n → q = b ∨ (∃ mb : Int32, H b = some (.inr (7, [.ref q, .int 0, .int mb, .int (nI t.length)]))) → H' q = H q) (hW : ∀ q, W' q → W q ∨ (n ≤ q ∧ q < n')) : SB A W' b H' cap t n' := by
  obtain ⟨v, mb, f, h1, h2, ⟨a1, a2, a3, a4⟩, h4, h5, h6, h7, h8⟩ := hs
  have lb := pa_lt a1 h6
  have lv := pa_lt a2 h6
  refine ⟨v, mb, f, ?_, ?_, ⟨pa_up a1 hn, pa_up a2 hn, a3, fun q hq => ?_⟩, h4, h5, by omega, h7, h8⟩
  · rw [hH b lb (Or.inl rfl)]; exact h1
  · rw [hH v lv (Or.inr ⟨mb, h1⟩)]; exact h2
  · rcases hW q hq with h | h
    · obtain ⟨b1, b2, b3⟩ := a4 q h
      exact ⟨b1, b2, by omega⟩
    · omega
/-- a builder's own cells -/
def BC (H : Hp) (b : Nat) (l : Nat) : Nat → Prop := fun q => q = b ∨ ∃ mb : Int32, H b = some (.inr (7, [.ref q, .int 0, .int mb, .int (nI l)]))
theorem BC_lt {b : Nat} (hs : SB A W b H cap t n) {q : Nat} (h : BC H b t.length q) : q < n ∧ q ≠ n ∧ ¬ n ≤ q := by
  obtain ⟨v, mb, f, h1, h2, ⟨a1, a2, a3, a4⟩, h4, h5, h6, h7, h8⟩ := hs
  rcases h with h | ⟨mb', h⟩
  · subst h; have := pa_lt a1 h6; omega
  · rw [h1] at h
    have e := Sum.inr.inj (Option.some.inj h)
    have e2 : v = q := by
      have := (Prod.mk.inj e).2
      have := (List.cons.inj this).1
      exact Value.ref.inj this
    subst e2; have := pa_lt a2 h6; omega
theorem SB_n {b : Nat} (hs : SB A W b H cap t n) : A + 169 ≤ n ∧ 16 ≤ cap ∧ cap ≤ 120 := by
  obtain ⟨v, mb, f, h1, h2, h3, h4, h5, h6, h7, h8⟩ := hs
  exact ⟨h6, h7, h8⟩
theorem SB_Wlt {b : Nat} (hs : SB A W b H cap t n) {q : Nat} (h : W q) : q < n := by
  obtain ⟨v, mb, f, h1, h2, h3, h4, h5, h6, h7, h8⟩ := hs
  exact (h3.2.2.2 q h).2.2
/-- a text of its own: a constant and a number -/
theorem mk_o {b c0 g : Nat} {u : List Int32} (hgb : GB G) (hgs : GS G) (hd : DG G H A) (hgn : ∀ a, A ≤ a → G 2009 a = none) (hs : SB A W b H cap t n) (hc : TX G A W0 H c0 u) (hcl : u.length ≤ 2) (hg9 : g < 10 ^ 9) (hdl : (dg g).length ≤ 10) (d : Nat) : ∃ H1 H2 n2 r2 H3 n3 r3 H4 r4, call G (d + 5) 319 [.ref n] (wall (S A H m n r) (.inr (7, [.null, .int 0, .int 0, .int 0])) 4) = vV (S A H1 m (n + 2) (r + 20)) ∧ rcv (S A H1 m (n + 2) (r + 20)) n 7 = true ∧ call G (d + 5) 205 [.ref n, .ref c0] (S A H1 m (n + 2) (r + 20)) = vR n (S A H2 m n2 r2) ∧ rcv (S A H2 m n2 r2) n 7 = true ∧ call G (d + 5) 321 [.ref n, .int (nI g)] (S A H2 m n2 r2) = vR n (S A H3 m n3 r3) ∧ rcv (S A H3 m n3 r3) n 7 = true ∧ call G (d + 5) 206 [.ref n] (S A H3 m n3 r3) = vR n3 (S A H4 m (n3 + 2) r4) ∧ SB A (fun q => W q ∨ q = n3 ∨ q = n3 + 1) b H4 cap t (n3 + 2) ∧ TX G A (fun q => q = n3 ∨ q = n3 + 1) H4 n3 (u ++ dg g) ∧ KP A W H H4 ∧ n + 2 ≤ n3 ∧ n3 ≤ n + 120 ∧ r4 ≤ r + 320 := by
  obtain ⟨hn, hc1, hc2⟩ := SB_n hs
  obtain ⟨W', hW'⟩ : ∃ W' : Nat → Prop, W' = fun q => W q ∨ BC H b t.length q := ⟨_, rfl⟩
  have lW : ∀ q, W' q → q < n := by
    intro q hq
    rw [hW'] at hq
    rcases hq with h | h
    · exact SB_Wlt hs h
    · exact (BC_lt hs h).1
  obtain ⟨H1, e1, s1, k1⟩ := s319s (G := G) (A := A) (n := n) (r := r) (H := H) (m := m) (W := W') hgb hn lW (d + 4)
  have kk1 : KP A W' H H1 := fun q hq => k1 q (by rcases hq with h | h; omega; exact lW q h)
  have hx1 : TX G A W' H1 c0 u := TX_kp (TX_W hc fun q h => absurd h (fun z => z)) kk1
  obtain ⟨H2, n2, r2, c2, e2, s2, k2, g2⟩ := s205 (G := G) (m := m) (r := r + 20) hgb hgs s1 hx1 (by omega) (by rw [List.length_nil]; omega) (d + 1)
  rw [List.nil_append] at s2
  have kk2 := KP_trans kk1 k2
  obtain ⟨H3, n3, r3, c3, e3, s3, k3, g3⟩ := s321 (G := G) (m := m) (r := r2) hgb (DG_kp hd kk2) s2 hg9 (by omega) (d + 1)
  have kk3 := KP_trans kk2 k3
  have h7 : AS7 (u ++ dg g) := ASC_app hc.1.1 (ASC_dg (by omega))
  have hlen : (u ++ dg g).length ≤ 12 := by rw [List.length_append]; omega
  obtain ⟨H4, e4, x4, k4⟩ := s206 (G := G) (m := m) (r := r3) hgb hgn s3 h7 (by omega) d
  obtain ⟨-, -, hc3⟩ := SB_n s3
  obtain ⟨a1, a2, a3, a4, a5⟩ := GR_trans g2 g3
  have kk4 : KP A W' H H4 := fun q hq => by
    have hl : q < n := by rcases hq with h | h; omega; exact lW q h
    rw [k4 q (by omega)]; exact kk3 q hq
  refine ⟨H1, H2, n2, r2, H3, n3, r3, H4, r3 + 4 + (u ++ dg g).length, e1, SB_rc s1, e2, SB_rc s2, e3, SB_rc s3, e4, ?_, x4, ?_, by omega, by omega, by omega⟩
  · refine SB_new hs (by omega) (fun q hq h => kk4 q (Or.inr ?_)) (fun q hq => ?_)
    · rw [hW']; exact Or.inr h
    · rcases hq with h | h | h
      · exact Or.inl h
      · exact Or.inr ⟨by omega, by omega⟩
      · exact Or.inr ⟨by omega, by omega⟩
  · intro q hq
    refine kk4 q ?_
    rcases hq with h | h
    · exact Or.inl h
    · exact Or.inr (by rw [hW']; exact Or.inl h)
/-- a made text is put behind the builder's -/
theorem ap_o {b n3 : Nat} {u : List Int32} (hgb : GB G) (hgs : GS G) (hs : SB A (fun q => W q ∨ q = n3 ∨ q = n3 + 1) b H cap t n) (hx : TX G A (fun q => q = n3 ∨ q = n3 + 1) H n3 u) (hu : u.length ≤ 18) (hl : t.length + u.length ≤ 60) (d : Nat) : ∃ H' n' r' cap', call G (d + 5) 205 [.ref b, .ref n3] (S A H m n r) = vR b (S A H' m n' r') ∧ SB A W b H' cap' (t ++ u) n' ∧ KP A W H H' ∧ GR n r cap n' r' cap' := by
  obtain ⟨H', n', r', c', e, s, kk, g⟩ := s205 (G := G) (m := m) (r := r) hgb hgs hs (TX_W hx fun q h => Or.inr h) (by omega) hl (d + 1)
  refine ⟨H', n', r', c', e, SB_W s (fun q h => Or.inl h), fun q hq => kk q ?_, g⟩
  rcases hq with h | h
  · exact Or.inl h
  · exact Or.inr (Or.inl h)
/-- the output is as long as the text and reads the same -/
theorem s35 (hgb : GB G) (hgs : GS G) (hs : SB A W (ad A 11 9) H cap t n) {i c : Nat} (hi : i < t.length) (hc : c < 128) (hti : t.getD i 0 = nI c) (d : Nat) : call G (d + 6) 35 [.ref (ad A 11 0), .int (nI i)] (S A H m n r) = vI (nI c) (S A H m n r) := w35_v rcX0 (s93 hgb hgs hs hi hc hti d)
theorem s35c (hgb : GB G) (hgs : GS G) (hs : SB A W (ad A 11 9) H cap t n) {i c : Nat} (hi : i < t.length) (hc : c < 128) (hti : t.getD i 0 = nI c) (d : Nat) (K : Int32 → St → Res) : cI (call G (d + 6) 35 [.ref (ad A 11 0), .int (nI i)] (S A H m n r)) K = K (nI c) (S A H m n r) := congrArg (fun z => cI z K) (show call G (d + 6) 35 [.ref (ad A 11 0), .int (nI i)] (S A H m n r) = vI (nI c) (S A H m n r) from by apply s35 <;> assumption)
theorem s35n (hs : SB A W (ad A 11 9) H cap t n) {x : Int32} (h : inR x 0 (nI t.length - 1) = false) (d : Nat) : call G (d + 6) 35 [.ref (ad A 11 0), .int x] (S A H m n r) = vI (-11) (S A H m (n + 1) (r + 6)) := w35_x11 rcX0 (s93n hs h d)
theorem s35nc (hs : SB A W (ad A 11 9) H cap t n) {x : Int32} (h : inR x 0 (nI t.length - 1) = false) (d : Nat) (K : Int32 → St → Res) : cI (call G (d + 6) 35 [.ref (ad A 11 0), .int x] (S A H m n r)) K = K (-11) (S A H m (n + 1) (r + 6)) := congrArg (fun z => cI z K) (show call G (d + 6) 35 [.ref (ad A 11 0), .int x] (S A H m n r) = vI (-11) (S A H m (n + 1) (r + 6)) from by apply s35n <;> assumption)
theorem spl_lp {a : Nat} (hgb : GB G) (hgs : GS G) (hx : TX G A W H a t) (hs : SB A W (ad A 11 9) H cap t n) (x : Int32) (d : Nat) : ∀ u j, j + u = t.length → run G (d + 7) 194 17 [some (.ref (ad A 11 0)), some (.int x), some (.ref a), some (.int 1), some (.int (nI j))] [] (S A H m n r) = run G (d + 7) 194 57 [some (.ref (ad A 11 0)), some (.int x), some (.ref a), some (.int 1), some (.int (nI t.length))] [] (S A H m n r) := by
  obtain ⟨va, hr, -⟩ := TX_r hx m n r
  obtain ⟨h7, hlen⟩ := hx.1
  intro u
  induction u with
  | zero =>
    intro j hj
    have : j = t.length := by omega
    subst this
    rw [b194_17, if_pos hr.1, cI_of (s314t hgs hr (d + 5))]
    rw [if_pos (Int32.le_refl _)]
  | succ u ih =>
    intro j hj
    have hjl : j < t.length := by omega
    obtain ⟨c, hc, e⟩ := h7 j hjl
    rw [b194_17, if_pos hr.1, cI_of (s314t hgs hr (d + 5))]
    rw [if_neg (by rw [nI_leI (by omega) (by omega)]; omega), if_neg not1, cI_of (s35 hgb hgs hs hjl hc e d)]
    rw [if_pos hr.1, cI_of (s315t hgs hr h7 hlen hjl (d + 3))]
    rw [if_pos e.symm, b194_50, nI_1]
    exact ih (j + 1) (by omega)
theorem s194 {a : Nat} (hgb : GB G) (hgs : GS G) (hx : TX G A W H a t) (hs : SB A W (ad A 11 9) H cap t n) (d : Nat) : call G (d + 7) 194 [.ref (ad A 11 0), .int (nI t.length), .ref a] (S A H m n r) = vI 1 (S A H m (n + 1) (r + 6)) := by
  obtain ⟨va, hr, -⟩ := TX_r hx m n r
  have hlen := hx.1.2
  rw [b194_e, if_pos hr.1, cI_of (s314t hgs hr (d + 5))]
  rw [if_pos rfl, b194_13]
  have e := spl_lp (G := G) (m := m) (r := r) hgb hgs hx hs (nI t.length) d t.length 0 (by omega)
  have e0 : nI 0 = 0 := rfl
  rw [e0] at e
  rw [e, b194_57, if_neg not1, cI_of (s35n hs (inR_out (by omega)) d)]
  rw [if_pos rfl]; rfl
theorem s194c {a : Nat} (hgb : GB G) (hgs : GS G) (hx : TX G A W H a t) (hs : SB A W (ad A 11 9) H cap t n) (d : Nat) (K : Int32 → St → Res) : cI (call G (d + 7) 194 [.ref (ad A 11 0), .int (nI t.length), .ref a] (S A H m n r)) K = K 1 (S A H m (n + 1) (r + 6)) := congrArg (fun z => cI z K) (show call G (d + 7) 194 [.ref (ad A 11 0), .int (nI t.length), .ref a] (S A H m n r) = vI 1 (S A H m (n + 1) (r + 6)) from by apply s194 <;> assumption)
end
