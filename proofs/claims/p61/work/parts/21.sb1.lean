/-! THE STRING BUILDER over the picture: numbers; the class's output. -/
theorem dgF_fuel : ∀ (f g v : Nat), v < 10 ^ (f + 1) → f ≤ g → dgF g v = dgF f v := by
  intro f
  induction f with
  | zero =>
    intro g v hv _
    cases g with
    | zero => rfl
    | succ g =>
      show (if 9 < v then _ else _) = _
      rw [if_neg (by omega)]; rfl
  | succ f ih =>
    intro g v hv hg
    obtain ⟨g, rfl⟩ : ∃ g', g = g' + 1 := ⟨g - 1, by omega⟩
    rw [dgF, dgF]
    by_cases h : 9 < v
    · rw [if_pos h, if_pos h, ih g (v / 10) (by rw [Nat.pow_succ] at hv; exact Nat.div_lt_of_lt_mul (by omega)) (by omega)]
    · rw [if_neg h, if_neg h]
theorem dg_s {v : Nat} (h : 9 < v) (hv : v < 2 ^ 31) : dg v = dg (v / 10) ++ [nI (48 + v % 10)] := by
  unfold dg
  rw [show (9 : Nat) = 8 + 1 from rfl, dgF, if_pos (by omega), dgF_fuel 8 9 (v / 10) (by omega) (by omega)]
theorem dg_1 {v : Nat} (h : v ≤ 9) : dg v = [nI (48 + v)] := by
  unfold dg
  rw [show (9 : Nat) = 8 + 1 from rfl, dgF, if_neg (by omega), show v % 10 = v by omega]
theorem dg_ss {v : Nat} (h : 100 ≤ v) (hv : v < 2 ^ 31) : dg v = dg (v / 100) ++ [nI (48 + v % 100 / 10), nI (48 + v % 100 % 10)] := by
  rw [dg_s (by omega) hv, dg_s (v := v / 10) (by omega) (by omega), show v / 10 / 10 = v / 100 by omega, show v / 10 % 10 = v % 100 / 10 by omega, show v % 10 = v % 100 % 10 by omega, List.append_assoc]; rfl
theorem dg_2 {v : Nat} (h : 9 < v) (h2 : v < 100) : dg v = [nI (48 + v / 10), nI (48 + v % 10)] := by
  rw [dg_s h (by omega), dg_1 (by omega)]; rfl
theorem dg_pos (v : Nat) : 1 ≤ (dg v).length := dgF_pos 9 v
theorem dg_10 {v : Nat} (hv : v < 2 ^ 31) : (dg v).length ≤ 10 := dgF_len 9 v 10 (by omega) (by omega)
theorem dg_low {v i : Nat} (hv : v < 2 ^ 31) : (h : 10 ^ i ≤ v) → i < (dg v).length := by
  induction i generalizing v with
  | zero => intro _; exact dg_pos v
  | succ i ih =>
    intro h
    have h10 : 10 ≤ v := by
      have : 10 ^ 1 ≤ 10 ^ (i + 1) := Nat.pow_le_pow_right (by omega) (by omega)
      omega
    rw [dg_s (by omega) hv, List.length_append, List.length_singleton]
    have := ih (v := v / 10) (by omega) (by rw [Nat.pow_succ] at h; exact (Nat.le_div_iff_mul_le (by omega)).mpr h)
    omega
theorem dg_len {v i : Nat} (hv : v < 2 ^ 31) (h : v < 10 ^ (i + 1)) (h2 : i = 0 ∨ 10 ^ i ≤ v) : (dg v).length = i + 1 := by
  have a := dgF_len 9 v (i + 1) h (by omega)
  have b : i < (dg v).length := by
    rcases h2 with h2 | h2
    · subst h2; exact dg_pos v
    · exact dg_low hv h2
  have : (dg v).length ≤ i + 1 := a
  omega
theorem dg_asc {v : Nat} : ∀ {j : Nat}, v < 2 ^ 31 → j < (dg v).length → ∃ c, c < 128 ∧ (dg v).getD j 0 = nI c := by
  suffices ∀ f v, ∀ x, x ∈ dgF f v → ∃ c, c < 128 ∧ x = nI c by
    intro j _ hj
    rw [List.getD_eq_getElem?_getD, List.getElem?_eq_getElem hj]
    exact this 9 v _ (List.getElem_mem hj)
  intro f
  induction f with
  | zero => intro v x hx; rw [dgF, List.mem_singleton] at hx; exact ⟨_, by omega, hx⟩
  | succ f ih =>
    intro v x hx
    rw [dgF] at hx
    split at hx
    · rw [List.mem_append, List.mem_singleton] at hx
      rcases hx with hx | hx
      · exact ih _ x hx
      · exact ⟨_, by omega, hx⟩
    · rw [List.mem_singleton] at hx; exact ⟨_, by omega, hx⟩
/-- the digits' tables -/
def DG (G : Glb) (H : Hp) (A : Nat) : Prop := (∃ a fl, a < A ∧ G 10 83 = some (.ref a) ∧ AK (H a) .byte fl 100 (fun i => .int (nI (48 + i % 10)))) ∧ ∃ a fl, a < A ∧ G 10 87 = some (.ref a) ∧ AK (H a) .byte fl 100 (fun i => .int (nI (48 + i / 10)))
def wrD (f : Nat → Int32) (c : Nat) (l : List Int32) : Nat → Int32 := fun j => if c ≤ j ∧ j < c + l.length then l.getD (j - c) 0 else f j
theorem wrD_nil (f : Nat → Int32) (c : Nat) : wrD f c [] = f := by
  funext j; unfold wrD; rw [if_neg (by simp only [List.length_nil]; omega)]
theorem wrD_snoc (f : Nat → Int32) (c : Nat) (l : List Int32) (x : Int32) : wrD (fun j => if j = c + l.length then x else f j) c l = wrD f c (l ++ [x]) := by
  funext j
  unfold wrD
  rw [List.length_append, List.length_singleton]
  by_cases h1 : c ≤ j ∧ j < c + l.length
  · rw [if_pos h1, if_pos (by omega), List.getD_eq_getElem?_getD, List.getD_eq_getElem?_getD, List.getElem?_append_left (by omega)]
  · rw [if_neg h1]
    by_cases h2 : j = c + l.length
    · show (if j = c + l.length then x else f j) = _
      rw [if_pos h2, if_pos (by omega), List.getD_eq_getElem?_getD, List.getElem?_append_right (by omega), show j - c - l.length = 0 by omega]; rfl
    · show (if j = c + l.length then x else f j) = _
      rw [if_neg h2, if_neg (by omega)]
section
variable {G : Glb} {A n r cap b : Nat} {W : Nat → Prop} {H : Hp} {m : Mm} {t : List Int32}
theorem dgA {a i : Nat} {fl : Bool} {g : Nat → Int32} (h1 : a < A) (h2 : AK (H a) .byte fl 100 (fun i => .int (g i))) (hi : i < 100) : aI (S A H m n r) okB a (nI i) = some (g i) := by
  unfold aI; rw [AK_v h1 h2 rfl hi (by omega)]
theorem s311 (hd : DG G H A) {v c w : Nat} {f : Nat → Int32} (hw : FR A w) (hwA : A ≤ w) (hc : H w = some (ar .byte cap f)) (hcap : cap < 2 ^ 31) (hv : v < 2 ^ 31) (hl : c + (dg v).length ≤ cap) (d : Nat) : call G d 311 [.int (nI v), .int (nI (c + (dg v).length)), .ref w] (S A H m n r) = vI (nI c) (S A (hset H w (ar .byte cap (wrD f c (dg v)))) m n r) := by
  obtain ⟨⟨a1, fl1, ha1, hg1, hh1⟩, a2, fl2, ha2, hg2, hh2⟩ := hd
  have dec : ∀ x : Nat, nI (x + 1) + (-1) = nI x := fun x => by rw [← Int32.sub_eq_add_neg, nI_pred]
  have low : ∀ c, c < 100 → nI (48 + c % 10) = nI (48 + c % 10) := fun _ _ => rfl
  have hh1' : ∀ F, AK (hset H w (ar .byte cap F) a1) .byte fl1 100 (fun i => .int (nI (48 + i % 10))) := fun F => by rw [hset_ne (by omega)]; exact hh1
  have hh2' : ∀ F, AK (hset H w (ar .byte cap F) a2) .byte fl2 100 (fun i => .int (nI (48 + i / 10))) := fun F => by rw [hset_ne (by omega)]; exact hh2
  have lp : ∀ (k v : Nat) (F : Nat → Int32) o1 o3 o4, v < 100 ^ (k + 1) → v < 2 ^ 31 → c + (dg v).length ≤ cap → run G d 311 22 [some (.int (-nI v)), o1, some (.ref w), o3, o4, some (.int (nI (c + (dg v).length))), some (.int 0)] [] (S A (hset H w (ar .byte cap F)) m n r) = vI (nI c) (S A (hset H w (ar .byte cap (wrD F c (dg v)))) m n r) := by
    intro k
    induction k with
    | zero =>
      intro v F o1 o3 o4 hk hv hl
      have h100 : (-100 : Int32) < -nI v := by rw [show (-100 : Int32) = -nI 100 from rfl, neg_lt (by omega) (by omega)]; omega
      rw [b311_22, if_pos h100, hg1]
      by_cases h9 : v ≤ 9
      · have e9 : (-9 : Int32) ≤ -nI v := by rw [show (-9 : Int32) = -nI 9 from rfl, neg_le (by omega) (by omega)]; omega
        rw [dg_1 h9] at hl ⊢
        simp only [List.length_singleton] at hl ⊢
        simp only [gR_sm]
        rw [neg_neg', dgA ha1 (hh1' F) (by omega), dec]
        show ((aW _ okB w (nI c) (.int (nI (48 + v % 10)))).bind _) = _
        rw [xaW hw (hset_at ..) rfl (by omega) hcap rfl, hset_hset]
        show (if (-9 : Int32) ≤ -nI v then _ else _) = _
        rw [if_pos e9, b311_104, if_pos rfl]
        have e : (fun j => if j = c then nI (48 + v % 10) else F j) = wrD F c [nI (48 + v)] := by
          have := wrD_snoc F c [] (nI (48 + v))
          rw [wrD_nil] at this
          rw [show v % 10 = v by omega]
          simpa using this
        rw [e]; rfl
      · have e9 : ¬ (-9 : Int32) ≤ -nI v := by rw [show (-9 : Int32) = -nI 9 from rfl, neg_le (by omega) (by omega)]; omega
        have hv1 : v < 100 := by simpa using hk
        rw [dg_2 (by omega) hv1] at hl ⊢
        rw [show [nI (48 + v / 10), nI (48 + v % 10)].length = 2 from rfl] at hl ⊢
        simp only [gR_sm]
        rw [neg_neg', dgA ha1 (hh1' F) hv1, show c + 2 = c + 1 + 1 from rfl, dec, dec]
        show ((aW _ okB w (nI (c + 1)) (.int (nI (48 + v % 10)))).bind _) = _
        rw [xaW hw (hset_at ..) rfl (by omega) hcap rfl, hset_hset]
        show (if (-9 : Int32) ≤ -nI v then _ else _) = _
        rw [if_neg e9, hg2]
        simp only [gR_sm]
        rw [dgA ha2 (hh2' _) hv1]
        show ((aW _ okB w (nI c) (.int (nI (48 + v / 10)))).bind _) = _
        rw [xaW hw (hset_at ..) rfl (by omega) hcap rfl, hset_hset]
        show run G d 311 104 _ [] _ = _
        rw [b311_104, if_pos rfl]
        have e : (fun j => if j = c then nI (48 + v / 10) else if j = c + 1 then nI (48 + v % 10) else F j) = wrD F c [nI (48 + v / 10), nI (48 + v % 10)] := by
          have h1 := wrD_snoc F c [nI (48 + v / 10)] (nI (48 + v % 10))
          rw [List.length_singleton] at h1
          have h2 := wrD_snoc (fun j => if j = c + 1 then nI (48 + v % 10) else F j) c [] (nI (48 + v / 10))
          rw [wrD_nil] at h2
          simp only [List.length_nil, Nat.add_zero, List.nil_append] at h2
          rw [h2, h1]; rfl
        rw [e]; rfl
    | succ k ih =>
      intro v F o1 o3 o4 hk hv hl
      by_cases h100 : v < 100
      · have h100' : (-100 : Int32) < -nI v := by rw [show (-100 : Int32) = -nI 100 from rfl, neg_lt (by omega) (by omega)]; omega
        rw [b311_22, if_pos h100', hg1]
        by_cases h9 : v ≤ 9
        · have e9 : (-9 : Int32) ≤ -nI v := by rw [show (-9 : Int32) = -nI 9 from rfl, neg_le (by omega) (by omega)]; omega
          rw [dg_1 h9] at hl ⊢
          simp only [List.length_singleton] at hl ⊢
          simp only [gR_sm]
          rw [neg_neg', dgA ha1 (hh1' F) (by omega), dec]
          show ((aW _ okB w (nI c) (.int (nI (48 + v % 10)))).bind _) = _
          rw [xaW hw (hset_at ..) rfl (by omega) hcap rfl, hset_hset]
          show (if (-9 : Int32) ≤ -nI v then _ else _) = _
          rw [if_pos e9, b311_104, if_pos rfl]
          have e : (fun j => if j = c then nI (48 + v % 10) else F j) = wrD F c [nI (48 + v)] := by
            have := wrD_snoc F c [] (nI (48 + v))
            rw [wrD_nil] at this
            rw [show v % 10 = v by omega]
            simpa using this
          rw [e]; rfl
        · have e9 : ¬ (-9 : Int32) ≤ -nI v := by rw [show (-9 : Int32) = -nI 9 from rfl, neg_le (by omega) (by omega)]; omega
          rw [dg_2 (by omega) h100] at hl ⊢
          rw [show [nI (48 + v / 10), nI (48 + v % 10)].length = 2 from rfl] at hl ⊢
          simp only [gR_sm]
          rw [neg_neg', dgA ha1 (hh1' F) h100, show c + 2 = c + 1 + 1 from rfl, dec, dec]
          show ((aW _ okB w (nI (c + 1)) (.int (nI (48 + v % 10)))).bind _) = _
          rw [xaW hw (hset_at ..) rfl (by omega) hcap rfl, hset_hset]
          show (if (-9 : Int32) ≤ -nI v then _ else _) = _
          rw [if_neg e9, hg2]
          simp only [gR_sm]
          rw [dgA ha2 (hh2' _) h100]
          show ((aW _ okB w (nI c) (.int (nI (48 + v / 10)))).bind _) = _
          rw [xaW hw (hset_at ..) rfl (by omega) hcap rfl, hset_hset]
          show run G d 311 104 _ [] _ = _
          rw [b311_104, if_pos rfl]
          have e : (fun j => if j = c then nI (48 + v / 10) else if j = c + 1 then nI (48 + v % 10) else F j) = wrD F c [nI (48 + v / 10), nI (48 + v % 10)] := by
            have h1 := wrD_snoc F c [nI (48 + v / 10)] (nI (48 + v % 10))
            rw [List.length_singleton] at h1
            have h2 := wrD_snoc (fun j => if j = c + 1 then nI (48 + v % 10) else F j) c [] (nI (48 + v / 10))
            rw [wrD_nil] at h2
            simp only [List.length_nil, Nat.add_zero, List.nil_append] at h2
            rw [h2, h1]; rfl
          rw [e]; rfl
      · have h100' : ¬ (-100 : Int32) < -nI v := by rw [show (-100 : Int32) = -nI 100 from rfl, neg_lt (by omega) (by omega)]; omega
        have eL : (dg v).length = (dg (v / 100)).length + 2 := by rw [dg_ss (by omega) hv, List.length_append]; rfl
        have hk2 : v / 100 < 100 ^ (k + 1) := by
          rw [Nat.pow_succ] at hk
          exact Nat.div_lt_of_lt_mul (by omega)
        have ih' := fun F o1 o3 o4 => ih (v / 100) F o1 o3 o4 hk2 (by omega) (by omega)
        rw [b311_22, if_neg h100', hg1]
        simp only [gR_sm]
        rw [neg_div100 hv, neg_rem hv, dgA ha1 (hh1' F) (Nat.mod_lt _ (by omega)), eL, show c + ((dg (v / 100)).length + 2) = c + (dg (v / 100)).length + 1 + 1 by omega, dec, dec]
        show ((aW _ okB w (nI (c + (dg (v / 100)).length + 1)) (.int (nI (48 + v % 100 % 10)))).bind _) = _
        rw [xaW hw (hset_at ..) rfl (by omega) hcap rfl, hset_hset]
        show gR (G 10 87) _ = _
        rw [hg2]
        simp only [gR_sm]
        rw [dgA ha2 (hh2' _) (Nat.mod_lt _ (by omega))]
        show ((aW _ okB w (nI (c + (dg (v / 100)).length)) (.int (nI (48 + v % 100 / 10)))).bind _) = _
        rw [xaW hw (hset_at ..) rfl (by omega) hcap rfl, hset_hset]
        show run G d 311 22 _ [] _ = _
        rw [ih']
        congr 4
        rw [dg_ss (by omega) hv]
        rw [show dg (v / 100) ++ [nI (48 + v % 100 / 10), nI (48 + v % 100 % 10)] = (dg (v / 100) ++ [nI (48 + v % 100 / 10)]) ++ [nI (48 + v % 100 % 10)] by rw [List.append_assoc]; rfl]
        rw [← wrD_snoc, ← wrD_snoc, List.length_append, List.length_singleton, Nat.add_assoc]
  have h0 := lp 5 v f (some (.int (nI (c + (dg v).length)))) none none (by omega) hv hl
  have eh : hset H w (ar .byte cap f) = H := by
    funext x; unfold hset; by_cases h : x = w
    · rw [if_pos h, h, hc]
    · rw [if_neg h]
  rw [eh] at h0
  rw [b311_e, if_pos (nI_pos' hv), b311_12, if_pos rfl]
  exact h0
theorem s311c (hd : DG G H A) {v c w : Nat} {f : Nat → Int32} (hw : FR A w) (hwA : A ≤ w) (hc : H w = some (ar .byte cap f)) (hcap : cap < 2 ^ 31) (hv : v < 2 ^ 31) (hl : c + (dg v).length ≤ cap) (d : Nat) (K : Int32 → St → Res) : cI (call G d 311 [.int (nI v), .int (nI (c + (dg v).length)), .ref w] (S A H m n r)) K = K (nI c) (S A (hset H w (ar .byte cap (wrD f c (dg v)))) m n r) := congrArg (fun z => cI z K) (show call G d 311 [.int (nI v), .int (nI (c + (dg v).length)), .ref w] (S A H m n r) = vI (nI c) (S A (hset H w (ar .byte cap (wrD f c (dg v)))) m n r) from by apply s311 <;> assumption)
theorem s312 {v : Nat} (hv : v < 10 ^ 9) (d : Nat) (σ : St) : call G d 312 [.int (nI v)] σ = vI (nI (dg v).length) σ := by
  have lp : ∀ k i, i + k = 9 → (i = 0 ∨ 10 ^ i ≤ v) → run G d 312 16 [some (.int (-nI v)), some (.int 0), some (.int (-nI (10 ^ (i + 1)))), some (.int (nI (i + 1)))] [] σ = vI (nI (dg v).length) σ := by
    intro k
    induction k with
    | zero =>
      intro i hi h
      have : i = 9 := by omega
      subst this
      rcases h with h | h
      · omega
      · omega
    | succ k ih =>
      intro i hi h
      have h10 : ¬ (10 : Int32) ≤ nI (i + 1) := by rw [show (10 : Int32) = nI 10 from rfl, nI_leI (by omega) (by omega)]; omega
      have hp : 10 ^ (i + 1) ≤ 10 ^ 9 := Nat.pow_le_pow_right (by omega) (by omega)
      rw [b312_16, if_neg h10]
      by_cases hc : 10 ^ (i + 1) ≤ v
      · have e : -nI v ≤ -nI (10 ^ (i + 1)) := (neg_le (by omega) (by omega)).mpr hc
        rw [if_pos e]
        by_cases h9 : i + 1 = 9
        · rw [h9] at hc; omega
        · have ih' := ih (i + 1) (by omega) (Or.inr hc)
          have em : (10 : Int32) * -nI (10 ^ (i + 1)) = -nI (10 ^ (i + 1 + 1)) := by
            have : nI (10 ^ (i + 1 + 1)) = nI (10 ^ (i + 1)) * 10 := by
              rw [Nat.pow_succ 10 (i + 1)]; unfold nI; rw [Int32.ofNat_mul]; rfl
            rw [this]; grind
          rw [em, nI_1]
          exact ih'
      · have e : ¬ -nI v ≤ -nI (10 ^ (i + 1)) := fun h => hc ((neg_le (by omega) (by omega)).mp h)
        rw [if_neg e, dg_len (i := i) (by omega) (by omega) h, Int32.add_zero]; rfl
  rw [b312_e, if_neg (nI_pos (by omega)), b312_11]
  exact lp 9 0 (by omega) (Or.inl rfl)
/-- a number is put behind the text -/
theorem s312c {v : Nat} (hv : v < 10 ^ 9) (d : Nat) (σ : St) (K : Int32 → St → Res) : cI (call G d 312 [.int (nI v)] σ) K = K (nI (dg v).length) σ := congrArg (fun z => cI z K) (show call G d 312 [.int (nI v)] σ = vI (nI (dg v).length) σ from by apply s312 <;> assumption)
theorem s321 (hg : GB G) (hd : DG G H A) (hs : SB A W b H cap t n) {v : Nat} (hv : v < 10 ^ 9) (hl : t.length + (dg v).length ≤ 60) (d : Nat) : ∃ H' n' r' cap', call G (d + 4) 321 [.ref b, .int (nI v)] (S A H m n r) = vR b (S A H' m n' r') ∧ SB A W b H' cap' (t ++ dg v) n' ∧ KP A W H H' ∧ GR n r cap n' r' cap' := by
  have hd10 := dg_10 (v := v) (by omega)
  obtain ⟨H1, n1, r1, c1, e1, s1, k1, p1, g1⟩ := s303 (G := G) (m := m) (r := r) hs (k := t.length + (dg v).length) hl (by omega) d
  have hr0 := SB_rc (m := m) (r := r) hs
  have hr1 := SB_rc (m := m) (r := r1) s1
  have e309 := s309 (G := G) (m := m) (r := r1) hg s1 (d + 2)
  have e312 := s312 (G := G) hv (d + 2) (S A H m n r)
  have hd1 : DG G H1 A := by
    obtain ⟨⟨a1, fl1, ha1, hg1, hh1⟩, a2, fl2, ha2, hg2, hh2⟩ := hd
    exact ⟨⟨a1, fl1, ha1, hg1, by rw [p1 a1 (Or.inl ha1)]; exact hh1⟩, a2, fl2, ha2, hg2, by rw [p1 a2 (Or.inl ha2)]; exact hh2⟩
  obtain ⟨v0, mb0, f0, h01, h02, h03, _⟩ := hs
  obtain ⟨w, mb, f, h1, h2, h3, h4, h5, h6, h7, h8⟩ := s1
  have hwA : A ≤ w := pa_A h3.2.1
  have e311 := s311 (G := G) (m := m) (n := n1) (r := r1) hd1 (FR_v h3) hwA h2 (by omega) (v := v) (c := t.length) (by omega) k1 (d + 2)
  rw [b321_e, if_pos hr0, b308_e, xfI (FR_b h03) h01 rfl]
  show ∃ H' n' r' cap', (cR (cI (call G (d + 2) 312 [.int (nI v)] _) _) _ = _) ∧ _
  rw [e312]
  simp only [vI_def, cI_ok]
  rw [if_pos hr0, nI_add, e1]
  simp only [vV_def, cV_ok]
  rw [if_pos hr1, e309]
  simp only [vI_def, cI_ok]
  rw [if_neg not1, xfR (FR_b h3) h1 rfl]
  show ∃ H' n' r' cap', (cR (cI (call G (d + 2) 311 [.int (nI v), .int (nI (t.length + (dg v).length)), .ref w] _) _) _ = _) ∧ _
  rw [e311]
  simp only [vI_def, cI_ok]
  have h1' : hset H1 w (ar .byte c1 (wrD f t.length (dg v))) b = some (.inr (7, [.ref w, .int 0, .int mb, .int (nI t.length)])) := by rw [hset_ne (Ne.symm (v_ne9 h3))]; exact h1
  rw [xfW (FR_b h3) h1' (by simp)]
  refine ⟨_, n1, r1, c1, rfl, ⟨w, mb, wrD f t.length (dg v), ?_, ?_, h3, ?_, ?_, h6, h7, h8⟩, ?_, g1⟩
  · rw [hset_at, List.length_append]; rfl
  · rw [hset_ne (v_ne9 h3), hset_at]
  · rw [List.length_append]; exact k1
  · intro i hi
    rw [List.length_append] at hi
    unfold wrD
    rw [show (t ++ dg v).getD i 0 = ((t ++ dg v)[i]?).getD 0 from List.getD_eq_getElem?_getD .., List.getElem?_append]
    by_cases e : i < t.length
    · rw [if_neg (by omega), if_pos e, h5 i e, List.getD_eq_getElem?_getD]
    · rw [if_pos (by omega), if_neg e, List.getD_eq_getElem?_getD]
  · exact KP_trans p1 (KP_trans (KP_set (ou_v h3) _ _) (KP_set (ou_b h3) _ _))
end
