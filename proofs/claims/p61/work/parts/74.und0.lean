/-! THE LAW'S FIFTH CHECK: undone. -/
theorem lg_self (x : Int64) : lg_cmp x x = 0 := by
  unfold lg_cmp
  rw [if_neg (Int64.lt_irrefl (a := x)), if_pos rfl]
theorem u_nI (w : UInt32) : w.toInt32 = nI w.toNat := by
  apply Int32.toBitVec_inj.mp
  show w.toBitVec = BitVec.ofNat 32 w.toBitVec.toNat
  apply BitVec.eq_of_toNat_eq
  rw [BitVec.toNat_ofNat]
  exact (Nat.mod_eq_of_lt w.toBitVec.isLt).symm
theorem ush_nn (x : Int32) (c : UInt32) (h : 1 ≤ c.toNat % 32) : ∃ y, y < 2 ^ 31 ∧ (x.toUInt32 >>> c).toInt32 = nI y := by
  refine ⟨(x.toUInt32 >>> c).toNat, ?_, u_nI _⟩
  rw [UInt32.toNat_shiftRight, Nat.shiftRight_eq_div_pow]
  have h1 : x.toUInt32.toNat < 2 ^ 32 := x.toUInt32.toBitVec.isLt
  have h2 : 2 ^ 1 ≤ 2 ^ (c.toNat % 32) := Nat.pow_le_pow_right (by decide) h
  refine (Nat.div_lt_iff_lt_mul (by omega)).mpr ?_
  have h3 : 2 ^ 31 * 2 ^ 1 ≤ 2 ^ 31 * 2 ^ (c.toNat % 32) := Nat.mul_le_mul_left _ h2
  omega
theorem nI_rm {v b : Nat} (hv : v < 2 ^ 31) (hb : 0 < b) (hb2 : b < 2 ^ 31) : nI v - nI v / nI b * nI b = nI (v % b) := by
  rw [show nI v / nI b = nI (v / b) from pk_div hv hb hb2]
  have e : nI (v / b) * nI b = nI (v / b * b) := by unfold nI; rw [Int32.ofNat_mul]
  rw [e, nI_sub (Nat.div_mul_le_self v b)]
  congr 1
  have := Nat.div_add_mod v b
  rw [Nat.mul_comm] at this
  omega
def SC (A : Nat) (H0 : Hp) (a0 N : Nat) (f : Nat → Int32) : Prop := a0 < A ∧ N ≤ 2560 ∧ ∃ fl, H0 a0 = some (.inl (.int, fl, (List.range N).map fun i => .int (f i)))
theorem SC_kp {A : Nat} {W : Nat → Prop} {H H' : Hp} {a0 N : Nat} {f : Nat → Int32} (h : SC A H a0 N f) (hk : KP A W H H') : SC A H' a0 N f := by
  obtain ⟨h1, h2, fl, h3⟩ := h
  exact ⟨h1, h2, fl, by rw [hk a0 (Or.inl h1)]; exact h3⟩
theorem SC_c {G : Glb} {A n r : Nat} {H : Hp} {m : Mm} {a0 N : Nat} {f : Nat → Int32} (h : SC A H a0 N f) (j d : Nat) (hj : j < 100) : call G d 1 [.ref a0, .int (nI j)] (S A H m n r) = vI (if N ≤ j then 40503 * nI j else f j) (S A H m n r) := by
  obtain ⟨h1, h2, fl, h3⟩ := h
  have hAK : AK (H a0) .int fl N (fun i => .int (f i)) := ⟨_, h3, by rw [List.length_map, List.length_range]; rfl, fun i hi => by rw [List.getElem?_map, List.getElem?_range hi]; rfl⟩
  rw [b1_e, AK_n h1 hAK]
  show (if nI N ≤ nI j then _ else _) = _
  by_cases hN : N ≤ j
  · rw [if_pos ((nI_leI (by omega) (by omega)).mpr hN), if_pos hN]; rfl
  · rw [if_neg (fun z => hN ((nI_leI (by omega) (by omega)).mp z)), if_neg hN]
    have e : aI (S A H m n r) okI a0 (nI j) = some (f j) := by
      unfold aI
      rw [AK_v h1 hAK (ok := okI) rfl (by omega) (by omega)]
    rw [e]; rfl
/-- the sums, as they are kept -/
def LAr (H : Hp) (w : Nat) (Bt : Nat → Bd) (dn : Nat) : Prop := ∃ L : List Value, H w = some (.inl (.long, true, L)) ∧ L.length = 9 ∧ ∀ t, t < dn → L[t]? = some (.long (sumB (Bt t)))
def RB (Bt : Nat → Bd) (dn C : Nat) : Prop := ∀ t, t < dn → ∃ s, RE (Bt t) s C
def exB (Bt : Nat → Bd) (dn : Nat) (B : Bd) : Nat → Bd := fun t => if t = dn then B else Bt t
theorem HI_ex {mm : Mm} {dn : Nat} {Bt : Nat → Bd} (h : HIS mm dn Bt) (B : Bd) : HIS mm dn (exB Bt dn B) := by
  obtain ⟨u, a1, a2, a3, a4, a5, a6⟩ := h
  refine ⟨u, a1, a2, a3, a4, a5, fun t ht => ?_⟩
  have : exB Bt dn B t = Bt t := if_neg (by omega)
  rw [this]; exact a6 t ht
theorem JT_ex {mm : Mm} {C dn : Nat} {Bt : Nat → Bd} (h : JT mm C dn Bt) (B : Bd) : JT mm C dn (exB Bt dn B) := ⟨h.1, HI_ex h.2.1 B, h.2.2⟩
section
variable {G : Glb} {A n r C dn w : Nat} {W : Nat → Prop} {H : Hp} {mm : Mm} {Bt : Nat → Bd} {fl kd : Nat → Nat}
theorem JT_sum (hJ : JT mm C dn Bt) (d n r : Nat) : ∃ n' r', n ≤ n' ∧ n' ≤ n + 10 ∧ r' ≤ r + 60 ∧ call G (d + 6) 196 [.ref (ad A 11 0)] (S A H mm n r) = some (.inl (some (.long (sumB (mm 0)))), S A H mm n' r') := by
  obtain ⟨s, k, p, g, u, cp, cb, hn, hk, hp, hq, hv, hu, hu8, hh, hid⟩ := JT_get hJ
  exact s196 (CF_f cp) hn hk hp hq d n r
theorem LA_w (hw : FR A w) (h : LAr H w Bt dn) (hd : dn < 9) (B : Bd) : ∃ H', aW (S A H mm n r) (fun t => t == .long) w (nI dn) (.long (sumB B)) = some (S A H' mm n r) ∧ LAr H' w (exB Bt dn B) (dn + 1) ∧ ∀ q, q ≠ w → H' q = H q := by
  obtain ⟨L, h1, h2, h3⟩ := h
  refine ⟨hset H w (.inl (.long, true, L.set dn (.long (sumB B)))), ?_, ⟨_, hset_at .., by rw [List.length_set]; exact h2, fun t ht => ?_⟩, fun q hq => hset_ne hq⟩
  · unfold aW
    rw [S_fr hw, h1]
    show (if ((FieldType.long == .long) = true ∧ ¬ nI dn < 0 ∧ (nI dn).toNatClampNeg < L.length) then some (wset (S A H mm n r) w (.inl (.long, true, L.set (nI dn).toNatClampNeg (narrow .long (.long (sumB B)))))) else none) = _
    rw [nI_clamp (by omega), if_pos ⟨rfl, nI_pos (by omega), by omega⟩]
    exact congrArg some (S_frw (A := A) hw H mm n r _)
  · by_cases e : t = dn
    · subst e
      rw [List.getElem?_set_self (by omega)]
      have : exB Bt t B t = B := if_pos rfl
      rw [this]
    · have : exB Bt dn B t = Bt t := if_neg e
      rw [List.getElem?_set_ne (by omega), this]
      exact h3 t (by omega)
theorem LA_r (hw : FR A w) (h : LAr H w Bt dn) {t : Nat} (ht : t < dn) (hd : dn ≤ 9) : aJ (S A H mm n r) w (nI t) = some (sumB (Bt t)) := by
  obtain ⟨L, h1, h2, h3⟩ := h
  unfold aJ aV aL
  rw [S_fr hw, h1]
  show (match (if nI t < 0 then none else L[(nI t).toNatClampNeg]?) with
    | some (.long x) => some x
    | _ => none) = _
  rw [if_neg (nI_pos (by omega)), nI_clamp (by omega), h3 t ht]
theorem LA_kp {H' : Hp} (h : LAr H w Bt dn) (hk : KP A (fun q => q = w) H H') : LAr H' w Bt dn := by
  obtain ⟨L, h1, h2, h3⟩ := h
  exact ⟨L, by rw [hk w (Or.inr rfl)]; exact h1, h2, h3⟩
theorem LA_le {dn' : Nat} (h : LAr H w Bt dn) (hd : dn' ≤ dn) : LAr H w Bt dn' := by
  obtain ⟨L, h1, h2, h3⟩ := h
  exact ⟨L, h1, h2, fun t ht => h3 t (by omega)⟩
/-- where a turn ends -/
def UND (G : Glb) (A : Nat) (H : Hp) (n r C dn w a0 i d e f : Nat) (F : Res) : Prop := ∃ dn' Bt' mm' H' n' r' o5 o6 o7, F = run G (d + 12) 197 10 [some (.ref a0), some (.ref (ad A 11 0)), some (.ref w), some (.int (nI dn')), some (.int (nI (i + 1))), o5, o6, o7] [] (S A H' mm' n' r') ∧ dn' ≤ dn + 1 ∧ JT mm' (C + 5940) dn' Bt' ∧ RB Bt' dn' (C + 5940) ∧ LAr H' w Bt' dn' ∧ KP A W0 H H' ∧ n ≤ n' ∧ n' ≤ n + e ∧ r' ≤ r + f
theorem RB_le {C' : Nat} (h : RB Bt dn C) (hC : C ≤ C') : RB Bt dn C' := fun t ht => by
  obtain ⟨s, hs⟩ := h t ht
  exact ⟨s, RE_le hs hC⟩
theorem JT_eb {mm' : Mm} {dn' : Nat} {Bt' : Nat → Bd} (hJ : JT mm C dn Bt) (_ : JT mm' C dn' Bt') (h : EB (mm' 0) (mm 0)) : sumB (mm' 0) = sumB (mm 0) := by
  obtain ⟨s, k, p, g, u, cp, cb, hn, hk, hp, hq, hv, hu, hu8, hh, hid⟩ := JT_get hJ
  exact (sumB_EB (EB_symm h) hn hk hp hq).symm
/-- behind a change -/
theorem und_t (hw : FR A w) (hJ : JT mm C dn Bt) (hB : Bt dn = mm 0) (hRB : RB Bt dn C) (hLA : LAr H w Bt (dn + 1)) (hd7 : dn ≤ 7) {F : Res} (hS : STEP A (fun q => q = w) H mm n r C dn Bt F) (a0 i d : Nat) (hi : i < 100) (o5 : Option Value) (x6 : Int32) : UND G A H n r C dn w a0 i d 410 1560 (cI F fun v1 s1 => run G (d + 12) 197 396 [some (.ref a0), some (.ref (ad A 11 0)), some (.ref w), some (.int (nI dn)), some (.int (nI i)), o5, some (.int x6), some (.int v1)] [] s1) := by
  obtain ⟨v, mm', H', n', r', e, hK, a1, a2, a3, h⟩ := hS
  have hLA' := LA_kp hLA hK
  have hK0 : KP A W0 H H' := fun q hq => hK q (by rcases hq with h | h; exact Or.inl h; exact absurd h (fun z => z))
  rw [cI_of e]
  rcases h with ⟨hv, hJ', hEB⟩ | ⟨hv, hJ'⟩
  · obtain ⟨n2, r2, b1, b2, b3, e2⟩ := JT_sum (G := G) (A := A) (H := H') hJ' (d + 5) n' r'
    have hnle : ¬ 0 ≤ v := fun z => Int32.not_lt.mpr z hv
    refine ⟨dn, Bt, mm', H', n2, r2, o5, some (.int x6), some (.int v), ?_, by omega, JT_le hJ' (by omega), RB_le hRB (by omega), LA_le hLA' (by omega), hK0, by omega, by omega, by omega⟩
    rw [b197_396, if_neg hnle, cJ_of e2, LA_r hw hLA' (Nat.lt_succ_self dn) (by omega), hB, JT_eb hJ hJ' hEB]
    show (if lg_cmp (sumB (mm 0)) (sumB (mm 0)) = 0 then _ else _) = _
    rw [if_pos (lg_self _), b197_414, if_neg hnle, b197_425, Int32.add_zero, nI_1]
  · have hle : 0 ≤ v := Int32.not_lt.mp hv
    refine ⟨dn + 1, Bt, mm', H', n', r', o5, some (.int x6), some (.int v), ?_, Nat.le_refl _, hJ', ?_, hLA', hK0, by omega, by omega, by omega⟩
    · rw [b197_396, if_pos hle, b197_414, if_pos hle, b197_425, nI_1, nI_1]
    · intro t ht
      by_cases e9 : t = dn
      · rw [e9, hB]
        obtain ⟨s, hs⟩ := hJ.1
        exact ⟨s, RE_le hs (by omega)⟩
      · obtain ⟨s, hs⟩ := hRB t (by omega)
        exact ⟨s, RE_le hs (by omega)⟩
theorem sw13 {x : Int32} {K : Nat → Res} {P : Res → Prop} (h : ∀ t, t = 344 ∨ t = 112 ∨ t = 146 ∨ t = 160 ∨ t = 174 ∨ t = 216 ∨ t = 230 ∨ t = 251 ∨ t = 265 ∨ t = 279 ∨ t = 300 ∨ t = 321 ∨ t = 330 → P (K t)) : P (sSw x 296 0 11 #[64, 98, 112, 126, 168, 182, 203, 217, 231, 252, 273, 282] 48 K) := by
  unfold sSw
  by_cases hx : x.toInt < 0 ∨ 11 < x.toInt
  · rw [if_pos hx]
    exact h 344 (by omega)
  · rw [if_neg hx]
    have hj : x.toInt = 0 ∨ x.toInt = 1 ∨ x.toInt = 2 ∨ x.toInt = 3 ∨ x.toInt = 4 ∨ x.toInt = 5 ∨ x.toInt = 6 ∨ x.toInt = 7 ∨ x.toInt = 8 ∨ x.toInt = 9 ∨ x.toInt = 10 ∨ x.toInt = 11 := by omega
    rcases hj with e | e | e | e | e | e | e | e | e | e | e | e <;> rw [e]
    · exact h 112 (by omega)
    · exact h 146 (by omega)
    · exact h 160 (by omega)
    · exact h 174 (by omega)
    · exact h 216 (by omega)
    · exact h 230 (by omega)
    · exact h 251 (by omega)
    · exact h 265 (by omega)
    · exact h 279 (by omega)
    · exact h 300 (by omega)
    · exact h 321 (by omega)
    · exact h 330 (by omega)
end
