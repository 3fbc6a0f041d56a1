/-! THE MODEL'S METHODS over the picture, part 1: changes. -/
def kD (D : Bd) (s : Nat → Int32) : Bd := us (ud D 0 6 0) 2 (cpf s (D 2) 0 0 93)
def enP (D : Bd) (u : Nat) : Bd := if u = 8 then ud (us D 4 (cpf (D 4) (D 4) 93 0 651)) 0 5 7 else D
def enU (u : Nat) : Nat := if u = 8 then 7 else u
def enD (D : Bd) (u : Nat) : Bd := ud (us (enP D u) 4 (cpf (D 2) (enP D u 4) 0 (93 * enU u) 93)) 0 5 (nI (enU u + 1))
theorem cpf_back (s X : Nat → Int32) : cpf (cpf s X 0 0 93) s 0 0 93 = s := by
  funext i; unfold cpf; by_cases h : 0 ≤ i ∧ i < 0 + 93
  · rw [if_pos h]; simp at h; simp [h]
  · rw [if_neg h]
def addS (s : Nat → Int32) (a : Nat) (sh w rr : Int32) : Nat → Int32 := su (su (su (su (su (su (su s (3 + 6 * a + 0) (s 0 + 1)) (3 + 6 * a + 1) sh) (3 + 6 * a + 2) w) (3 + 6 * a + 3) rr) (3 + 6 * a + 4) 0) (3 + 6 * a + 5) 0) 0 (s 0 + 1)
def mAd (s : Nat → Int32) (sh w rr : Int32) : Nat × Int32 × (Nat → Int32) := if (shp sh && (inR w 0 100 && inR rr 0 50)) = true then (if cnt (uM s) 10 = 10 then (2, 0, s) else match fst (fun a => !(uM s a)) 10 with
  | none => (2, 0, s)
  | some a => (0, s 0, addS s a sh w rr)) else (1, 0, s)
def gvL (s : Nat → Int32) (a : Nat) : Nat → (Nat → Int32)
  | 0 => s
  | o + 1 => su (gvL s a o) (3 + 6 * o + 5) (sl (gvL s a o) o 5 &&& (one a ^^^ (-1)))
def zrL (s : Nat → Int32) (a : Nat) : Nat → (Nat → Int32)
  | 0 => s
  | w + 1 => su (zrL s a w) (3 + 6 * a + w) 0
def unS (s : Nat → Int32) (p a : Nat) : Nat → Int32 := match fwM s p a with
  | none => s
  | some q => su s (63 + 5 * q + 4) 0
def goS (s : Nat → Int32) (p a : Nat) : Nat → Int32 := zrL (gvL (unS s p a) a 10) a 6
def mRm (s : Nat → Int32) (p : Nat) (x : Int32) : Nat × Int32 × (Nat → Int32) := match soM s x with
  | none => (1, 0, s)
  | some a => (0, sl s a 4, goS s p a)
def rjL (s : Nat → Int32) (p : Nat) (lim : Int32) : Nat → (Nat → Int32) × Nat
  | 0 => (s, 0)
  | a + 1 => if wM (rjL s p lim a).1 p a = true ∧ ¬ sl (rjL s p lim a).1 a 3 ≤ lim then (goS (rjL s p lim a).1 p a, (rjL s p lim a).2 + 1) else rjL s p lim a
def mRj (s : Nat → Int32) (p : Nat) (lim : Int32) : Nat × Int32 × (Nat → Int32) := if inR lim 0 50 = true then (0, nI (rjL s p lim 10).2, (rjL s p lim 10).1) else (1, 0, s)
def bitM (s : Nat → Int32) (g a : Nat) : Bool := ((sl s a 5 >>> (nI g &&& 31)) &&& 1) == 1
def mRf (s : Nat → Int32) (x y : Int32) : Nat × Int32 × (Nat → Int32) := match soM s x with
  | none => (1, 0, s)
  | some g => match soM s y with
    | none => (1, 0, s)
    | some a => if x = y then (2, 0, s) else if bitM s g a = true then (3, 0, s) else (0, btI (sl s a 5 ||| one g), su s (3 + 6 * a + 5) (sl s a 5 ||| one g))
def mWd (s : Nat → Int32) (x y : Int32) : Nat × Int32 × (Nat → Int32) := match soM s x with
  | none => (1, 0, s)
  | some g => match soM s y with
    | none => (1, 0, s)
    | some a => if bitM s g a = true then (0, btI (sl s a 5 &&& (one g ^^^ (-1))), su s (3 + 6 * a + 5) (sl s a 5 &&& (one g ^^^ (-1)))) else (1, 0, s)
def opS (s : Nat → Int32) (p : Nat) (sh lo hi pay : Int32) : Nat → Int32 := su (su (su (su (su (su s (63 + 5 * p) sh) (63 + 5 * p + 1) lo) (63 + 5 * p + 2) hi) (63 + 5 * p + 3) pay) (63 + 5 * p + 4) 0) 2 (nI (p + 1))
def mOp (s : Nat → Int32) (p : Nat) (sh lo hi pay : Int32) : Nat × Int32 × (Nat → Int32) := if (((sh == 42) || shp sh) && (inR lo 0 100 && (inR hi 0 50 && inR pay 1 99))) = true then (if p = 6 then (2, 0, s) else (0, nI p, opS s p sh lo hi pay)) else (1, 0, s)
def clS (s : Nat → Int32) (p q : Nat) : Nat → Int32 := su (cpf s s (63 + 5 * q + 5) (63 + 5 * q) (5 * (p - 1 - q))) 2 (nI (p - 1))
def mCl (s : Nat → Int32) (p : Nat) (x : Int32) : Nat × Int32 × (Nat → Int32) := if inR x 0 (nI p - 1) = true then (0, if po s x.toNatClampNeg 4 ≤ 0 then 0 else 1, clS s p x.toNatClampNeg) else (1, 0, s)
def vaM (s : Nat → Int32) (p : Nat) : Nat := cnt (fun q => po s q 4 == 0) p
def faM (s : Nat → Int32) (p a : Nat) (v : Bool) : Option Nat := best (fun q => ftM s a q && (!v || (po s q 4 == 0))) (prM s) p
def cdM (s : Nat → Int32) (p q : Nat) : Option Nat := best (fun a => wM s p a && ftM s a q) (beM s) 10
def nxM (s : Nat → Int32) (p : Nat) : Option Nat := best (fun a => wM s p a && (faM s p a true).isSome) (beM s) 10
def filS (s : Nat → Int32) (q a : Nat) : Nat → Int32 := su s (63 + 5 * q + 4) (nI (a + 1))
def mHi (s : Nat → Int32) (p : Nat) (x id : Int32) : Nat × Int32 × (Nat → Int32) := if inR x 0 (nI p - 1) = true then (match soM s id with
  | none => (2, 0, s)
  | some a => if 0 < po s x.toNatClampNeg 4 then (3, 0, s) else if wM s p a = true then (if ftM s a x.toNatClampNeg = true then (0, nI (vaM (filS s x.toNatClampNeg a) p), filS s x.toNatClampNeg a) else (4, 0, s)) else (3, 0, s)) else (1, 0, s)
def mHb (s : Nat → Int32) (p : Nat) (x : Int32) : Nat × Int32 × (Nat → Int32) := if inR x 0 (nI p - 1) = true then (if po s x.toNatClampNeg 4 ≤ 0 then (match cdM s p x.toNatClampNeg with
  | none => (3, 0, s)
  | some a => (0, idM (filS s x.toNatClampNeg a) a, filS s x.toNatClampNeg a)) else (2, 0, s)) else (1, 0, s)
def FV (s : Nat → Int32) (p : Nat) : Prop := ∀ q, q < p → po s q 4 = 0 ∨ ∃ a, a < 10 ∧ po s q 4 = nI (a + 1)
def mDi (s : Nat → Int32) (p : Nat) (x : Int32) : Nat × Int32 × (Nat → Int32) := if inR x 0 (nI p - 1) = true then (if po s x.toNatClampNeg 4 = 0 then (2, 0, s) else (0, idM (su s (63 + 5 * x.toNatClampNeg + 4) 0) (po s x.toNatClampNeg 4 - 1).toNatClampNeg, su s (63 + 5 * x.toNatClampNeg + 4) 0)) else (1, 0, s)
def mtN (p : Nat) (s : Nat → Int32) : Option (Nat → Int32) := match nxM s p with
  | none => none
  | some a => match faM s p a true with
    | none => none
    | some q => some (filS s q a)
def mtX (f : (Nat → Int32) → (Nat → Int32) × Nat) (s : Nat → Int32) : Option (Nat → Int32) → (Nat → Int32) × Nat
  | none => (s, 0)
  | some s' => ((f s').1, (f s').2 + 1)
def mtL (p : Nat) : Nat → (Nat → Int32) → (Nat → Int32) × Nat
  | 0 => fun s => (s, 0)
  | t + 1 => fun s => mtX (mtL p t) s (mtN p s)
theorem mtL_0 (p : Nat) (s : Nat → Int32) : mtL p 0 s = (s, 0) := rfl
theorem mtL_s (p t : Nat) (s : Nat → Int32) : mtL p (t + 1) s = mtX (mtL p t) s (mtN p s) := rfl
def mn50 (v : Int32) : Int32 := if v < 50 then v else 50
def rnS (s : Nat → Int32) (q a : Nat) : Nat → Int32 := su (su s (3 + 6 * a + 4) (sl s a 4 + po s q 3)) (3 + 6 * a + 3) (mn50 (sl s a 3 + 1))
def pdL (s : Nat → Int32) : Nat → (Nat → Int32) × Nat
  | 0 => (s, 0)
  | q + 1 => if po (pdL s q).1 q 4 = 0 then pdL s q else
    if ftM (rnS (pdL s q).1 q (po (pdL s q).1 q 4 - 1).toNatClampNeg) (po (pdL s q).1 q 4 - 1).toNatClampNeg q = true then (rnS (pdL s q).1 q (po (pdL s q).1 q 4 - 1).toNatClampNeg, (pdL s q).2)
    else (su (rnS (pdL s q).1 q (po (pdL s q).1 q 4 - 1).toNatClampNeg) (63 + 5 * q + 4) 0, (pdL s q).2 + 1)
def pdS (s : Nat → Int32) (p : Nat) : Nat → Int32 := su (pdL s p).1 1 (s 1 + 1)
def pdN (s : Nat → Int32) (p : Nat) : Nat → (Nat → Int32) × Nat
  | 0 => (s, 0)
  | t + 1 => (pdS (pdN s p t).1 p, (pdN s p t).2 + (pdL (pdN s p t).1 p).2)
def mPd (s : Nat → Int32) (p : Nat) (x : Int32) : Nat × Int32 × (Nat → Int32) := if inR x 1 30 = true then (0, nI (pdN s p x.toNatClampNeg).2, (pdN s p x.toNatClampNeg).1) else (1, 0, s)
theorem gvL_n {s : Nat → Int32} {a j : Nat} (h : j < 3 ∨ 63 ≤ j) : ∀ o, o ≤ 10 → gvL s a o j = s j := by
  intro o
  induction o with
  | zero => intro _; rfl
  | succ o ih => intro ho; rw [gvL, su_ne (by omega)]; exact ih (by omega)
theorem zrL_n {s : Nat → Int32} {a j : Nat} (h : j < 3 ∨ 63 ≤ j) (ha : a < 10) : ∀ w, w ≤ 6 → zrL s a w j = s j := by
  intro w
  induction w with
  | zero => intro _; rfl
  | succ w ih => intro hw; rw [zrL, su_ne (by omega)]; exact ih (by omega)
theorem sl_su (s : Nat → Int32) (a w : Nat) (v : Int32) : sl (su s (3 + 6 * a + w) v) a w = v := su_eq ..
theorem goS_n {s : Nat → Int32} {p a j : Nat} (ha : a < 10) (h : j < 3) : goS s p a j = s j := by
  unfold goS
  rw [zrL_n (Or.inl h) ha 6 (by omega), gvL_n (Or.inl h) 10 (by omega)]
  unfold unS
  cases fwM s p a with
  | none => rfl
  | some q => exact su_ne (by omega)
theorem rjL_2 {s : Nat → Int32} {p : Nat} {lim : Int32} : ∀ a, a ≤ 10 → ∀ j, j < 3 → (rjL s p lim a).1 j = s j := by
  intro a
  induction a with
  | zero => intro _ j _; rfl
  | succ a ih =>
    intro ha j hj
    rw [rjL]
    split
    · exact (goS_n (by omega) hj).trans (ih (by omega) j hj)
    · exact ih (by omega) j hj
theorem six_le {i : Nat} (hi : i < 6) : ¬ (6 : Int32) ≤ nI i := by rw [show (6 : Int32) = nI 6 from rfl, nI_leI (by omega) (by omega)]; omega
theorem six_6 : (6 : Int32) ≤ nI 6 := by decide
theorem cnt_lt {p : Nat → Bool} : ∀ {n : Nat}, cnt p n ≠ n → ∃ i, i < n ∧ p i = false := by
  intro n
  induction n with
  | zero => intro h; exact absurd rfl h
  | succ n ih =>
    intro h
    cases hp : p n
    · exact ⟨n, by omega, hp⟩
    · rw [cnt_t hp] at h
      obtain ⟨i, hi, hi2⟩ := ih (by omega)
      exact ⟨i, by omega, hi2⟩
theorem fst_ex {p : Nat → Bool} {n : Nat} (h : ∃ i, i < n ∧ p i = true) : ∃ i, fst p n = some i := by
  cases e : fst p n with
  | some i => exact ⟨i, rfl⟩
  | none => obtain ⟨i, hi, hp⟩ := h; rw [fst_none e i hi] at hp; cases hp
theorem n1_neg : (-1 : Int32) < 0 := by decide
theorem n1_0le : ¬ (0 : Int32) ≤ -1 := by decide
theorem nI_sh1 (q : Nat) : nI (q + 1) - 1 = nI q := nI_pred q
section
variable {G : Glb} {A n r p u : Nat} {H : Hp} {m : Mm} {D : Bd} {s : Nat → Int32}
theorem kD_06 (D : Bd) (s : Nat → Int32) : kD D s 0 6 = 0 := by unfold kD; rw [us_ne (by omega), ud_eq]
theorem kD_05 (D : Bd) (s : Nat → Int32) : kD D s 0 5 = D 0 5 := by unfold kD; rw [us_ne (by omega), ud_ni (by omega)]
theorem kD_2 (D : Bd) (s : Nat → Int32) : kD D s 2 = cpf s (D 2) 0 0 93 := by unfold kD; rw [us_eq]
end
