/-! THE MODEL'S METHODS over the picture, part 6: the output. -/
def wr1 (D : Bd) (c : Nat) (x : Int32) : Bd := ud (ud D 5 c (c16 x)) 0 8 (nI (c + 1))
def wrL (D : Bd) (c : Nat) : List Int32 → Bd
  | [] => D
  | x :: l => wrL (wr1 D c x) (c + 1) l
theorem wrL_app (l1 l2 : List Int32) : ∀ (D : Bd) (c : Nat), wrL D c (l1 ++ l2) = wrL (wrL D c l1) (c + l1.length) l2 := by
  induction l1 with
  | nil => intro D c; rfl
  | cons x l1 ih => intro D c; rw [List.cons_append, wrL, wrL, ih, List.length_cons, show c + 1 + l1.length = c + (l1.length + 1) by omega]
theorem wrL_08 (l : List Int32) : ∀ (D : Bd) (c : Nat), D 0 8 = nI c → wrL D c l 0 8 = nI (c + l.length) := by
  induction l with
  | nil => intro D c h; exact h
  | cons x l ih =>
    intro D c h
    rw [wrL, ih _ _ (by unfold wr1; rw [ud_eq]), List.length_cons, show c + 1 + l.length = c + (l.length + 1) by omega]
theorem wrL_0 (l : List Int32) {i : Nat} (hi : i ≠ 8) : ∀ (D : Bd) (c : Nat), wrL D c l 0 i = D 0 i := by
  induction l with
  | nil => intro D c; rfl
  | cons x l ih => intro D c; rw [wrL, ih]; unfold wr1; rw [ud_ni hi, ud_nc (by omega)]
theorem wrL_c (l : List Int32) {k : Nat} (h0 : k ≠ 0) (h5 : k ≠ 5) : ∀ (D : Bd) (c : Nat), wrL D c l k = D k := by
  induction l with
  | nil => intro D c; rfl
  | cons x l ih => intro D c; rw [wrL, ih]; unfold wr1; rw [ud_nc h0, ud_nc h5]
theorem wrL_lo (l : List Int32) : ∀ (D : Bd) (c i : Nat), i < c → wrL D c l 5 i = D 5 i := by
  induction l with
  | nil => intro D c i _; rfl
  | cons x l ih => intro D c i hi; rw [wrL, ih _ _ _ (by omega)]; unfold wr1; rw [ud_nc (by omega), ud_ni (by omega)]
theorem wrL_at (l : List Int32) : ∀ (D : Bd) (c i : Nat), i < l.length → wrL D c l 5 (c + i) = c16 (l.getD i 0) := by
  induction l with
  | nil => intro D c i hi; simp at hi
  | cons x l ih =>
    intro D c i hi
    rw [wrL]
    cases i with
    | zero =>
      show wrL (wr1 D c x) (c + 1) l 5 c = _
      rw [wrL_lo _ _ _ _ (by omega)]; unfold wr1; rw [ud_nc (by omega), ud_eq]; rfl
    | succ i =>
      rw [show c + (i + 1) = c + 1 + i by omega, ih _ _ _ (by simpa using hi)]; rfl
def dgF : Nat → Nat → List Int32
  | 0, v => [nI (48 + v % 10)]
  | f + 1, v => if 9 < v then dgF f (v / 10) ++ [nI (48 + v % 10)] else [nI (48 + v % 10)]
def dg (v : Nat) : List Int32 := dgF 9 v
theorem dgF_len : ∀ (f v j : Nat), v < 10 ^ j → 1 ≤ j → (dgF f v).length ≤ j := by
  intro f
  induction f with
  | zero => intro v j _ hj; exact hj
  | succ f ih =>
    intro v j hv hj
    rw [dgF]
    split
    · rename_i h9
      obtain ⟨j, rfl⟩ : ∃ j', j = j' + 1 := ⟨j - 1, by omega⟩
      have hj1 : 1 ≤ j := by
        rcases Nat.eq_zero_or_pos j with h | h
        · subst h; omega
        · exact h
      have h2 : v / 10 < 10 ^ j := by
        rw [Nat.pow_succ] at hv
        exact Nat.div_lt_of_lt_mul (by omega)
      have := ih (v / 10) j h2 hj1
      rw [List.length_append]; simp only [List.length_singleton]; omega
    · exact hj
theorem dgF_pos (f v : Nat) : 1 ≤ (dgF f v).length := by
  cases f with
  | zero => exact Nat.le_refl _
  | succ f => rw [dgF]; split
              · rw [List.length_append]; simp
              · exact Nat.le_refl _
theorem nI_div10 {v : Nat} (h : v < 2 ^ 31) : nI v / 10 = nI (v / 10) := by
  have := pk_div (a := v) (d := 10) h (by omega) (by omega)
  exact this
theorem nI_rem10 {v : Nat} (h : v < 2 ^ 31) : 48 + (nI v - nI v / 10 * 10) = nI (48 + v % 10) := by
  rw [nI_div10 h]
  have e : nI (v / 10) * 10 = nI (v / 10 * 10) := by unfold nI; rw [Int32.ofNat_mul]; rfl
  rw [e, nI_sub (Nat.div_mul_le_self v 10)]
  have e2 : v - v / 10 * 10 = v % 10 := by omega
  rw [e2]
  exact nI_add 48 _
section
variable {G : Glb} {A n r p u : Nat} {H : Hp} {m : Mm} {D : Bd} {s : Nat → Int32}
def opt (g : Nat) (x : Int32) : List Int32 := if 0 < g then x :: dg g else []
def optO (o : Option Nat) (x : Int32) : List Int32 := match o with
  | none => []
  | some q => x :: dg q
def waT (sh : Int32) (w rr g c : Nat) (o : Option Nat) : List Int32 := [sh] ++ (dg w ++ ([47] ++ (dg rr ++ (opt g 43 ++ (opt c 36 ++ optO o 64)))))
def wpo (s : Nat → Int32) (q : Nat) : List Int32 := (if q = 0 then [] else [32]) ++ (if po s q 4 = 0 then [45] else dg (idM s (po s q 4 - 1).toNatClampNeg).toNatClampNeg)
def wpT (s : Nat → Int32) : Nat → List Int32
  | 0 => []
  | q + 1 => wpT s q ++ wpo s q
theorem wpT_le {s : Nat → Int32} : ∀ (t q : Nat), (wpT s q).length ≤ (wpT s (q + t)).length := by
  intro t
  induction t with
  | zero => intro q; exact Nat.le_refl _
  | succ t ih =>
    intro q
    rw [show q + (t + 1) = q + t + 1 by omega, wpT, List.length_append]
    have := ih q
    omega
end
