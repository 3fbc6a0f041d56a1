/-! THE MODEL'S READER of commands, part 3: carrying out. -/
def sw3 (k : Int32) : Nat := if k = 105 then 128 else if k = 97 then 138 else if k = 112 then 151 else if k = 108 then 174 else if k = 99 then 184 else if k = 104 then 194 else if k = 114 then 206 else if k = 109 then 218 else 227
theorem toInt_lit {k : Int32} {z : Int} (h : k.toInt = z) : k = Int32.ofInt z := by rw [← h, Int32.ofInt_toInt]
theorem sw293 {β : Type} (k : Int32) (f : Nat → Option β) : sSw k 184 97 114 #[95, 184, 141, 184, 184, 184, 184, 151, 85, 184, 184, 131, 175, 184, 184, 108, 184, 163] 43 f = f (sw3 k) := by
  unfold sSw
  by_cases h : k.toInt < 97 ∨ 114 < k.toInt
  · rw [if_pos h]
    have hn : ∀ (z : Int32), 97 ≤ z.toInt → z.toInt ≤ 114 → ¬ k = z := by
      intro z h1 h2 e; subst e; omega
    have e : sw3 k = 227 := by
      unfold sw3
      rw [if_neg (hn 105 (by decide) (by decide)), if_neg (hn 97 (by decide) (by decide)), if_neg (hn 112 (by decide) (by decide)), if_neg (hn 108 (by decide) (by decide)), if_neg (hn 99 (by decide) (by decide)), if_neg (hn 104 (by decide) (by decide)), if_neg (hn 114 (by decide) (by decide)), if_neg (hn 109 (by decide) (by decide))]
    rw [e]; rfl
  · have : k.toInt = 97 ∨ k.toInt = 98 ∨ k.toInt = 99 ∨ k.toInt = 100 ∨ k.toInt = 101 ∨ k.toInt = 102 ∨ k.toInt = 103 ∨ k.toInt = 104 ∨ k.toInt = 105 ∨ k.toInt = 106 ∨ k.toInt = 107 ∨ k.toInt = 108 ∨ k.toInt = 109 ∨ k.toInt = 110 ∨ k.toInt = 111 ∨ k.toInt = 112 ∨ k.toInt = 113 ∨ k.toInt = 114 := by omega
    rcases this with h97 | h98 | h99 | h100 | h101 | h102 | h103 | h104 | h105 | h106 | h107 | h108 | h109 | h110 | h111 | h112 | h113 | h114
    · have := toInt_lit h97; subst this; rfl
    · have := toInt_lit h98; subst this; rfl
    · have := toInt_lit h99; subst this; rfl
    · have := toInt_lit h100; subst this; rfl
    · have := toInt_lit h101; subst this; rfl
    · have := toInt_lit h102; subst this; rfl
    · have := toInt_lit h103; subst this; rfl
    · have := toInt_lit h104; subst this; rfl
    · have := toInt_lit h105; subst this; rfl
    · have := toInt_lit h106; subst this; rfl
    · have := toInt_lit h107; subst this; rfl
    · have := toInt_lit h108; subst this; rfl
    · have := toInt_lit h109; subst this; rfl
    · have := toInt_lit h110; subst this; rfl
    · have := toInt_lit h111; subst this; rfl
    · have := toInt_lit h112; subst this; rfl
    · have := toInt_lit h113; subst this; rfl
    · have := toInt_lit h114; subst this; rfl
def np (s : Nat → Int32) : Nat := (s 2).toNatClampNeg
theorem np_eq {s : Nat → Int32} {p : Nat} (hp : s 2 = nI p) (hq : p ≤ 6) : np s = p := by unfold np; rw [hp, nI_clamp (by omega)]
def sh16 (x : Int32) : Int32 := (x.toUInt32 % 65536).toInt32
def mv (o : Nat × Int32 × (Nat → Int32)) : Nat × (Nat → Int32) := (o.1, o.2.2)
/-- what command i of the list C does to the numbers -/
def mdo (s : Nat → Int32) (C : Nat → Int32) (i : Nat) : Nat × (Nat → Int32) :=
  if C (5 * i) = 105 then mv (mDi s (np s) (C (5 * i + 2)))
  else if C (5 * i) = 97 then mv (mAd s (sh16 (C (5 * i + 1))) (C (5 * i + 2)) (C (5 * i + 3)))
  else if C (5 * i) = 112 then mv (mOp s (np s) (sh16 (C (5 * i + 1))) (C (5 * i + 2)) (C (5 * i + 3)) (C (5 * i + 4)))
  else if C (5 * i) = 108 then mv (mRm s (np s) (C (5 * i + 2)))
  else if C (5 * i) = 99 then mv (mCl s (np s) (C (5 * i + 2)))
  else if C (5 * i) = 104 then mv (mHi s (np s) (C (5 * i + 2)) (C (5 * i + 3)))
  else if C (5 * i) = 114 then mv (mRf s (C (5 * i + 2)) (C (5 * i + 3)))
  else if C (5 * i) = 109 then (0, (mtL (np s) (vaM s (np s)) s).1)
  else mv (mPd s (np s) 1)
theorem mdo_8 (s C : Nat → Int32) (i : Nat) : (mdo s C i).1 < 8 := by
  unfold mdo mv
  split
  · exact mDi_8
  split
  · exact mAd_8
  split
  · exact mOp_8
  split
  · exact mRm_8
  split
  · exact mCl_8
  split
  · exact mHi_8
  split
  · exact mRf_8
  split
  · exact Nat.zero_lt_succ _
  · exact mPd_8
def exM (C : Nat → Int32) : Nat → Nat → (Nat → Int32) → (Nat → Int32) × Option (Nat × Nat)
  | 0, _, s => (s, none)
  | k + 1, i, s => if (mdo s C i).1 = 0 then exM C k (i + 1) (mdo s C i).2 else (s, some (i, (mdo s C i).1))
section
variable {G : Glb} {A n r p u : Nat} {H : Hp} {m : Mm} {D : Bd} {s : Nat → Int32}
def mS (D : Bd) (s : Nat → Int32) (o : Nat × (Nat → Int32)) : Bd := us (if o.1 = 0 then D else ud D 0 6 (nI o.1)) 1 (if o.1 = 0 then o.2 else s)
end
