/-! THE MODEL'S METHODS over the picture, part 3: the ends of changes, questions. -/
theorem mAd_8 {s : Nat → Int32} {sh w rr : Int32} : (mAd s sh w rr).1 < 8 := by
  unfold mAd; split
  · split
    · simp
    · cases fst (fun a => !(uM s a)) 10 <;> simp
  · simp
theorem mRm_8 {s : Nat → Int32} {p : Nat} {x : Int32} : (mRm s p x).1 < 8 := by unfold mRm; cases soM s x <;> simp
theorem mRj_8 {s : Nat → Int32} {p : Nat} {x : Int32} : (mRj s p x).1 < 8 := by unfold mRj; split <;> simp
theorem mRf_8 {s : Nat → Int32} {x y : Int32} : (mRf s x y).1 < 8 := by
  unfold mRf; cases soM s x with
  | none => simp
  | some g => cases soM s y with
    | none => simp
    | some a => dsimp only; split
                · simp
                · split <;> simp
theorem mWd_8 {s : Nat → Int32} {x y : Int32} : (mWd s x y).1 < 8 := by
  unfold mWd; cases soM s x with
  | none => simp
  | some g => cases soM s y with
    | none => simp
    | some a => dsimp only; split <;> simp
theorem mOp_8 {s : Nat → Int32} {p : Nat} {sh lo hi pay : Int32} : (mOp s p sh lo hi pay).1 < 8 := by
  unfold mOp; split
  · split <;> simp
  · simp
theorem mCl_8 {s : Nat → Int32} {p : Nat} {x : Int32} : (mCl s p x).1 < 8 := by unfold mCl; split <;> simp
theorem mHi_8 {s : Nat → Int32} {p : Nat} {x y : Int32} : (mHi s p x y).1 < 8 := by
  unfold mHi; split
  · cases soM s y with
    | none => simp
    | some a => dsimp only; split
                · simp
                · split
                  · split <;> simp
                  · simp
  · simp
theorem mHb_8 {s : Nat → Int32} {p : Nat} {x : Int32} : (mHb s p x).1 < 8 := by
  unfold mHb; split
  · split
    · cases cdM s p x.toNatClampNeg <;> simp
    · simp
  · simp
theorem mDi_8 {s : Nat → Int32} {p : Nat} {x : Int32} : (mDi s p x).1 < 8 := by
  unfold mDi; split
  · split <;> simp
  · simp
theorem mPd_8 {s : Nat → Int32} {p : Nat} {x : Int32} : (mPd s p x).1 < 8 := by unfold mPd; split <;> simp
def ahM (s : Nat → Int32) (a : Nat) : Nat := cnt (fun c => uM s c && !(decide (idM s a ≤ idM s c))) 10
def apP2 (s : Nat → Int32) (x : Int32) (a : Nat) : Bool := uM s a && (nI (ahM s a) == x)
def abM (s : Nat → Int32) (a : Nat) : Nat := cnt (fun c => uM s c && beM s c a) 10
def apS (s : Nat → Int32) (x : Int32) (a : Nat) : Bool := uM s a && (nI (abM s a) == x)
def idO (s : Nat → Int32) (o : Option Nat) : Int32 := match o with
  | none => 0
  | some a => idM s a
def c16 (v : Int32) : Int32 := (v.toUInt32 % 65536).toInt32
def ibM (s : Nat → Int32) (p a q : Nat) : Bool := ftM s a q && (!(oI (fwM s p a) == nI q) && ((match fwM s p a with
  | none => true
  | some t => prM s q t) && (if po s q 4 = 0 then true else beM s a (po s q 4 - 1).toNatClampNeg)))
def bpM (s : Nat → Int32) (p : Nat) : Nat → Nat
  | 0 => 0
  | a + 1 => bpM s p a + (if uM s a = true then cnt (ibM s p a) p else 0)
def pwM (s : Nat → Int32) (q : Nat) : Int32 := if po s q 4 ≤ 0 then 0 else po s q 3
def upM (s : Nat → Int32) (a : Nat) : Int32 := if uM s a = true then ptM s a else 0
def brM (s : Nat → Int32) (g a : Nat) : Int32 := (sl s a 5 >>> (nI g &&& 31)) &&& 1
section
variable {G : Glb} {A n r p u : Nat} {H : Hp} {m : Mm} {D : Bd} {s : Nat → Int32}
end
