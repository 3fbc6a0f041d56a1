/-! THE MODEL'S READER of commands, part 5: the end. -/
section
variable {G : Glb} {A n r N u : Nat} {H : Hp} {m : Mm} {D : Bd} {s : Nat → Int32}
/-- behind the reading: field 12 the fault, field 13 its place -/
def pe (D : Bd) (f e : Int32) : Bd := ud (ud (ud D 0 12 f) 0 13 e) 0 10 0
theorem nI_neg_1 (i : Nat) (h : i < 2 ^ 31) : (0 : Int32) ≤ nI i := (nI_leI (show 0 < 2 ^ 31 by decide) h).mpr (Nat.zero_le _)
end
