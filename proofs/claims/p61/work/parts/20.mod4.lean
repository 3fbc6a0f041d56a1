/-! THE MODEL'S METHODS over the picture, part 4: more questions. -/
theorem c16_fits (v : Int32) : fits .char (.int (c16 v)) = true := by
  have : c16 v = v.toUInt32.toUInt16.toUInt32.toInt32 := by
    unfold c16
    apply Int32.toBitVec_inj.mp
    apply BitVec.eq_of_toNat_eq
    simp
  rw [this, ← vp_nar_char]; exact fits_chr v
theorem lasM_lt {s : Nat → Int32} {x : Int32} {a : Nat} (h : soM s x = some a) : a < 10 := (las_lt h).1
theorem d01 (D : Bd) : ud D 0 6 1 0 6 = 1 := ud_eq ..
theorem d00 (D : Bd) : ud D 0 6 0 0 6 = 0 := ud_eq ..
theorem le00 : (0 : Int32) ≤ 0 := by decide
theorem nle10 : ¬ (1 : Int32) ≤ 0 := by decide
theorem nle20 : ¬ (2 : Int32) ≤ 0 := by decide
section
variable {G : Glb} {A n r p u : Nat} {H : Hp} {m : Mm} {D : Bd} {s : Nat → Int32}
end
