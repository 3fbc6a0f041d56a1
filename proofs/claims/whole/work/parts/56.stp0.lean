/-! THE LAW'S LOOP, part 1: one step for each kind of call, from what the calls answer (printed by wip/whole/gen_stp.py) -/
theorem lg_self (x : Int64) : lg_cmp x x = 0 := by unfold lg_cmp; simp
/-- the loop's head, further on -/
def NX (G : Glb) (a0 a1 a2 a3 a4 : Nat) (x5 : Int32) (R : Res) (σ : St) : Prop := ∃ o6 o7 o8, R = run G 41 0 28 [some (.ref a0), some (.ref a1), some (.ref a2), some (.ref a3), some (.ref a4), some (.int (x5 + 5)), o6, o7, o8] [] σ
def oB (b : Int32) : Int64 := if b = 0 then 0 else 1
section
variable {G : Glb} {a0 a1 a2 a3 a4 : Nat} {x5 v1 v2 v3 v4 kk b : Int32} {o6 o7 o8 : Option Value} {σ σ1 σ2 : St}
theorem st_0 (r1 : aI σ okI a0 (x5 + 1) = some v1) (r2 : aI σ okI a0 (x5 + 2) = some v2) (r3 : aI σ okI a0 (x5 + 3) = some v3) (h2 : call G 40 1 [.ref a1, .int (v1.toUInt32 % 65536).toInt32, .int v2, .int v3, .ref a3] σ = vI kk σ1) (s1 : aI σ1 okI a0 (x5 + 1) = some v1) (s2 : aI σ1 okI a0 (x5 + 2) = some v2) (s3 : aI σ1 okI a0 (x5 + 3) = some v3) (h4 : rcv σ1 a2 6 = true) (h5 : call G 40 212 [.ref a2, .int (v1.toUInt32 % 65536).toInt32, .int v2, .int v3] σ1 = vI b σ2) (h6 : rcv σ2 a2 6 = true) (h7 : call G 40 189 [.ref a2] σ2 = vI kk σ2) (h8 : kk = 0 → aJ σ2 a3 0 = some b.toInt64) : NX G a0 a1 a2 a3 a4 x5 (run G 41 0 292 [some (.ref a0), some (.ref a1), some (.ref a2), some (.ref a3), some (.ref a4), some (.int x5), o6, o7, o8] [] σ) σ2 := by
  refine ⟨some (.int kk), some (.int b), o8, ?_⟩
  rw [b0_292, r1, Option.bind_some, r2, Option.bind_some, r3, Option.bind_some, cI_of h2, s1, Option.bind_some, s2, Option.bind_some, s3, Option.bind_some, if_pos h4, cI_of h5, if_pos h6, cI_of h7, if_pos rfl]
  by_cases hk : kk = 0
  · rw [if_pos hk, h8 hk, Option.bind_some, if_pos (lg_self _), b0_371, b0_3008]
  · rw [if_neg hk, b0_371, b0_3008]
theorem st_1 (r1 : aI σ okI a0 (x5 + 1) = some v1) (h2 : call G 40 2 [.ref a1, .int v1, .ref a3] σ = vI kk σ1) (s1 : aI σ1 okI a0 (x5 + 1) = some v1) (h4 : rcv σ1 a2 6 = true) (h5 : call G 40 215 [.ref a2, .int v1] σ1 = vI b σ2) (h6 : rcv σ2 a2 6 = true) (h7 : call G 40 189 [.ref a2] σ2 = vI kk σ2) (h8 : kk = 0 → aJ σ2 a3 0 = some b.toInt64) : NX G a0 a1 a2 a3 a4 x5 (run G 41 0 374 [some (.ref a0), some (.ref a1), some (.ref a2), some (.ref a3), some (.ref a4), some (.int x5), o6, o7, o8] [] σ) σ2 := by
  refine ⟨some (.int kk), some (.int b), o8, ?_⟩
  rw [b0_374, r1, Option.bind_some, cI_of h2, s1, Option.bind_some, if_pos h4, cI_of h5, if_pos h6, cI_of h7, if_pos rfl]
  by_cases hk : kk = 0
  · rw [if_pos hk, h8 hk, Option.bind_some, if_pos (lg_self _), b0_427, b0_3008]
  · rw [if_neg hk, b0_427, b0_3008]
theorem st_2 (r1 : aI σ okI a0 (x5 + 1) = some v1) (h2 : call G 40 3 [.ref a1, .int v1, .ref a3] σ = vI kk σ1) (s1 : aI σ1 okI a0 (x5 + 1) = some v1) (h4 : rcv σ1 a2 6 = true) (h5 : call G 40 217 [.ref a2, .int v1] σ1 = vI b σ2) (h6 : rcv σ2 a2 6 = true) (h7 : call G 40 189 [.ref a2] σ2 = vI kk σ2) (h8 : kk = 0 → aJ σ2 a3 0 = some b.toInt64) : NX G a0 a1 a2 a3 a4 x5 (run G 41 0 430 [some (.ref a0), some (.ref a1), some (.ref a2), some (.ref a3), some (.ref a4), some (.int x5), o6, o7, o8] [] σ) σ2 := by
  refine ⟨some (.int kk), some (.int b), o8, ?_⟩
  rw [b0_430, r1, Option.bind_some, cI_of h2, s1, Option.bind_some, if_pos h4, cI_of h5, if_pos h6, cI_of h7, if_pos rfl]
  by_cases hk : kk = 0
  · rw [if_pos hk, h8 hk, Option.bind_some, if_pos (lg_self _), b0_483, b0_3008]
  · rw [if_neg hk, b0_483, b0_3008]
theorem st_3 (h0 : rcv σ a1 5 = true) (h2 : call G 40 48 [.ref a1] σ = vI b σ1) (h4 : rcv σ1 a2 6 = true) (h5 : call G 40 218 [.ref a2] σ1 = vI b σ2) : NX G a0 a1 a2 a3 a4 x5 (run G 41 0 486 [some (.ref a0), some (.ref a1), some (.ref a2), some (.ref a3), some (.ref a4), some (.int x5), o6, o7, o8] [] σ) σ2 := ⟨o6, o7, o8, by rw [b0_486, if_pos h0, cI_of h2, if_pos h4, cI_of h5, if_pos rfl, b0_3008]⟩
theorem st_4 (h0 : rcv σ a1 5 = true) (h2 : call G 40 49 [.ref a1] σ = vI b σ1) (h4 : rcv σ1 a2 6 = true) (h5 : call G 40 219 [.ref a2] σ1 = vI b σ2) : NX G a0 a1 a2 a3 a4 x5 (run G 41 0 499 [some (.ref a0), some (.ref a1), some (.ref a2), some (.ref a3), some (.ref a4), some (.int x5), o6, o7, o8] [] σ) σ2 := ⟨o6, o7, o8, by rw [b0_499, if_pos h0, cI_of h2, if_pos h4, cI_of h5, if_pos rfl, b0_3008]⟩
theorem st_5 (r1 : aI σ okI a0 (x5 + 1) = some v1) (h2 : call G 40 4 [.ref a1, .int v1, .ref a3] σ = vI kk σ1) (s1 : aI σ1 okI a0 (x5 + 1) = some v1) (h4 : rcv σ1 a2 6 = true) (h5 : call G 40 220 [.ref a2, .int v1] σ1 = vI b σ2) (h6 : rcv σ2 a2 6 = true) (h7 : call G 40 189 [.ref a2] σ2 = vI kk σ2) (h8 : kk = 0 → aJ σ2 a3 0 = some b.toInt64) : NX G a0 a1 a2 a3 a4 x5 (run G 41 0 512 [some (.ref a0), some (.ref a1), some (.ref a2), some (.ref a3), some (.ref a4), some (.int x5), o6, o7, o8] [] σ) σ2 := by
  refine ⟨some (.int kk), some (.int b), o8, ?_⟩
  rw [b0_512, r1, Option.bind_some, cI_of h2, s1, Option.bind_some, if_pos h4, cI_of h5, if_pos h6, cI_of h7, if_pos rfl]
  by_cases hk : kk = 0
  · rw [if_pos hk, h8 hk, Option.bind_some, if_pos (lg_self _), b0_565, b0_3008]
  · rw [if_neg hk, b0_565, b0_3008]
theorem st_6 (r1 : aI σ okI a0 (x5 + 1) = some v1) (h2 : call G 40 5 [.ref a1, .int v1, .ref a3] σ = vI kk σ1) (s1 : aI σ1 okI a0 (x5 + 1) = some v1) (h4 : rcv σ1 a2 6 = true) (h5 : call G 40 222 [.ref a2, .int v1] σ1 = vI b σ2) (h6 : rcv σ2 a2 6 = true) (h7 : call G 40 189 [.ref a2] σ2 = vI kk σ2) (h8 : kk = 0 → aJ σ2 a3 0 = some b.toInt64) : NX G a0 a1 a2 a3 a4 x5 (run G 41 0 568 [some (.ref a0), some (.ref a1), some (.ref a2), some (.ref a3), some (.ref a4), some (.int x5), o6, o7, o8] [] σ) σ2 := by
  refine ⟨some (.int kk), some (.int b), o8, ?_⟩
  rw [b0_568, r1, Option.bind_some, cI_of h2, s1, Option.bind_some, if_pos h4, cI_of h5, if_pos h6, cI_of h7, if_pos rfl]
  by_cases hk : kk = 0
  · rw [if_pos hk, h8 hk, Option.bind_some, if_pos (lg_self _), b0_621, b0_3008]
  · rw [if_neg hk, b0_621, b0_3008]
theorem st_7 (r1 : aI σ okI a0 (x5 + 1) = some v1) (h2 : call G 40 6 [.ref a1, .int v1, .ref a3] σ = vI kk σ1) (s1 : aI σ1 okI a0 (x5 + 1) = some v1) (h4 : rcv σ1 a2 6 = true) (h5 : call G 40 223 [.ref a2, .int v1] σ1 = vI b σ2) (h6 : rcv σ2 a2 6 = true) (h7 : call G 40 189 [.ref a2] σ2 = vI kk σ2) (h8 : kk = 0 → aJ σ2 a3 0 = some b.toInt64) : NX G a0 a1 a2 a3 a4 x5 (run G 41 0 624 [some (.ref a0), some (.ref a1), some (.ref a2), some (.ref a3), some (.ref a4), some (.int x5), o6, o7, o8] [] σ) σ2 := by
  refine ⟨some (.int kk), some (.int b), o8, ?_⟩
  rw [b0_624, r1, Option.bind_some, cI_of h2, s1, Option.bind_some, if_pos h4, cI_of h5, if_pos h6, cI_of h7, if_pos rfl]
  by_cases hk : kk = 0
  · rw [if_pos hk, h8 hk, Option.bind_some, if_pos (lg_self _), b0_677, b0_3008]
  · rw [if_neg hk, b0_677, b0_3008]
theorem st_8 (r1 : aI σ okI a0 (x5 + 1) = some v1) (h2 : call G 40 7 [.ref a1, .int v1, .ref a3] σ = vI kk σ1) (s1 : aI σ1 okI a0 (x5 + 1) = some v1) (h4 : rcv σ1 a2 6 = true) (h5 : call G 40 224 [.ref a2, .int v1] σ1 = vI b σ2) (h6 : rcv σ2 a2 6 = true) (h7 : call G 40 189 [.ref a2] σ2 = vI kk σ2) (h8 : kk = 0 → aJ σ2 a3 0 = some b.toInt64) : NX G a0 a1 a2 a3 a4 x5 (run G 41 0 680 [some (.ref a0), some (.ref a1), some (.ref a2), some (.ref a3), some (.ref a4), some (.int x5), o6, o7, o8] [] σ) σ2 := by
  refine ⟨some (.int kk), some (.int b), o8, ?_⟩
  rw [b0_680, r1, Option.bind_some, cI_of h2, s1, Option.bind_some, if_pos h4, cI_of h5, if_pos h6, cI_of h7, if_pos rfl]
  by_cases hk : kk = 0
  · rw [if_pos hk, h8 hk, Option.bind_some, if_pos (lg_self _), b0_733, b0_3008]
  · rw [if_neg hk, b0_733, b0_3008]
theorem st_9 (r1 : aI σ okI a0 (x5 + 1) = some v1) (h2 : call G 40 8 [.ref a1, .int v1, .ref a3] σ = vI kk σ1) (s1 : aI σ1 okI a0 (x5 + 1) = some v1) (h4 : rcv σ1 a2 6 = true) (h5 : call G 40 225 [.ref a2, .int v1] σ1 = vI b σ2) (h6 : rcv σ2 a2 6 = true) (h7 : call G 40 189 [.ref a2] σ2 = vI kk σ2) (h8 : kk = 0 → aJ σ2 a3 0 = some b.toInt64) : NX G a0 a1 a2 a3 a4 x5 (run G 41 0 736 [some (.ref a0), some (.ref a1), some (.ref a2), some (.ref a3), some (.ref a4), some (.int x5), o6, o7, o8] [] σ) σ2 := by
  refine ⟨some (.int kk), some (.int b), o8, ?_⟩
  rw [b0_736, r1, Option.bind_some, cI_of h2, s1, Option.bind_some, if_pos h4, cI_of h5, if_pos h6, cI_of h7, if_pos rfl]
  by_cases hk : kk = 0
  · rw [if_pos hk, h8 hk, Option.bind_some, if_pos (lg_self _), b0_789, b0_3008]
  · rw [if_neg hk, b0_789, b0_3008]
theorem st_10 (r1 : aI σ okI a0 (x5 + 1) = some v1) (h2 : call G 40 9 [.ref a1, .int v1, .ref a3] σ = vI kk σ1) (s1 : aI σ1 okI a0 (x5 + 1) = some v1) (h4 : rcv σ1 a2 6 = true) (h5 : call G 40 226 [.ref a2, .int v1] σ1 = vI b σ2) (h6 : rcv σ2 a2 6 = true) (h7 : call G 40 189 [.ref a2] σ2 = vI kk σ2) (h8 : kk = 0 → aJ σ2 a3 0 = some (oB b)) : NX G a0 a1 a2 a3 a4 x5 (run G 41 0 792 [some (.ref a0), some (.ref a1), some (.ref a2), some (.ref a3), some (.ref a4), some (.int x5), o6, o7, o8] [] σ) σ2 := by
  refine ⟨some (.int kk), some (.int b), o8, ?_⟩
  rw [b0_792, r1, Option.bind_some, cI_of h2, s1, Option.bind_some, if_pos h4, cI_of h5, if_pos h6, cI_of h7, if_pos rfl]
  by_cases hk : kk = 0
  · rw [if_pos hk, h8 hk, Option.bind_some]
    unfold oB
    by_cases hb : b = 0
    · rw [if_pos hb, if_pos hb, b0_846, if_pos (lg_self _), b0_852, b0_3008]
    · rw [if_neg hb, if_neg hb, b0_846, if_pos (lg_self _), b0_852, b0_3008]
  · rw [if_neg hk, b0_852, b0_3008]
theorem st_11 (r1 : aI σ okI a0 (x5 + 1) = some v1) (h2 : call G 40 10 [.ref a1, .int v1, .ref a3] σ = vI kk σ1) (s1 : aI σ1 okI a0 (x5 + 1) = some v1) (h4 : rcv σ1 a2 6 = true) (h5 : call G 40 227 [.ref a2, .int v1] σ1 = vI b σ2) (h6 : rcv σ2 a2 6 = true) (h7 : call G 40 189 [.ref a2] σ2 = vI kk σ2) (h8 : kk = 0 → aJ σ2 a3 0 = some b.toInt64) : NX G a0 a1 a2 a3 a4 x5 (run G 41 0 855 [some (.ref a0), some (.ref a1), some (.ref a2), some (.ref a3), some (.ref a4), some (.int x5), o6, o7, o8] [] σ) σ2 := by
  refine ⟨some (.int kk), some (.int b), o8, ?_⟩
  rw [b0_855, r1, Option.bind_some, cI_of h2, s1, Option.bind_some, if_pos h4, cI_of h5, if_pos h6, cI_of h7, if_pos rfl]
  by_cases hk : kk = 0
  · rw [if_pos hk, h8 hk, Option.bind_some, if_pos (lg_self _), b0_908, b0_3008]
  · rw [if_neg hk, b0_908, b0_3008]
theorem st_12 (r1 : aI σ okI a0 (x5 + 1) = some v1) (h2 : call G 40 11 [.ref a1, .int v1, .ref a3] σ = vI kk σ1) (s1 : aI σ1 okI a0 (x5 + 1) = some v1) (h4 : rcv σ1 a2 6 = true) (h5 : call G 40 228 [.ref a2, .int v1] σ1 = vI b σ2) (h6 : rcv σ2 a2 6 = true) (h7 : call G 40 189 [.ref a2] σ2 = vI kk σ2) (h8 : kk = 0 → aJ σ2 a3 0 = some b.toInt64) : NX G a0 a1 a2 a3 a4 x5 (run G 41 0 911 [some (.ref a0), some (.ref a1), some (.ref a2), some (.ref a3), some (.ref a4), some (.int x5), o6, o7, o8] [] σ) σ2 := by
  refine ⟨some (.int kk), some (.int b), o8, ?_⟩
  rw [b0_911, r1, Option.bind_some, cI_of h2, s1, Option.bind_some, if_pos h4, cI_of h5, if_pos h6, cI_of h7, if_pos rfl]
  by_cases hk : kk = 0
  · rw [if_pos hk, h8 hk, Option.bind_some, if_pos (lg_self _), b0_964, b0_3008]
  · rw [if_neg hk, b0_964, b0_3008]
theorem st_13 (r1 : aI σ okI a0 (x5 + 1) = some v1) (h2 : call G 40 12 [.ref a1, .int v1, .ref a3] σ = vI kk σ1) (s1 : aI σ1 okI a0 (x5 + 1) = some v1) (h4 : rcv σ1 a2 6 = true) (h5 : call G 40 229 [.ref a2, .int v1] σ1 = vI b σ2) (h6 : rcv σ2 a2 6 = true) (h7 : call G 40 189 [.ref a2] σ2 = vI kk σ2) (h8 : kk = 0 → aJ σ2 a3 0 = some b.toInt64) : NX G a0 a1 a2 a3 a4 x5 (run G 41 0 967 [some (.ref a0), some (.ref a1), some (.ref a2), some (.ref a3), some (.ref a4), some (.int x5), o6, o7, o8] [] σ) σ2 := by
  refine ⟨some (.int kk), some (.int b), o8, ?_⟩
  rw [b0_967, r1, Option.bind_some, cI_of h2, s1, Option.bind_some, if_pos h4, cI_of h5, if_pos h6, cI_of h7, if_pos rfl]
  by_cases hk : kk = 0
  · rw [if_pos hk, h8 hk, Option.bind_some, if_pos (lg_self _), b0_1020, b0_3008]
  · rw [if_neg hk, b0_1020, b0_3008]
theorem st_14 (r1 : aI σ okI a0 (x5 + 1) = some v1) (r2 : aI σ okI a0 (x5 + 2) = some v2) (h2 : call G 40 13 [.ref a1, .int v1, .int v2, .ref a3] σ = vI kk σ1) (s1 : aI σ1 okI a0 (x5 + 1) = some v1) (s2 : aI σ1 okI a0 (x5 + 2) = some v2) (h4 : rcv σ1 a2 6 = true) (h5 : call G 40 231 [.ref a2, .int v1, .int v2] σ1 = vI b σ2) (h6 : rcv σ2 a2 6 = true) (h7 : call G 40 189 [.ref a2] σ2 = vI kk σ2) (h8 : kk = 0 → aJ σ2 a3 0 = some b.toInt64) : NX G a0 a1 a2 a3 a4 x5 (run G 41 0 1023 [some (.ref a0), some (.ref a1), some (.ref a2), some (.ref a3), some (.ref a4), some (.int x5), o6, o7, o8] [] σ) σ2 := by
  refine ⟨some (.int kk), some (.int b), o8, ?_⟩
  rw [b0_1023, r1, Option.bind_some, r2, Option.bind_some, cI_of h2, s1, Option.bind_some, s2, Option.bind_some, if_pos h4, cI_of h5, if_pos h6, cI_of h7, if_pos rfl]
  by_cases hk : kk = 0
  · rw [if_pos hk, h8 hk, Option.bind_some, if_pos (lg_self _), b0_1088, b0_3008]
  · rw [if_neg hk, b0_1088, b0_3008]
theorem st_15 (r1 : aI σ okI a0 (x5 + 1) = some v1) (r2 : aI σ okI a0 (x5 + 2) = some v2) (h2 : call G 40 14 [.ref a1, .int v1, .int v2, .ref a3] σ = vI kk σ1) (s1 : aI σ1 okI a0 (x5 + 1) = some v1) (s2 : aI σ1 okI a0 (x5 + 2) = some v2) (h4 : rcv σ1 a2 6 = true) (h5 : call G 40 234 [.ref a2, .int v1, .int v2] σ1 = vI b σ2) (h6 : rcv σ2 a2 6 = true) (h7 : call G 40 189 [.ref a2] σ2 = vI kk σ2) (h8 : kk = 0 → aJ σ2 a3 0 = some b.toInt64) : NX G a0 a1 a2 a3 a4 x5 (run G 41 0 1091 [some (.ref a0), some (.ref a1), some (.ref a2), some (.ref a3), some (.ref a4), some (.int x5), o6, o7, o8] [] σ) σ2 := by
  refine ⟨some (.int kk), some (.int b), o8, ?_⟩
  rw [b0_1091, r1, Option.bind_some, r2, Option.bind_some, cI_of h2, s1, Option.bind_some, s2, Option.bind_some, if_pos h4, cI_of h5, if_pos h6, cI_of h7, if_pos rfl]
  by_cases hk : kk = 0
  · rw [if_pos hk, h8 hk, Option.bind_some, if_pos (lg_self _), b0_1156, b0_3008]
  · rw [if_neg hk, b0_1156, b0_3008]
theorem st_16 (r1 : aI σ okI a0 (x5 + 1) = some v1) (r2 : aI σ okI a0 (x5 + 2) = some v2) (h2 : call G 40 15 [.ref a1, .int v1, .int v2, .ref a3] σ = vI kk σ1) (s1 : aI σ1 okI a0 (x5 + 1) = some v1) (s2 : aI σ1 okI a0 (x5 + 2) = some v2) (h4 : rcv σ1 a2 6 = true) (h5 : call G 40 235 [.ref a2, .int v1, .int v2] σ1 = vI b σ2) (h6 : rcv σ2 a2 6 = true) (h7 : call G 40 189 [.ref a2] σ2 = vI kk σ2) (h8 : kk = 0 → aJ σ2 a3 0 = some (oB b)) : NX G a0 a1 a2 a3 a4 x5 (run G 41 0 1159 [some (.ref a0), some (.ref a1), some (.ref a2), some (.ref a3), some (.ref a4), some (.int x5), o6, o7, o8] [] σ) σ2 := by
  refine ⟨some (.int kk), some (.int b), o8, ?_⟩
  rw [b0_1159, r1, Option.bind_some, r2, Option.bind_some, cI_of h2, s1, Option.bind_some, s2, Option.bind_some, if_pos h4, cI_of h5, if_pos h6, cI_of h7, if_pos rfl]
  by_cases hk : kk = 0
  · rw [if_pos hk, h8 hk, Option.bind_some]
    unfold oB
    by_cases hb : b = 0
    · rw [if_pos hb, if_pos hb, b0_1225, if_pos (lg_self _), b0_1231, b0_3008]
    · rw [if_neg hb, if_neg hb, b0_1225, if_pos (lg_self _), b0_1231, b0_3008]
  · rw [if_neg hk, b0_1231, b0_3008]
theorem st_17 (r1 : aI σ okI a0 (x5 + 1) = some v1) (h2 : call G 40 16 [.ref a1, .int v1, .ref a3] σ = vI kk σ1) (s1 : aI σ1 okI a0 (x5 + 1) = some v1) (h4 : rcv σ1 a2 6 = true) (h5 : call G 40 236 [.ref a2, .int v1] σ1 = vI b σ2) (h6 : rcv σ2 a2 6 = true) (h7 : call G 40 189 [.ref a2] σ2 = vI kk σ2) (h8 : kk = 0 → aJ σ2 a3 0 = some b.toInt64) : NX G a0 a1 a2 a3 a4 x5 (run G 41 0 1234 [some (.ref a0), some (.ref a1), some (.ref a2), some (.ref a3), some (.ref a4), some (.int x5), o6, o7, o8] [] σ) σ2 := by
  refine ⟨some (.int kk), some (.int b), o8, ?_⟩
  rw [b0_1234, r1, Option.bind_some, cI_of h2, s1, Option.bind_some, if_pos h4, cI_of h5, if_pos h6, cI_of h7, if_pos rfl]
  by_cases hk : kk = 0
  · rw [if_pos hk, h8 hk, Option.bind_some, if_pos (lg_self _), b0_1287, b0_3008]
  · rw [if_neg hk, b0_1287, b0_3008]
theorem st_18 (r1 : aI σ okI a0 (x5 + 1) = some v1) (h2 : call G 40 17 [.ref a1, .int v1, .ref a3] σ = vI kk σ1) (s1 : aI σ1 okI a0 (x5 + 1) = some v1) (h4 : rcv σ1 a2 6 = true) (h5 : call G 40 237 [.ref a2, .int v1] σ1 = vI b σ2) (h6 : rcv σ2 a2 6 = true) (h7 : call G 40 189 [.ref a2] σ2 = vI kk σ2) (h8 : kk = 0 → aJ σ2 a3 0 = some b.toInt64) : NX G a0 a1 a2 a3 a4 x5 (run G 41 0 1290 [some (.ref a0), some (.ref a1), some (.ref a2), some (.ref a3), some (.ref a4), some (.int x5), o6, o7, o8] [] σ) σ2 := by
  refine ⟨some (.int kk), some (.int b), o8, ?_⟩
  rw [b0_1290, r1, Option.bind_some, cI_of h2, s1, Option.bind_some, if_pos h4, cI_of h5, if_pos h6, cI_of h7, if_pos rfl]
  by_cases hk : kk = 0
  · rw [if_pos hk, h8 hk, Option.bind_some, if_pos (lg_self _), b0_1343, b0_3008]
  · rw [if_neg hk, b0_1343, b0_3008]
theorem st_19 (r1 : aI σ okI a0 (x5 + 1) = some v1) (r2 : aI σ okI a0 (x5 + 2) = some v2) (r3 : aI σ okI a0 (x5 + 3) = some v3) (r4 : aI σ okI a0 (x5 + 4) = some v4) (h2 : call G 40 18 [.ref a1, .int (v1.toUInt32 % 65536).toInt32, .int v2, .int v3, .int v4, .ref a3] σ = vI kk σ1) (s1 : aI σ1 okI a0 (x5 + 1) = some v1) (s2 : aI σ1 okI a0 (x5 + 2) = some v2) (s3 : aI σ1 okI a0 (x5 + 3) = some v3) (s4 : aI σ1 okI a0 (x5 + 4) = some v4) (h4 : rcv σ1 a2 6 = true) (h5 : call G 40 239 [.ref a2, .int (v1.toUInt32 % 65536).toInt32, .int v2, .int v3, .int v4] σ1 = vI b σ2) (h6 : rcv σ2 a2 6 = true) (h7 : call G 40 189 [.ref a2] σ2 = vI kk σ2) (h8 : kk = 0 → aJ σ2 a3 0 = some b.toInt64) : NX G a0 a1 a2 a3 a4 x5 (run G 41 0 1346 [some (.ref a0), some (.ref a1), some (.ref a2), some (.ref a3), some (.ref a4), some (.int x5), o6, o7, o8] [] σ) σ2 := by
  refine ⟨some (.int kk), some (.int b), o8, ?_⟩
  rw [b0_1346, r1, Option.bind_some, r2, Option.bind_some, r3, Option.bind_some, r4, Option.bind_some, cI_of h2, s1, Option.bind_some, s2, Option.bind_some, s3, Option.bind_some, s4, Option.bind_some, if_pos h4, cI_of h5, if_pos h6, cI_of h7, if_pos rfl]
  by_cases hk : kk = 0
  · rw [if_pos hk, h8 hk, Option.bind_some, if_pos (lg_self _), b0_1437, b0_3008]
  · rw [if_neg hk, b0_1437, b0_3008]
theorem st_20 (r1 : aI σ okI a0 (x5 + 1) = some v1) (h2 : call G 40 19 [.ref a1, .int v1, .ref a3] σ = vI kk σ1) (s1 : aI σ1 okI a0 (x5 + 1) = some v1) (h4 : rcv σ1 a2 6 = true) (h5 : call G 40 241 [.ref a2, .int v1] σ1 = vI b σ2) (h6 : rcv σ2 a2 6 = true) (h7 : call G 40 189 [.ref a2] σ2 = vI kk σ2) (h8 : kk = 0 → aJ σ2 a3 0 = some (oB b)) : NX G a0 a1 a2 a3 a4 x5 (run G 41 0 1440 [some (.ref a0), some (.ref a1), some (.ref a2), some (.ref a3), some (.ref a4), some (.int x5), o6, o7, o8] [] σ) σ2 := by
  refine ⟨some (.int kk), some (.int b), o8, ?_⟩
  rw [b0_1440, r1, Option.bind_some, cI_of h2, s1, Option.bind_some, if_pos h4, cI_of h5, if_pos h6, cI_of h7, if_pos rfl]
  by_cases hk : kk = 0
  · rw [if_pos hk, h8 hk, Option.bind_some]
    unfold oB
    by_cases hb : b = 0
    · rw [if_pos hb, if_pos hb, b0_1494, if_pos (lg_self _), b0_1500, b0_3008]
    · rw [if_neg hb, if_neg hb, b0_1494, if_pos (lg_self _), b0_1500, b0_3008]
  · rw [if_neg hk, b0_1500, b0_3008]
theorem st_21 (h0 : rcv σ a1 5 = true) (h2 : call G 40 66 [.ref a1] σ = vI b σ1) (h4 : rcv σ1 a2 6 = true) (h5 : call G 40 242 [.ref a2] σ1 = vI b σ2) : NX G a0 a1 a2 a3 a4 x5 (run G 41 0 1503 [some (.ref a0), some (.ref a1), some (.ref a2), some (.ref a3), some (.ref a4), some (.int x5), o6, o7, o8] [] σ) σ2 := ⟨o6, o7, o8, by rw [b0_1503, if_pos h0, cI_of h2, if_pos h4, cI_of h5, if_pos rfl, b0_3008]⟩
theorem st_22 (h0 : rcv σ a1 5 = true) (h2 : call G 40 67 [.ref a1] σ = vI b σ1) (h4 : rcv σ1 a2 6 = true) (h5 : call G 40 244 [.ref a2] σ1 = vI b σ2) : NX G a0 a1 a2 a3 a4 x5 (run G 41 0 1516 [some (.ref a0), some (.ref a1), some (.ref a2), some (.ref a3), some (.ref a4), some (.int x5), o6, o7, o8] [] σ) σ2 := ⟨o6, o7, o8, by rw [b0_1516, if_pos h0, cI_of h2, if_pos h4, cI_of h5, if_pos rfl, b0_3008]⟩
theorem st_23 (r1 : aI σ okI a0 (x5 + 1) = some v1) (h2 : call G 40 20 [.ref a1, .int v1, .ref a3] σ = vI kk σ1) (s1 : aI σ1 okI a0 (x5 + 1) = some v1) (h4 : rcv σ1 a2 6 = true) (h5 : call G 40 245 [.ref a2, .int v1] σ1 = vI b σ2) (h6 : rcv σ2 a2 6 = true) (h7 : call G 40 189 [.ref a2] σ2 = vI kk σ2) (h8 : kk = 0 → aJ σ2 a3 0 = some b.toInt64) : NX G a0 a1 a2 a3 a4 x5 (run G 41 0 1529 [some (.ref a0), some (.ref a1), some (.ref a2), some (.ref a3), some (.ref a4), some (.int x5), o6, o7, o8] [] σ) σ2 := by
  refine ⟨some (.int kk), some (.int b), o8, ?_⟩
  rw [b0_1529, r1, Option.bind_some, cI_of h2, s1, Option.bind_some, if_pos h4, cI_of h5, if_pos h6, cI_of h7, if_pos rfl]
  by_cases hk : kk = 0
  · rw [if_pos hk, h8 hk, Option.bind_some, if_pos (lg_self _), b0_1582, b0_3008]
  · rw [if_neg hk, b0_1582, b0_3008]
theorem st_24 (r1 : aI σ okI a0 (x5 + 1) = some v1) (h2 : call G 40 21 [.ref a1, .int v1, .ref a3] σ = vI kk σ1) (s1 : aI σ1 okI a0 (x5 + 1) = some v1) (h4 : rcv σ1 a2 6 = true) (h5 : call G 40 246 [.ref a2, .int v1] σ1 = vI b σ2) (h6 : rcv σ2 a2 6 = true) (h7 : call G 40 189 [.ref a2] σ2 = vI kk σ2) (h8 : kk = 0 → aJ σ2 a3 0 = some b.toInt64) : NX G a0 a1 a2 a3 a4 x5 (run G 41 0 1585 [some (.ref a0), some (.ref a1), some (.ref a2), some (.ref a3), some (.ref a4), some (.int x5), o6, o7, o8] [] σ) σ2 := by
  refine ⟨some (.int kk), some (.int b), o8, ?_⟩
  rw [b0_1585, r1, Option.bind_some, cI_of h2, s1, Option.bind_some, if_pos h4, cI_of h5, if_pos h6, cI_of h7, if_pos rfl]
  by_cases hk : kk = 0
  · rw [if_pos hk, h8 hk, Option.bind_some, if_pos (lg_self _), b0_1638, b0_3008]
  · rw [if_neg hk, b0_1638, b0_3008]
theorem st_25 (r1 : aI σ okI a0 (x5 + 1) = some v1) (h2 : call G 40 22 [.ref a1, .int v1, .ref a3] σ = vI kk σ1) (s1 : aI σ1 okI a0 (x5 + 1) = some v1) (h4 : rcv σ1 a2 6 = true) (h5 : call G 40 247 [.ref a2, .int v1] σ1 = vI b σ2) (h6 : rcv σ2 a2 6 = true) (h7 : call G 40 189 [.ref a2] σ2 = vI kk σ2) (h8 : kk = 0 → aJ σ2 a3 0 = some b.toInt64) : NX G a0 a1 a2 a3 a4 x5 (run G 41 0 1641 [some (.ref a0), some (.ref a1), some (.ref a2), some (.ref a3), some (.ref a4), some (.int x5), o6, o7, o8] [] σ) σ2 := by
  refine ⟨some (.int kk), some (.int b), o8, ?_⟩
  rw [b0_1641, r1, Option.bind_some, cI_of h2, s1, Option.bind_some, if_pos h4, cI_of h5, if_pos h6, cI_of h7, if_pos rfl]
  by_cases hk : kk = 0
  · rw [if_pos hk, h8 hk, Option.bind_some, if_pos (lg_self _), b0_1694, b0_3008]
  · rw [if_neg hk, b0_1694, b0_3008]
theorem st_26 (r1 : aI σ okI a0 (x5 + 1) = some v1) (h2 : call G 40 23 [.ref a1, .int v1, .ref a3] σ = vI kk σ1) (s1 : aI σ1 okI a0 (x5 + 1) = some v1) (h4 : rcv σ1 a2 6 = true) (h5 : call G 40 248 [.ref a2, .int v1] σ1 = vI b σ2) (h6 : rcv σ2 a2 6 = true) (h7 : call G 40 189 [.ref a2] σ2 = vI kk σ2) (h8 : kk = 0 → aJ σ2 a3 0 = some b.toInt64) : NX G a0 a1 a2 a3 a4 x5 (run G 41 0 1697 [some (.ref a0), some (.ref a1), some (.ref a2), some (.ref a3), some (.ref a4), some (.int x5), o6, o7, o8] [] σ) σ2 := by
  refine ⟨some (.int kk), some (.int b), o8, ?_⟩
  rw [b0_1697, r1, Option.bind_some, cI_of h2, s1, Option.bind_some, if_pos h4, cI_of h5, if_pos h6, cI_of h7, if_pos rfl]
  by_cases hk : kk = 0
  · rw [if_pos hk, h8 hk, Option.bind_some, if_pos (lg_self _), b0_1750, b0_3008]
  · rw [if_neg hk, b0_1750, b0_3008]
theorem st_27 (r1 : aI σ okI a0 (x5 + 1) = some v1) (h2 : call G 40 24 [.ref a1, .int v1, .ref a3] σ = vI kk σ1) (s1 : aI σ1 okI a0 (x5 + 1) = some v1) (h4 : rcv σ1 a2 6 = true) (h5 : call G 40 249 [.ref a2, .int v1] σ1 = vI b σ2) (h6 : rcv σ2 a2 6 = true) (h7 : call G 40 189 [.ref a2] σ2 = vI kk σ2) (h8 : kk = 0 → aJ σ2 a3 0 = some b.toInt64) : NX G a0 a1 a2 a3 a4 x5 (run G 41 0 1753 [some (.ref a0), some (.ref a1), some (.ref a2), some (.ref a3), some (.ref a4), some (.int x5), o6, o7, o8] [] σ) σ2 := by
  refine ⟨some (.int kk), some (.int b), o8, ?_⟩
  rw [b0_1753, r1, Option.bind_some, cI_of h2, s1, Option.bind_some, if_pos h4, cI_of h5, if_pos h6, cI_of h7, if_pos rfl]
  by_cases hk : kk = 0
  · rw [if_pos hk, h8 hk, Option.bind_some, if_pos (lg_self _), b0_1806, b0_3008]
  · rw [if_neg hk, b0_1806, b0_3008]
theorem st_28 (r1 : aI σ okI a0 (x5 + 1) = some v1) (r2 : aI σ okI a0 (x5 + 2) = some v2) (h2 : call G 40 25 [.ref a1, .int v1, .int v2, .ref a3] σ = vI kk σ1) (s1 : aI σ1 okI a0 (x5 + 1) = some v1) (s2 : aI σ1 okI a0 (x5 + 2) = some v2) (h4 : rcv σ1 a2 6 = true) (h5 : call G 40 250 [.ref a2, .int v1, .int v2] σ1 = vI b σ2) (h6 : rcv σ2 a2 6 = true) (h7 : call G 40 189 [.ref a2] σ2 = vI kk σ2) (h8 : kk = 0 → aJ σ2 a3 0 = some (oB b)) : NX G a0 a1 a2 a3 a4 x5 (run G 41 0 1809 [some (.ref a0), some (.ref a1), some (.ref a2), some (.ref a3), some (.ref a4), some (.int x5), o6, o7, o8] [] σ) σ2 := by
  refine ⟨some (.int kk), some (.int b), o8, ?_⟩
  rw [b0_1809, r1, Option.bind_some, r2, Option.bind_some, cI_of h2, s1, Option.bind_some, s2, Option.bind_some, if_pos h4, cI_of h5, if_pos h6, cI_of h7, if_pos rfl]
  by_cases hk : kk = 0
  · rw [if_pos hk, h8 hk, Option.bind_some]
    unfold oB
    by_cases hb : b = 0
    · rw [if_pos hb, if_pos hb, b0_1875, if_pos (lg_self _), b0_1881, b0_3008]
    · rw [if_neg hb, if_neg hb, b0_1875, if_pos (lg_self _), b0_1881, b0_3008]
  · rw [if_neg hk, b0_1881, b0_3008]
theorem st_29 (r1 : aI σ okI a0 (x5 + 1) = some v1) (h2 : call G 40 26 [.ref a1, .int v1, .ref a3] σ = vI kk σ1) (s1 : aI σ1 okI a0 (x5 + 1) = some v1) (h4 : rcv σ1 a2 6 = true) (h5 : call G 40 252 [.ref a2, .int v1] σ1 = vI b σ2) (h6 : rcv σ2 a2 6 = true) (h7 : call G 40 189 [.ref a2] σ2 = vI kk σ2) (h8 : kk = 0 → aJ σ2 a3 0 = some b.toInt64) : NX G a0 a1 a2 a3 a4 x5 (run G 41 0 1884 [some (.ref a0), some (.ref a1), some (.ref a2), some (.ref a3), some (.ref a4), some (.int x5), o6, o7, o8] [] σ) σ2 := by
  refine ⟨some (.int kk), some (.int b), o8, ?_⟩
  rw [b0_1884, r1, Option.bind_some, cI_of h2, s1, Option.bind_some, if_pos h4, cI_of h5, if_pos h6, cI_of h7, if_pos rfl]
  by_cases hk : kk = 0
  · rw [if_pos hk, h8 hk, Option.bind_some, if_pos (lg_self _), b0_1937, b0_3008]
  · rw [if_neg hk, b0_1937, b0_3008]
theorem st_30 (r1 : aI σ okI a0 (x5 + 1) = some v1) (h2 : call G 40 27 [.ref a1, .int v1, .ref a3] σ = vI kk σ1) (s1 : aI σ1 okI a0 (x5 + 1) = some v1) (h4 : rcv σ1 a2 6 = true) (h5 : call G 40 254 [.ref a2, .int v1] σ1 = vI b σ2) (h6 : rcv σ2 a2 6 = true) (h7 : call G 40 189 [.ref a2] σ2 = vI kk σ2) (h8 : kk = 0 → aJ σ2 a3 0 = some b.toInt64) : NX G a0 a1 a2 a3 a4 x5 (run G 41 0 1940 [some (.ref a0), some (.ref a1), some (.ref a2), some (.ref a3), some (.ref a4), some (.int x5), o6, o7, o8] [] σ) σ2 := by
  refine ⟨some (.int kk), some (.int b), o8, ?_⟩
  rw [b0_1940, r1, Option.bind_some, cI_of h2, s1, Option.bind_some, if_pos h4, cI_of h5, if_pos h6, cI_of h7, if_pos rfl]
  by_cases hk : kk = 0
  · rw [if_pos hk, h8 hk, Option.bind_some, if_pos (lg_self _), b0_1993, b0_3008]
  · rw [if_neg hk, b0_1993, b0_3008]
theorem st_31 (r1 : aI σ okI a0 (x5 + 1) = some v1) (h2 : call G 40 28 [.ref a1, .int v1, .ref a3] σ = vI kk σ1) (s1 : aI σ1 okI a0 (x5 + 1) = some v1) (h4 : rcv σ1 a2 6 = true) (h5 : call G 40 255 [.ref a2, .int v1] σ1 = vI b σ2) (h6 : rcv σ2 a2 6 = true) (h7 : call G 40 189 [.ref a2] σ2 = vI kk σ2) (h8 : kk = 0 → aJ σ2 a3 0 = some b.toInt64) : NX G a0 a1 a2 a3 a4 x5 (run G 41 0 1996 [some (.ref a0), some (.ref a1), some (.ref a2), some (.ref a3), some (.ref a4), some (.int x5), o6, o7, o8] [] σ) σ2 := by
  refine ⟨some (.int kk), some (.int b), o8, ?_⟩
  rw [b0_1996, r1, Option.bind_some, cI_of h2, s1, Option.bind_some, if_pos h4, cI_of h5, if_pos h6, cI_of h7, if_pos rfl]
  by_cases hk : kk = 0
  · rw [if_pos hk, h8 hk, Option.bind_some, if_pos (lg_self _), b0_2049, b0_3008]
  · rw [if_neg hk, b0_2049, b0_3008]
theorem st_32 (r1 : aI σ okI a0 (x5 + 1) = some v1) (r2 : aI σ okI a0 (x5 + 2) = some v2) (h2 : call G 40 29 [.ref a1, .int v1, .int v2, .ref a3] σ = vI kk σ1) (s1 : aI σ1 okI a0 (x5 + 1) = some v1) (s2 : aI σ1 okI a0 (x5 + 2) = some v2) (h4 : rcv σ1 a2 6 = true) (h5 : call G 40 258 [.ref a2, .int v1, .int v2] σ1 = vI b σ2) (h6 : rcv σ2 a2 6 = true) (h7 : call G 40 189 [.ref a2] σ2 = vI kk σ2) (h8 : kk = 0 → aJ σ2 a3 0 = some b.toInt64) : NX G a0 a1 a2 a3 a4 x5 (run G 41 0 2052 [some (.ref a0), some (.ref a1), some (.ref a2), some (.ref a3), some (.ref a4), some (.int x5), o6, o7, o8] [] σ) σ2 := by
  refine ⟨some (.int kk), some (.int b), o8, ?_⟩
  rw [b0_2052, r1, Option.bind_some, r2, Option.bind_some, cI_of h2, s1, Option.bind_some, s2, Option.bind_some, if_pos h4, cI_of h5, if_pos h6, cI_of h7, if_pos rfl]
  by_cases hk : kk = 0
  · rw [if_pos hk, h8 hk, Option.bind_some, if_pos (lg_self _), b0_2117, b0_3008]
  · rw [if_neg hk, b0_2117, b0_3008]
theorem st_33 (r1 : aI σ okI a0 (x5 + 1) = some v1) (h2 : call G 40 30 [.ref a1, .int v1, .ref a3] σ = vI kk σ1) (s1 : aI σ1 okI a0 (x5 + 1) = some v1) (h4 : rcv σ1 a2 6 = true) (h5 : call G 40 260 [.ref a2, .int v1] σ1 = vI b σ2) (h6 : rcv σ2 a2 6 = true) (h7 : call G 40 189 [.ref a2] σ2 = vI kk σ2) (h8 : kk = 0 → aJ σ2 a3 0 = some b.toInt64) : NX G a0 a1 a2 a3 a4 x5 (run G 41 0 2120 [some (.ref a0), some (.ref a1), some (.ref a2), some (.ref a3), some (.ref a4), some (.int x5), o6, o7, o8] [] σ) σ2 := by
  refine ⟨some (.int kk), some (.int b), o8, ?_⟩
  rw [b0_2120, r1, Option.bind_some, cI_of h2, s1, Option.bind_some, if_pos h4, cI_of h5, if_pos h6, cI_of h7, if_pos rfl]
  by_cases hk : kk = 0
  · rw [if_pos hk, h8 hk, Option.bind_some, if_pos (lg_self _), b0_2173, b0_3008]
  · rw [if_neg hk, b0_2173, b0_3008]
theorem st_34 (r1 : aI σ okI a0 (x5 + 1) = some v1) (h2 : call G 40 31 [.ref a1, .int v1, .ref a3] σ = vI kk σ1) (s1 : aI σ1 okI a0 (x5 + 1) = some v1) (h4 : rcv σ1 a2 6 = true) (h5 : call G 40 262 [.ref a2, .int v1] σ1 = vI b σ2) (h6 : rcv σ2 a2 6 = true) (h7 : call G 40 189 [.ref a2] σ2 = vI kk σ2) (h8 : kk = 0 → aJ σ2 a3 0 = some b.toInt64) : NX G a0 a1 a2 a3 a4 x5 (run G 41 0 2176 [some (.ref a0), some (.ref a1), some (.ref a2), some (.ref a3), some (.ref a4), some (.int x5), o6, o7, o8] [] σ) σ2 := by
  refine ⟨some (.int kk), some (.int b), o8, ?_⟩
  rw [b0_2176, r1, Option.bind_some, cI_of h2, s1, Option.bind_some, if_pos h4, cI_of h5, if_pos h6, cI_of h7, if_pos rfl]
  by_cases hk : kk = 0
  · rw [if_pos hk, h8 hk, Option.bind_some, if_pos (lg_self _), b0_2229, b0_3008]
  · rw [if_neg hk, b0_2229, b0_3008]
theorem st_35 (h0 : rcv σ a1 5 = true) (h2 : call G 40 80 [.ref a1] σ = vI b σ1) (h4 : rcv σ1 a2 6 = true) (h5 : call G 40 265 [.ref a2] σ1 = vI b σ2) : NX G a0 a1 a2 a3 a4 x5 (run G 41 0 2232 [some (.ref a0), some (.ref a1), some (.ref a2), some (.ref a3), some (.ref a4), some (.int x5), o6, o7, o8] [] σ) σ2 := ⟨o6, o7, o8, by rw [b0_2232, if_pos h0, cI_of h2, if_pos h4, cI_of h5, if_pos rfl, b0_3008]⟩
theorem st_36 (h0 : rcv σ a1 5 = true) (h2 : call G 40 81 [.ref a1] σ = vI b σ1) (h4 : rcv σ1 a2 6 = true) (h5 : call G 40 266 [.ref a2] σ1 = vI b σ2) : NX G a0 a1 a2 a3 a4 x5 (run G 41 0 2245 [some (.ref a0), some (.ref a1), some (.ref a2), some (.ref a3), some (.ref a4), some (.int x5), o6, o7, o8] [] σ) σ2 := ⟨o6, o7, o8, by rw [b0_2245, if_pos h0, cI_of h2, if_pos h4, cI_of h5, if_pos rfl, b0_3008]⟩
theorem st_37 (h0 : rcv σ a1 5 = true) (h2 : call G 40 82 [.ref a1] σ = vI b σ1) (h4 : rcv σ1 a2 6 = true) (h5 : call G 40 267 [.ref a2] σ1 = vI b σ2) : NX G a0 a1 a2 a3 a4 x5 (run G 41 0 2258 [some (.ref a0), some (.ref a1), some (.ref a2), some (.ref a3), some (.ref a4), some (.int x5), o6, o7, o8] [] σ) σ2 := ⟨o6, o7, o8, by rw [b0_2258, if_pos h0, cI_of h2, if_pos h4, cI_of h5, if_pos rfl, b0_3008]⟩
theorem st_38 (h0 : rcv σ a1 5 = true) (h2 : call G 40 83 [.ref a1] σ = vI b σ1) (h4 : rcv σ1 a2 6 = true) (h5 : call G 40 269 [.ref a2] σ1 = vI b σ2) : NX G a0 a1 a2 a3 a4 x5 (run G 41 0 2271 [some (.ref a0), some (.ref a1), some (.ref a2), some (.ref a3), some (.ref a4), some (.int x5), o6, o7, o8] [] σ) σ2 := ⟨o6, o7, o8, by rw [b0_2271, if_pos h0, cI_of h2, if_pos h4, cI_of h5, if_pos rfl, b0_3008]⟩
theorem st_39 (h0 : rcv σ a1 5 = true) (h2 : call G 40 84 [.ref a1] σ = vI b σ1) (h4 : rcv σ1 a2 6 = true) (h5 : call G 40 270 [.ref a2] σ1 = vI b σ2) : NX G a0 a1 a2 a3 a4 x5 (run G 41 0 2284 [some (.ref a0), some (.ref a1), some (.ref a2), some (.ref a3), some (.ref a4), some (.int x5), o6, o7, o8] [] σ) σ2 := ⟨o6, o7, o8, by rw [b0_2284, if_pos h0, cI_of h2, if_pos h4, cI_of h5, if_pos rfl, b0_3008]⟩
theorem st_40 (r1 : aI σ okI a0 (x5 + 1) = some v1) (h2 : call G 40 32 [.ref a1, .int v1, .ref a3] σ = vI kk σ1) (s1 : aI σ1 okI a0 (x5 + 1) = some v1) (h4 : rcv σ1 a2 6 = true) (h5 : call G 40 273 [.ref a2, .int v1] σ1 = vI b σ2) (h6 : rcv σ2 a2 6 = true) (h7 : call G 40 189 [.ref a2] σ2 = vI kk σ2) (h8 : kk = 0 → aJ σ2 a3 0 = some b.toInt64) : NX G a0 a1 a2 a3 a4 x5 (run G 41 0 2297 [some (.ref a0), some (.ref a1), some (.ref a2), some (.ref a3), some (.ref a4), some (.int x5), o6, o7, o8] [] σ) σ2 := by
  refine ⟨some (.int kk), some (.int b), o8, ?_⟩
  rw [b0_2297, r1, Option.bind_some, cI_of h2, s1, Option.bind_some, if_pos h4, cI_of h5, if_pos h6, cI_of h7, if_pos rfl]
  by_cases hk : kk = 0
  · rw [if_pos hk, h8 hk, Option.bind_some, if_pos (lg_self _), b0_2350, b0_3008]
  · rw [if_neg hk, b0_2350, b0_3008]
theorem st_41 (h0 : rcv σ a1 5 = true) (h2 : call G 40 86 [.ref a1] σ = vI b σ1) (h4 : rcv σ1 a2 6 = true) (h5 : call G 40 274 [.ref a2] σ1 = vI b σ2) : NX G a0 a1 a2 a3 a4 x5 (run G 41 0 2353 [some (.ref a0), some (.ref a1), some (.ref a2), some (.ref a3), some (.ref a4), some (.int x5), o6, o7, o8] [] σ) σ2 := ⟨o6, o7, o8, by rw [b0_2353, if_pos h0, cI_of h2, if_pos h4, cI_of h5, if_pos rfl, b0_3008]⟩
theorem st_42 (r1 : aI σ okI a0 (x5 + 1) = some v1) (h2 : call G 40 33 [.ref a1, .int v1, .ref a3] σ = vI kk σ1) (s1 : aI σ1 okI a0 (x5 + 1) = some v1) (h4 : rcv σ1 a2 6 = true) (h5 : call G 40 275 [.ref a2, .int v1] σ1 = vI b σ2) (h6 : rcv σ2 a2 6 = true) (h7 : call G 40 189 [.ref a2] σ2 = vI kk σ2) (h8 : kk = 0 → aJ σ2 a3 0 = some b.toInt64) : NX G a0 a1 a2 a3 a4 x5 (run G 41 0 2366 [some (.ref a0), some (.ref a1), some (.ref a2), some (.ref a3), some (.ref a4), some (.int x5), o6, o7, o8] [] σ) σ2 := by
  refine ⟨some (.int kk), some (.int b), o8, ?_⟩
  rw [b0_2366, r1, Option.bind_some, cI_of h2, s1, Option.bind_some, if_pos h4, cI_of h5, if_pos h6, cI_of h7, if_pos rfl]
  by_cases hk : kk = 0
  · rw [if_pos hk, h8 hk, Option.bind_some, if_pos (lg_self _), b0_2419, b0_3008]
  · rw [if_neg hk, b0_2419, b0_3008]
theorem st_43 (h0 : rcv σ a1 5 = true) (h2 : call G 40 88 [.ref a1] σ = vI b σ1) (h4 : rcv σ1 a2 6 = true) (h5 : call G 40 276 [.ref a2] σ1 = vI b σ2) : NX G a0 a1 a2 a3 a4 x5 (run G 41 0 2422 [some (.ref a0), some (.ref a1), some (.ref a2), some (.ref a3), some (.ref a4), some (.int x5), o6, o7, o8] [] σ) σ2 := ⟨o6, o7, o8, by rw [b0_2422, if_pos h0, cI_of h2, if_pos h4, cI_of h5, if_pos rfl, b0_3008]⟩
theorem st_46 (r1 : aI σ okI a0 (x5 + 1) = some v1) (h2 : call G 40 36 [.ref a1, .int v1, .ref a3] σ = vI kk σ1) (s1 : aI σ1 okI a0 (x5 + 1) = some v1) (h4 : rcv σ1 a2 6 = true) (h5 : call G 40 283 [.ref a2, .int v1] σ1 = vI b σ2) (h6 : rcv σ2 a2 6 = true) (h7 : call G 40 189 [.ref a2] σ2 = vI kk σ2) (h8 : kk = 0 → aJ σ2 a3 0 = some b.toInt64) : NX G a0 a1 a2 a3 a4 x5 (run G 41 0 2566 [some (.ref a0), some (.ref a1), some (.ref a2), some (.ref a3), some (.ref a4), some (.int x5), o6, o7, o8] [] σ) σ2 := by
  refine ⟨some (.int kk), some (.int b), o8, ?_⟩
  rw [b0_2566, r1, Option.bind_some, cI_of h2, s1, Option.bind_some, if_pos h4, cI_of h5, if_pos h6, cI_of h7, if_pos rfl]
  by_cases hk : kk = 0
  · rw [if_pos hk, h8 hk, Option.bind_some, if_pos (lg_self _), b0_2619, b0_3008]
  · rw [if_neg hk, b0_2619, b0_3008]
theorem st_47 (h0 : rcv σ a1 5 = true) (h2 : call G 40 92 [.ref a1] σ = vI b σ1) (h4 : rcv σ1 a2 6 = true) (h5 : call G 40 284 [.ref a2] σ1 = vI b σ2) : NX G a0 a1 a2 a3 a4 x5 (run G 41 0 2622 [some (.ref a0), some (.ref a1), some (.ref a2), some (.ref a3), some (.ref a4), some (.int x5), o6, o7, o8] [] σ) σ2 := ⟨o6, o7, o8, by rw [b0_2622, if_pos h0, cI_of h2, if_pos h4, cI_of h5, if_pos rfl, b0_3008]⟩
theorem st_48 (r1 : aI σ okI a0 (x5 + 1) = some v1) (h2 : call G 40 37 [.ref a1, .int v1, .ref a3] σ = vI kk σ1) (s1 : aI σ1 okI a0 (x5 + 1) = some v1) (h4 : rcv σ1 a2 6 = true) (h5 : call G 40 285 [.ref a2, .int v1] σ1 = vI b σ2) (h6 : rcv σ2 a2 6 = true) (h7 : call G 40 189 [.ref a2] σ2 = vI kk σ2) (h8 : kk = 0 → aJ σ2 a3 0 = some b.toInt64) : NX G a0 a1 a2 a3 a4 x5 (run G 41 0 2635 [some (.ref a0), some (.ref a1), some (.ref a2), some (.ref a3), some (.ref a4), some (.int x5), o6, o7, o8] [] σ) σ2 := by
  refine ⟨some (.int kk), some (.int b), o8, ?_⟩
  rw [b0_2635, r1, Option.bind_some, cI_of h2, s1, Option.bind_some, if_pos h4, cI_of h5, if_pos h6, cI_of h7, if_pos rfl]
  by_cases hk : kk = 0
  · rw [if_pos hk, h8 hk, Option.bind_some, if_pos (lg_self _), b0_2688, b0_3008]
  · rw [if_neg hk, b0_2688, b0_3008]
theorem st_49 (h0 : rcv σ a1 5 = true) (h2 : call G 40 94 [.ref a1] σ = vI b σ1) (h4 : rcv σ1 a2 6 = true) (h5 : call G 40 279 [.ref a2] σ1 = vI b σ2) : NX G a0 a1 a2 a3 a4 x5 (run G 41 0 2691 [some (.ref a0), some (.ref a1), some (.ref a2), some (.ref a3), some (.ref a4), some (.int x5), o6, o7, o8] [] σ) σ2 := ⟨o6, o7, o8, by rw [b0_2691, if_pos h0, cI_of h2, if_pos h4, cI_of h5, if_pos rfl, b0_3008]⟩
theorem st_50 (r1 : aI σ okI a0 (x5 + 1) = some v1) (h2 : call G 40 38 [.ref a1, .int (v1.toUInt32 % 65536).toInt32, .ref a3] σ = vI kk σ1) (s1 : aI σ1 okI a0 (x5 + 1) = some v1) (h4 : rcv σ1 a2 6 = true) (h5 : call G 40 286 [.ref a2, .int (v1.toUInt32 % 65536).toInt32] σ1 = vI b σ2) (h6 : rcv σ2 a2 6 = true) (h7 : call G 40 189 [.ref a2] σ2 = vI kk σ2) (h8 : kk = 0 → aJ σ2 a3 0 = some b.toInt64) : NX G a0 a1 a2 a3 a4 x5 (run G 41 0 2704 [some (.ref a0), some (.ref a1), some (.ref a2), some (.ref a3), some (.ref a4), some (.int x5), o6, o7, o8] [] σ) σ2 := by
  refine ⟨some (.int kk), some (.int b), o8, ?_⟩
  rw [b0_2704, r1, Option.bind_some, cI_of h2, s1, Option.bind_some, if_pos h4, cI_of h5, if_pos h6, cI_of h7, if_pos rfl]
  by_cases hk : kk = 0
  · rw [if_pos hk, h8 hk, Option.bind_some, if_pos (lg_self _), b0_2759, b0_3008]
  · rw [if_neg hk, b0_2759, b0_3008]
theorem st_51  (h2 : call G 40 39 [.ref a1, .ref a3] σ = vI kk σ1)  (h4 : rcv σ1 a2 6 = true) (h5 : call G 40 294 [.ref a2] σ1 = vI b σ2) (h6 : rcv σ2 a2 6 = true) (h7 : call G 40 189 [.ref a2] σ2 = vI kk σ2) (h8 : kk = 0 → aJ σ2 a3 0 = some b.toInt64) : NX G a0 a1 a2 a3 a4 x5 (run G 41 0 2762 [some (.ref a0), some (.ref a1), some (.ref a2), some (.ref a3), some (.ref a4), some (.int x5), o6, o7, o8] [] σ) σ2 := by
  refine ⟨some (.int kk), some (.int b), o8, ?_⟩
  rw [b0_2762, cI_of h2, if_pos h4, cI_of h5, if_pos h6, cI_of h7, if_pos rfl]
  by_cases hk : kk = 0
  · rw [if_pos hk, h8 hk, Option.bind_some, if_pos (lg_self _), b0_2803, b0_3008]
  · rw [if_neg hk, b0_2803, b0_3008]
theorem st_52  (h2 : call G 40 40 [.ref a1, .ref a3] σ = vI kk σ1)  (h4 : rcv σ1 a2 6 = true) (h5 : call G 40 295 [.ref a2] σ1 = vI b σ2) (h6 : rcv σ2 a2 6 = true) (h7 : call G 40 189 [.ref a2] σ2 = vI kk σ2) (h8 : kk = 0 → aJ σ2 a3 0 = some b.toInt64) : NX G a0 a1 a2 a3 a4 x5 (run G 41 0 2806 [some (.ref a0), some (.ref a1), some (.ref a2), some (.ref a3), some (.ref a4), some (.int x5), o6, o7, o8] [] σ) σ2 := by
  refine ⟨some (.int kk), some (.int b), o8, ?_⟩
  rw [b0_2806, cI_of h2, if_pos h4, cI_of h5, if_pos h6, cI_of h7, if_pos rfl]
  by_cases hk : kk = 0
  · rw [if_pos hk, h8 hk, Option.bind_some, if_pos (lg_self _), b0_2847, b0_3008]
  · rw [if_neg hk, b0_2847, b0_3008]
theorem st_53  (h2 : call G 40 41 [.ref a1, .ref a3] σ = vI kk σ1)  (h4 : rcv σ1 a2 6 = true) (h5 : call G 40 296 [.ref a2] σ1 = vI b σ2) (h6 : rcv σ2 a2 6 = true) (h7 : call G 40 189 [.ref a2] σ2 = vI kk σ2) (h8 : kk = 0 → aJ σ2 a3 0 = some b.toInt64) : NX G a0 a1 a2 a3 a4 x5 (run G 41 0 2850 [some (.ref a0), some (.ref a1), some (.ref a2), some (.ref a3), some (.ref a4), some (.int x5), o6, o7, o8] [] σ) σ2 := by
  refine ⟨some (.int kk), some (.int b), o8, ?_⟩
  rw [b0_2850, cI_of h2, if_pos h4, cI_of h5, if_pos h6, cI_of h7, if_pos rfl]
  by_cases hk : kk = 0
  · rw [if_pos hk, h8 hk, Option.bind_some, if_pos (lg_self _), b0_2891, b0_3008]
  · rw [if_neg hk, b0_2891, b0_3008]
theorem st_54  (h2 : call G 40 42 [.ref a1, .ref a3] σ = vI kk σ1)  (h4 : rcv σ1 a2 6 = true) (h5 : call G 40 297 [.ref a2] σ1 = vI b σ2) (h6 : rcv σ2 a2 6 = true) (h7 : call G 40 189 [.ref a2] σ2 = vI kk σ2) (h8 : kk = 0 → aJ σ2 a3 0 = some b.toInt64) : NX G a0 a1 a2 a3 a4 x5 (run G 41 0 2894 [some (.ref a0), some (.ref a1), some (.ref a2), some (.ref a3), some (.ref a4), some (.int x5), o6, o7, o8] [] σ) σ2 := by
  refine ⟨some (.int kk), some (.int b), o8, ?_⟩
  rw [b0_2894, cI_of h2, if_pos h4, cI_of h5, if_pos h6, cI_of h7, if_pos rfl]
  by_cases hk : kk = 0
  · rw [if_pos hk, h8 hk, Option.bind_some, if_pos (lg_self _), b0_2935, b0_3008]
  · rw [if_neg hk, b0_2935, b0_3008]
theorem st_55 (h0 : rcv σ a1 5 = true) (h2 : call G 40 100 [.ref a1] σ = vI b σ1) (h4 : rcv σ1 a2 6 = true) (h5 : call G 40 298 [.ref a2] σ1 = vI b σ2) : NX G a0 a1 a2 a3 a4 x5 (run G 41 0 2938 [some (.ref a0), some (.ref a1), some (.ref a2), some (.ref a3), some (.ref a4), some (.int x5), o6, o7, o8] [] σ) σ2 := ⟨o6, o7, o8, by rw [b0_2938, if_pos h0, cI_of h2, if_pos h4, cI_of h5, if_pos rfl, b0_3008]⟩
theorem st_56 (h0 : rcv σ a1 5 = true) (h2 : call G 40 101 [.ref a1] σ = vI b σ1) (h4 : rcv σ1 a2 6 = true) (h5 : call G 40 299 [.ref a2] σ1 = vI b σ2) : NX G a0 a1 a2 a3 a4 x5 (run G 41 0 2951 [some (.ref a0), some (.ref a1), some (.ref a2), some (.ref a3), some (.ref a4), some (.int x5), o6, o7, o8] [] σ) σ2 := ⟨o6, o7, o8, by rw [b0_2951, if_pos h0, cI_of h2, if_pos h4, cI_of h5, if_pos rfl, b0_3008]⟩
theorem st_57  (h2 : call G 40 43 [.ref a1, .ref a3] σ = vI kk σ1)  (h4 : rcv σ1 a2 6 = true) (h5 : call G 40 300 [.ref a2] σ1 = vI b σ2) (h6 : rcv σ2 a2 6 = true) (h7 : call G 40 189 [.ref a2] σ2 = vI kk σ2) (h8 : kk = 0 → aJ σ2 a3 0 = some b.toInt64) : NX G a0 a1 a2 a3 a4 x5 (run G 41 0 2964 [some (.ref a0), some (.ref a1), some (.ref a2), some (.ref a3), some (.ref a4), some (.int x5), o6, o7, o8] [] σ) σ2 := by
  refine ⟨some (.int kk), some (.int b), o8, ?_⟩
  rw [b0_2964, cI_of h2, if_pos h4, cI_of h5, if_pos h6, cI_of h7, if_pos rfl]
  by_cases hk : kk = 0
  · rw [if_pos hk, h8 hk, Option.bind_some, if_pos (lg_self _), b0_3005, b0_3008]
  · rw [if_neg hk, b0_3005, b0_3008]
end
