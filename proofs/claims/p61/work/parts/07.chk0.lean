/-! CHECKS of the tables, part 1: words by their places. (printed by wip/whole/gen_chk.py) -/
noncomputable def allB (n : Nat) (f : Nat → Bool) : Bool := Nat.rec true (fun k r => cond (f k) r false) n
theorem allB_ok {f : Nat → Bool} : ∀ {n : Nat}, allB n f = true → ∀ k, k < n → f k = true
  | 0, _, k, hk => absurd hk (Nat.not_lt_zero k)
  | n + 1, h, k, hk => by
    have h' : cond (f n) (allB n f) false = true := h
    cases hf : f n with
    | false => rw [hf] at h'; cases h'
    | true =>
      rw [hf] at h'
      rcases Nat.lt_succ_iff_lt_or_eq.mp hk with h1 | h1
      · exact allB_ok h' k h1
      · rw [h1]; exact hf
def chkL (j : Nat) : List Cond := cond (Nat.ble 6 j) (cond (Nat.ble 8 j) (cond (Nat.beq j 8) tables_1_7 []) (cond (Nat.beq j 6) tables_1_5 tables_1_6)) (cond (Nat.ble 3 j) (cond (Nat.beq j 3) tables_1_2 (cond (Nat.beq j 4) tables_1_3 tables_1_4)) (cond (Nat.beq j 0) lw_xtra (cond (Nat.beq j 1) (k2_sels lw_privs) tables_1_1)))
theorem chkL_in {j : Nat} {w : Cond} (h : w ∈ chkL j) : w ∈ lw_xtra ++ lw_tbl := by
  have e : ∀ {b : Bool} {x y : List Cond}, w ∈ cond b x y → w ∈ x ∨ w ∈ y := by
    intro b x y h
    cases b
    · exact Or.inr h
    · exact Or.inl h
  unfold chkL at h
  simp only [lw_tbl, tables_1, List.mem_append]
  rcases e h with h | h
  · rcases e h with h | h
    · rcases e h with h | h
      · simp [h]
      · cases h
    · rcases e h with h | h <;> simp [h]
  · rcases e h with h | h
    · rcases e h with h | h
      · simp [h]
      · rcases e h with h | h <;> simp [h]
    · rcases e h with h | h
      · simp [h]
      · rcases e h with h | h <;> simp [h]
def atB (pl : Nat) (w : Cond) : Bool := decide ((chkL (pl / 1000))[pl % 1000]? = some w) && goodWord w
theorem atB_ok {pl : Nat} {w : Cond} (h : atB pl w = true) : w ∈ TBg := by
  unfold atB at h
  rw [Bool.and_eq_true] at h
  exact List.mem_filter.mpr ⟨chkL_in (List.mem_of_getElem? (of_decide_eq_true h.1)), h.2⟩
def atN (pl : Nat) (w : Cond) : Bool := decide ((chkL (pl / 1000))[pl % 1000]? = some w)
theorem atN_ok {pl : Nat} {w : Cond} (h : atN pl w = true) : w ∈ lw_xtra ++ lw_tbl := chkL_in (List.mem_of_getElem? (of_decide_eq_true h))
theorem tab2_lt {α : Type} {k x : Nat} {g : Option α} {v : α} (h : cond (Nat.blt k 18) (cond (Nat.blt x 1100) g none) none = some v) : k < 18 ∧ x < 1100 := by
  cases h1 : Nat.blt k 18 with
  | false => rw [h1] at h; cases h
  | true =>
    rw [h1] at h
    cases h2 : Nat.blt x 1100 with
    | false => rw [h2] at h; cases h
    | true => exact ⟨Nat.le_of_ble_eq_true h1, Nat.le_of_ble_eq_true h2⟩
def plF_1 (x : Nat) : Nat := (cond (Nat.ble 125 x) (cond (Nat.ble 201 x) (cond (Nat.ble 324 x) (cond (Nat.ble 414 x) (cond (Nat.ble 427 x) (cond (Nat.beq x 427) (2225) 0) (cond (Nat.beq x 414) (2227) 0)) (cond (Nat.ble 342 x) (cond (Nat.beq x 342) (2222) 0) (cond (Nat.beq x 324) (2219) 0))) (cond (Nat.ble 207 x) (cond (Nat.ble 266 x) (cond (Nat.beq x 266) (2143) 0) (cond (Nat.beq x 207) (2124) 0)) (cond (Nat.ble 204 x) (cond (Nat.beq x 204) (2121) 0) (cond (Nat.beq x 201) (2118) 0)))) (cond (Nat.ble 142 x) (cond (Nat.ble 180 x) (cond (Nat.ble 200 x) (cond (Nat.beq x 200) (2115) 0) (cond (Nat.beq x 180) (2112) 0)) (cond (Nat.ble 177 x) (cond (Nat.beq x 177) (2141) 0) (cond (Nat.beq x 142) (2079) 0))) (cond (Nat.ble 132 x) (cond (Nat.ble 135 x) (cond (Nat.beq x 135) (2071) 0) (cond (Nat.beq x 132) (2068) 0)) (cond (Nat.ble 128 x) (cond (Nat.beq x 128) (2065) 0) (cond (Nat.beq x 125) (2063) 0))))) (cond (Nat.ble 44 x) (cond (Nat.ble 72 x) (cond (Nat.ble 81 x) (cond (Nat.ble 113 x) (cond (Nat.beq x 113) (2059) 0) (cond (Nat.beq x 81) (2074) 0)) (cond (Nat.ble 76 x) (cond (Nat.beq x 76) (2061) 0) (cond (Nat.beq x 72) (2137) 0))) (cond (Nat.ble 55 x) (cond (Nat.ble 58 x) (cond (Nat.beq x 58) (3016) 0) (cond (Nat.beq x 55) (3015) 0)) (cond (Nat.ble 51 x) (cond (Nat.beq x 51) (3014) 0) (cond (Nat.beq x 44) (3013) 0)))) (cond (Nat.ble 22 x) (cond (Nat.ble 30 x) (cond (Nat.ble 37 x) (cond (Nat.beq x 37) (3012) 0) (cond (Nat.beq x 30) (3011) 0)) (cond (Nat.ble 26 x) (cond (Nat.beq x 26) (3010) 0) (cond (Nat.beq x 22) (3009) 0))) (cond (Nat.ble 16 x) (cond (Nat.ble 19 x) (cond (Nat.beq x 19) (3008) 0) (cond (Nat.beq x 16) (3007) 0)) (cond (Nat.beq x 10) (3006) 0)))))
def plF_2 (x : Nat) : Nat := (cond (Nat.ble 26 x) (cond (Nat.ble 32 x) (cond (Nat.ble 35 x) (cond (Nat.ble 38 x) (cond (Nat.beq x 38) (2080) 0) (cond (Nat.beq x 35) (2076) 0)) (cond (Nat.beq x 32) (2073) 0)) (cond (Nat.ble 29 x) (cond (Nat.beq x 29) (2070) 0) (cond (Nat.beq x 26) (2067) 0))) (cond (Nat.ble 18 x) (cond (Nat.ble 22 x) (cond (Nat.beq x 22) (2064) 0) (cond (Nat.beq x 18) (2062) 0)) (cond (Nat.ble 15 x) (cond (Nat.beq x 15) (2060) 0) (cond (Nat.beq x 9) (2056) 0))))
def plF_3 (x : Nat) : Nat := (cond (Nat.ble 114 x) (cond (Nat.ble 133 x) (cond (Nat.ble 137 x) (cond (Nat.ble 140 x) (cond (Nat.beq x 140) (2120) 0) (cond (Nat.beq x 137) (2117) 0)) (cond (Nat.ble 134 x) (cond (Nat.beq x 134) (2069) 0) (cond (Nat.beq x 133) (2066) 0))) (cond (Nat.ble 120 x) (cond (Nat.ble 129 x) (cond (Nat.beq x 129) (2114) 0) (cond (Nat.beq x 120) (2072) 0)) (cond (Nat.ble 117 x) (cond (Nat.beq x 117) (2123) 0) (cond (Nat.beq x 114) (2075) 0)))) (cond (Nat.ble 50 x) (cond (Nat.ble 85 x) (cond (Nat.ble 112 x) (cond (Nat.beq x 112) (2078) 0) (cond (Nat.beq x 85) (2111) 0)) (cond (Nat.ble 78 x) (cond (Nat.beq x 78) (2081) 0) (cond (Nat.beq x 50) (2058) 0))) (cond (Nat.ble 21 x) (cond (Nat.ble 25 x) (cond (Nat.beq x 25) (2142) 0) (cond (Nat.beq x 21) (2139) 0)) (cond (Nat.beq x 12) (2136) 0))))
def plF_4 (x : Nat) : Nat := (cond (Nat.ble 26 x) (cond (Nat.ble 33 x) (cond (Nat.ble 36 x) (cond (Nat.ble 51 x) (cond (Nat.beq x 51) (8166) 0) (cond (Nat.beq x 36) (2228) 0)) (cond (Nat.beq x 33) (2226) 0)) (cond (Nat.ble 29 x) (cond (Nat.beq x 29) (2224) 0) (cond (Nat.beq x 26) (2223) 0))) (cond (Nat.ble 19 x) (cond (Nat.ble 23 x) (cond (Nat.beq x 23) (2221) 0) (cond (Nat.beq x 19) (2220) 0)) (cond (Nat.ble 15 x) (cond (Nat.beq x 15) (2218) 0) (cond (Nat.beq x 9) (2217) 0))))
def plF_5 (x : Nat) : Nat := (cond (Nat.ble 28 x) (cond (Nat.ble 76 x) (cond (Nat.ble 80 x) (cond (Nat.ble 91 x) (cond (Nat.beq x 91) (2077) 0) (cond (Nat.beq x 80) (2110) 0)) (cond (Nat.beq x 76) (2140) 0)) (cond (Nat.ble 59 x) (cond (Nat.ble 63 x) (cond (Nat.beq x 63) (2057) 0) (cond (Nat.beq x 59) (2138) 0)) (cond (Nat.beq x 28) (2163) 0))) (cond (Nat.ble 18 x) (cond (Nat.ble 21 x) (cond (Nat.ble 25 x) (cond (Nat.beq x 25) (2162) 0) (cond (Nat.beq x 21) (2161) 0)) (cond (Nat.beq x 18) (2160) 0)) (cond (Nat.ble 15 x) (cond (Nat.beq x 15) (2159) 0) (cond (Nat.beq x 9) (2158) 0))))
def plF_6 (x : Nat) : Nat := (cond (Nat.ble 19 x) (cond (Nat.ble 23 x) (cond (Nat.ble 26 x) (cond (Nat.beq x 26) (2122) 0) (cond (Nat.beq x 23) (2119) 0)) (cond (Nat.beq x 19) (2116) 0)) (cond (Nat.ble 15 x) (cond (Nat.beq x 15) (2113) 0) (cond (Nat.beq x 9) (2109) 0)))
def plF_8 (x : Nat) : Nat := (cond (Nat.ble 73 x) (cond (Nat.ble 79 x) (cond (Nat.beq x 79) (2200) 0) (cond (Nat.beq x 73) (2198) 0)) (cond (Nat.ble 22 x) (cond (Nat.beq x 22) (2197) 0) (cond (Nat.beq x 15) (2196) 0)))
def plF_9 (x : Nat) : Nat := (cond (Nat.beq x 7) (8167) 0)
def plF_12 (x : Nat) : Nat := (cond (Nat.ble 15 x) (cond (Nat.ble 1048 x) (cond (Nat.beq x 1048) (2199) 0) (cond (Nat.beq x 15) (7096) 0)) (cond (Nat.beq x 9) (7095) 0))
def plF (k x : Nat) : Nat := (cond (Nat.ble 5 k) (cond (Nat.ble 8 k) (cond (Nat.ble 9 k) (cond (Nat.ble 12 k) (cond (Nat.beq k 12) (plF_12 x) 0) (cond (Nat.beq k 9) (plF_9 x) 0)) (cond (Nat.beq k 8) (plF_8 x) 0)) (cond (Nat.ble 6 k) (cond (Nat.beq k 6) (plF_6 x) 0) (cond (Nat.beq k 5) (plF_5 x) 0))) (cond (Nat.ble 3 k) (cond (Nat.ble 4 k) (cond (Nat.beq k 4) (plF_4 x) 0) (cond (Nat.beq k 3) (plF_3 x) 0)) (cond (Nat.ble 2 k) (cond (Nat.beq k 2) (plF_2 x) 0) (cond (Nat.beq k 1) (plF_1 x) 0))))
def chkF (k x : Nat) : Bool := match rfT k x with
  | none => true
  | some (ci, f, ty) => match clT[ci]? with
    | some r => decide (ci < 100) && (decide (f < r.2.2) && (atB (plF k x) (Cond.fieldLink (ownT k) x (r.2.1 f).1 (r.2.1 f).2.1 (r.2.1 f).2.2.1) && (decide (tyT ci f = ty) && (match pfT k x with
      | none => true
      | some 0 => !(r.2.1 f).2.2.2
      | some _ => (r.2.1 f).2.2.2 && decide ((r.2.1 f).1 = ownT k)))))
    | none => decide (100 ≤ ci) && (atB (plF k x) (Cond.fieldLink (ownT k) x (roF ci f).1 (roF ci f).2.1 (roF ci f).2.2) && ((pfT k x).isNone && decide (f < 9)))
theorem chkF_all : allB 18 (fun k => allB 1100 fun x => chkF k x) = true := by decide +kernel
theorem tab_F : ∀ k x ci f ty, rfT k x = some (ci, f, ty) → FldOK k x ci f ty ∨ FldRo k x ci f := by
  intro k x ci f ty h
  obtain ⟨hk, hx⟩ := tab2_lt h
  have hc := allB_ok (allB_ok chkF_all k hk) x hx
  unfold chkF at hc
  rw [h] at hc
  simp only at hc
  split at hc
  · rename_i r hr
    simp only [Bool.and_eq_true] at hc
    obtain ⟨h1, h2, h3, h4, h5⟩ := hc
    refine Or.inl ⟨r, hr, of_decide_eq_true h1, of_decide_eq_true h2, atB_ok h3, of_decide_eq_true h4, fun hp => ?_, fun z hp => ?_⟩
    · rw [hp] at h5
      simpa using h5
    · rw [hp] at h5
      simpa using h5
  · simp only [Bool.and_eq_true] at hc
    obtain ⟨h1, h2, h3, h4⟩ := hc
    exact Or.inr ⟨of_decide_eq_true h1, atB_ok h2, by simpa using h3, of_decide_eq_true h4⟩
