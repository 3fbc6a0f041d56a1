/-! CHECKS of the tables, part 5 (printed by wip/whole/gen_chk3.py) -/
def plKc_8 (x : Nat) : Nat := (cond (Nat.beq x 39) (4185) 0)
def plKc_10 (x : Nat) : Nat := (cond (Nat.ble 266 x) (cond (Nat.ble 267 x) (cond (Nat.beq x 267) (3071) 0) (cond (Nat.beq x 266) (3070) 0)) (cond (Nat.beq x 265) (3069) 0))
def plKc_16 (x : Nat) : Nat := (cond (Nat.beq x 200) (4181) 0)
def plKc (k x : Nat) : Nat := (cond (Nat.ble 10 k) (cond (Nat.ble 16 k) (cond (Nat.beq k 16) (plKc_16 x) 0) (cond (Nat.beq k 10) (plKc_10 x) 0)) (cond (Nat.beq k 8) (plKc_8 x) 0))
def chkK (k x : Nat) : Bool := match kcT k x with
  | none => true
  | some v => atB (plKc k x) (Cond.constant (ownT k) x v)
theorem chkK_all : allB 18 (fun k => allB 1100 fun x => chkK k x) = true := by decide +kernel
theorem tab_K : ∀ k x v, kcT k x = some v → Cond.constant (ownT k) x v ∈ TBg := by
  intro k x v h
  obtain ⟨hk, hx⟩ := tab2_lt h
  have hc := allB_ok (allB_ok chkK_all k hk) x hx
  unfold chkK at hc
  rw [h] at hc
  exact atB_ok hc
def plCl_0 (x : Nat) : Nat := (cond (Nat.ble 162 x) (cond (Nat.beq x 162) (8089) 0) (cond (Nat.beq x 8) (2034) 0))
def plCl_1 (x : Nat) : Nat := (cond (Nat.ble 41 x) (cond (Nat.ble 48 x) (cond (Nat.beq x 48) (2209) 0) (cond (Nat.beq x 41) (2176) 0)) (cond (Nat.ble 34 x) (cond (Nat.beq x 34) (2150) 0) (cond (Nat.beq x 7) (2042) 0)))
def plCl_3 (x : Nat) : Nat := (cond (Nat.ble 18 x) (cond (Nat.beq x 18) (2101) 0) (cond (Nat.beq x 9) (2048) 0))
def plCl (k x : Nat) : Nat := (cond (Nat.ble 1 k) (cond (Nat.ble 3 k) (cond (Nat.beq k 3) (plCl_3 x) 0) (cond (Nat.beq k 1) (plCl_1 x) 0)) (cond (Nat.beq k 0) (plCl_0 x) 0))
def plIs (i : Nat) : Nat := (cond (Nat.ble 4 i) (cond (Nat.ble 6 i) (cond (Nat.ble 7 i) (cond (Nat.beq i 7) (2177) 0) (cond (Nat.beq i 6) (8090) 0)) (cond (Nat.ble 5 i) (cond (Nat.beq i 5) (2035) 0) (cond (Nat.beq i 4) (2102) 0))) (cond (Nat.ble 2 i) (cond (Nat.ble 3 i) (cond (Nat.beq i 3) (2151) 0) (cond (Nat.beq i 2) (2210) 0)) (cond (Nat.ble 1 i) (cond (Nat.beq i 1) (2043) 0) (cond (Nat.beq i 0) (2049) 0))))
def plIn (i : Nat) : Nat := (cond (Nat.ble 4 i) (cond (Nat.ble 6 i) (cond (Nat.ble 7 i) (cond (Nat.beq i 7) (2007) 0) (cond (Nat.beq i 6) (2011) 0)) (cond (Nat.ble 5 i) (cond (Nat.beq i 5) (2001) 0) (cond (Nat.beq i 4) (2004) 0))) (cond (Nat.ble 2 i) (cond (Nat.ble 3 i) (cond (Nat.beq i 3) (2005) 0) (cond (Nat.beq i 2) (2010) 0)) (cond (Nat.ble 1 i) (cond (Nat.beq i 1) (2002) 0) (cond (Nat.beq i 0) (2003) 0))))
def chkN (k x : Nat) : Bool := match rcT k x with
  | none => true
  | some (ci, fs) => match clT[ci]? with
    | some r => decide (ci < 100) && (atB (plCl k x) (Cond.classLink (ownT k) x r.1) && (atB (plIs ci) (Cond.instantiable r.1 r.2.2) && (atB (plIn ci) (Cond.initialized r.1) && decide (fs = (List.range r.2.2).map fun j => defaultValue (tyT ci j)))))
    | none => false
theorem chkN_all : allB 18 (fun k => allB 1100 fun x => chkN k x) = true := by decide +kernel
theorem tab_N : ∀ k x ci fs, rcT k x = some (ci, fs) → NewOK k x ci fs := by
  intro k x ci fs h
  obtain ⟨hk, hx⟩ := tab2_lt h
  have hc := allB_ok (allB_ok chkN_all k hk) x hx
  unfold chkN at hc
  rw [h] at hc
  simp only at hc
  split at hc
  · rename_i r hr
    simp only [Bool.and_eq_true] at hc
    obtain ⟨a1, a2, a3, a4, a5⟩ := hc
    exact ⟨r, hr, of_decide_eq_true a1, atB_ok a2, atB_ok a3, atB_ok a4, of_decide_eq_true a5⟩
  · cases hc
def chkA (k x : Nat) : Bool := match raT k x with
  | none => true
  | some C => decide (C = "CloudInterviews$Board") && atB (plCl k x) (Cond.classLink (ownT k) x C)
theorem chkA_all : allB 18 (fun k => allB 1100 fun x => chkA k x) = true := by decide +kernel
theorem tab_A : ∀ k x C, raT k x = some C → C = "CloudInterviews$Board" ∧ Cond.classLink (ownT k) x C ∈ TBg := by
  intro k x C h
  obtain ⟨hk, hx⟩ := tab2_lt h
  have hc := allB_ok (allB_ok chkA_all k hk) x hx
  unfold chkA at hc
  rw [h] at hc
  simp only [Bool.and_eq_true] at hc
  exact ⟨of_decide_eq_true hc.1, atB_ok hc.2⟩
theorem tab_na : ∀ ty, naT ty = true → Cond.arrayClass (Op.newarray.typeOf ty) ∈ TBg := by
  intro ty h
  cases ty
  case int => exact atB_ok (pl := 2099) (by decide +kernel)
  case char => exact atB_ok (pl := 2100) (by decide +kernel)
  case boolean => exact atB_ok (pl := 2175) (by decide +kernel)
  case byte => exact atB_ok (pl := 2208) (by decide +kernel)
  case long => exact atB_ok (pl := 10132) (by decide +kernel)
  case double => exact atB_ok (pl := 10133) (by decide +kernel)
  all_goals (cases h)
def plLay (ci k : Nat) : Nat := (cond (Nat.ble 4 ci) (cond (Nat.ble 6 ci) (cond (Nat.ble 7 ci) (cond (Nat.beq ci 7) ((cond (Nat.ble 2 k) (cond (Nat.ble 3 k) (cond (Nat.beq k 3) (2205) 0) (cond (Nat.beq k 2) (2203) 0)) (cond (Nat.ble 1 k) (cond (Nat.beq k 1) (2201) 0) (cond (Nat.beq k 0) (2199) 0)))) 0) (cond (Nat.beq ci 6) ((cond (Nat.ble 8 k) (cond (Nat.ble 12 k) (cond (Nat.ble 14 k) (cond (Nat.ble 15 k) (cond (Nat.ble 16 k) (cond (Nat.beq k 16) (8144) 0) (cond (Nat.beq k 15) (8142) 0)) (cond (Nat.beq k 14) (8140) 0)) (cond (Nat.ble 13 k) (cond (Nat.beq k 13) (8138) 0) (cond (Nat.beq k 12) (8136) 0))) (cond (Nat.ble 10 k) (cond (Nat.ble 11 k) (cond (Nat.beq k 11) (8134) 0) (cond (Nat.beq k 10) (8132) 0)) (cond (Nat.ble 9 k) (cond (Nat.beq k 9) (8130) 0) (cond (Nat.beq k 8) (8128) 0)))) (cond (Nat.ble 4 k) (cond (Nat.ble 6 k) (cond (Nat.ble 7 k) (cond (Nat.beq k 7) (8126) 0) (cond (Nat.beq k 6) (8124) 0)) (cond (Nat.ble 5 k) (cond (Nat.beq k 5) (8122) 0) (cond (Nat.beq k 4) (8120) 0))) (cond (Nat.ble 2 k) (cond (Nat.ble 3 k) (cond (Nat.beq k 3) (8118) 0) (cond (Nat.beq k 2) (8116) 0)) (cond (Nat.ble 1 k) (cond (Nat.beq k 1) (8114) 0) (cond (Nat.beq k 0) (8112) 0)))))) 0)) (cond (Nat.ble 5 ci) (cond (Nat.beq ci 5) ((cond (Nat.ble 5 k) (cond (Nat.ble 8 k) (cond (Nat.ble 9 k) (cond (Nat.ble 10 k) (cond (Nat.beq k 10) (3035) 0) (cond (Nat.beq k 9) (3033) 0)) (cond (Nat.beq k 8) (3031) 0)) (cond (Nat.ble 6 k) (cond (Nat.ble 7 k) (cond (Nat.beq k 7) (3029) 0) (cond (Nat.beq k 6) (3027) 0)) (cond (Nat.beq k 5) (3025) 0))) (cond (Nat.ble 2 k) (cond (Nat.ble 3 k) (cond (Nat.ble 4 k) (cond (Nat.beq k 4) (3023) 0) (cond (Nat.beq k 3) (3021) 0)) (cond (Nat.beq k 2) (3019) 0)) (cond (Nat.ble 1 k) (cond (Nat.beq k 1) (3017) 0) (cond (Nat.beq k 0) (3015) 0))))) 0) (cond (Nat.beq ci 4) ((cond (Nat.ble 2 k) (cond (Nat.ble 3 k) (cond (Nat.ble 4 k) (cond (Nat.beq k 4) (2131) 0) (cond (Nat.beq k 3) (2129) 0)) (cond (Nat.beq k 2) (2127) 0)) (cond (Nat.ble 1 k) (cond (Nat.beq k 1) (2125) 0) (cond (Nat.beq k 0) (2123) 0)))) 0))) (cond (Nat.ble 2 ci) (cond (Nat.ble 3 ci) (cond (Nat.beq ci 3) ((cond (Nat.ble 3 k) (cond (Nat.ble 4 k) (cond (Nat.ble 5 k) (cond (Nat.beq k 5) (2172) 0) (cond (Nat.beq k 4) (2170) 0)) (cond (Nat.beq k 3) (2168) 0)) (cond (Nat.ble 1 k) (cond (Nat.ble 2 k) (cond (Nat.beq k 2) (2166) 0) (cond (Nat.beq k 1) (2164) 0)) (cond (Nat.beq k 0) (2162) 0)))) 0) (cond (Nat.beq ci 2) ((cond (Nat.ble 4 k) (cond (Nat.ble 6 k) (cond (Nat.ble 7 k) (cond (Nat.beq k 7) (3001) 0) (cond (Nat.beq k 6) (2239) 0)) (cond (Nat.ble 5 k) (cond (Nat.beq k 5) (2237) 0) (cond (Nat.beq k 4) (2235) 0))) (cond (Nat.ble 2 k) (cond (Nat.ble 3 k) (cond (Nat.beq k 3) (2233) 0) (cond (Nat.beq k 2) (2231) 0)) (cond (Nat.ble 1 k) (cond (Nat.beq k 1) (2229) 0) (cond (Nat.beq k 0) (2227) 0))))) 0)) (cond (Nat.ble 1 ci) (cond (Nat.beq ci 1) ((cond (Nat.ble 1 k) (cond (Nat.ble 2 k) (cond (Nat.beq k 2) (2146) 0) (cond (Nat.beq k 1) (2144) 0)) (cond (Nat.beq k 0) (2142) 0))) 0) (cond (Nat.beq ci 0) ((cond (Nat.ble 4 k) (cond (Nat.ble 6 k) (cond (Nat.ble 7 k) (cond (Nat.ble 8 k) (cond (Nat.beq k 8) (2096) 0) (cond (Nat.beq k 7) (2094) 0)) (cond (Nat.beq k 6) (2092) 0)) (cond (Nat.ble 5 k) (cond (Nat.beq k 5) (2090) 0) (cond (Nat.beq k 4) (2088) 0))) (cond (Nat.ble 2 k) (cond (Nat.ble 3 k) (cond (Nat.beq k 3) (2086) 0) (cond (Nat.beq k 2) (2084) 0)) (cond (Nat.ble 1 k) (cond (Nat.beq k 1) (2082) 0) (cond (Nat.beq k 0) (2080) 0))))) 0))))
noncomputable def chkC (ci : Nat) : Bool := match clT[ci]? with
  | none => true
  | some r => allB r.2.2 (fun k => atB (plLay ci k) (u_lay r.1 r.2.1 k) && (decide (parseFieldDescriptor (r.2.1 k).2.2.1 = some (tyT ci k)) && allB r.2.2 fun b => Nat.beq k b || decide ((r.2.1 k).2.1 ≠ (r.2.1 b).2.1)))
theorem chkC_all : allB 8 chkC = true := by decide +kernel
theorem tab_C : ClsOK := by
  intro ci r hr
  have hci : ci < 8 := (List.getElem?_eq_some_iff.mp hr).1
  have hc := allB_ok chkC_all ci hci
  unfold chkC at hc
  rw [hr] at hc
  simp only at hc
  have hk : ∀ k, k < r.2.2 → u_lay r.1 r.2.1 k ∈ TBg ∧ parseFieldDescriptor (r.2.1 k).2.2.1 = some (tyT ci k) ∧ ∀ b, b < r.2.2 → k ≠ b → (r.2.1 k).2.1 ≠ (r.2.1 b).2.1 := by
    intro k hk
    have h1 := allB_ok hc k hk
    simp only [Bool.and_eq_true] at h1
    refine ⟨atB_ok h1.1, of_decide_eq_true h1.2.1, fun b hb hne => ?_⟩
    have h2 := allB_ok h1.2.2 b hb
    simp only [Bool.or_eq_true] at h2
    rcases h2 with h2 | h2
    · exact absurd (Nat.eq_of_beq_eq_true h2) hne
    · exact of_decide_eq_true h2
  refine ⟨fun w hw => ?_, fun k h => (hk k h).2.1, fun a ha b hb hne => (hk a ha).2.2 b hb hne⟩
  obtain ⟨k, h1, h2⟩ := List.mem_map.mp hw
  rw [← h2]
  exact (hk k (List.mem_range.mp h1)).1
def anyAt (ps : List Nat) (w : Cond) : Bool := ps.any fun p => atB p w
theorem anyAt_ok {ps : List Nat} {w : Cond} (h : anyAt ps w = true) : w ∈ TBg := by
  obtain ⟨p, -, hp⟩ := List.any_eq_true.mp h
  exact atB_ok hp
theorem thr_0 : (exWs (97, "java/lang/IllegalArgumentException")).all (anyAt [2015, 2016, 2017, 2018, 2039, 2040, 2041, 2047, 2053, 2106, 2155, 2184, 2214, 3153, 3154, 3156, 3157, 3158, 3159, 3160, 3161, 3162, 3163, 3164, 3165, 3166, 3167, 3168, 3169, 3170, 3171, 3172, 3173, 3174, 3175, 3176, 3177, 3178, 3179, 3180, 3181, 3182, 3183, 3184, 3185, 3193, 3194, 3195, 3196, 3197, 3198, 3200, 3201, 3202, 3203, 3204, 3205, 3206, 3207, 3208, 3209, 3210, 3211, 3212, 3213, 3214, 3215, 3216, 3217, 3218, 3219, 3220, 3221, 3222, 3223, 3224, 3231, 3232, 3233, 3234, 3235, 4000, 4001, 4002, 4009, 4010, 4011, 4012, 4013, 4018, 4019, 4020, 4027, 4028, 4029, 4030, 4031, 4036, 4037, 4038, 4045, 4046, 4047, 4048, 4049, 4054, 4055, 4056, 5071, 5095, 5102, 5128, 5129, 5130, 5131, 5132, 5133, 5153, 5154, 5155, 5156, 5157, 5168, 5227, 7145, 7146, 7147, 7148, 7149, 7150, 7151, 7152, 8094, 10134]) = true := by decide +kernel
theorem thr_1 : (exWs (120, "java/lang/IndexOutOfBoundsException")).all (anyAt [2015, 2016, 2017, 2021, 2039, 2040, 2041, 2047, 2053, 2106, 2155, 2184, 2214, 3156, 3157, 3158, 3159, 3160, 3161, 3164, 3165, 3166, 3167, 3168, 3169, 3170, 3171, 3172, 3173, 3174, 3175, 3176, 3177, 3178, 3179, 3180, 3181, 3182, 3183, 3184, 3185, 3189, 3193, 3194, 3195, 3196, 3197, 3198, 3203, 3204, 3205, 3206, 3207, 3208, 3209, 3210, 3211, 3212, 3213, 3214, 3215, 3216, 3217, 3218, 3219, 3220, 3221, 3222, 3223, 3224, 3231, 3232, 3233, 3234, 3235, 4000, 4001, 4002, 4009, 4010, 4011, 4012, 4013, 4018, 4019, 4020, 4023, 4024, 4026, 4027, 4028, 4029, 4030, 4031, 4033, 4034, 4035, 4036, 4037, 4038, 4045, 4046, 4047, 4048, 4049, 4054, 4055, 4056, 5071, 5127, 5128, 5129, 5130, 5131, 5132, 5133, 5134, 5150, 5151, 5153, 5154, 5155, 5156, 5157, 5167, 5168, 5169, 6060, 7145, 7146, 7147, 7148, 7149, 7150, 7151, 7152, 8094, 10134]) = true := by decide +kernel
theorem thr_2 : (exWs (210, "java/util/NoSuchElementException")).all (anyAt [2015, 2016, 2017, 2020, 2039, 2040, 2041, 2047, 2053, 2106, 2155, 2184, 2214, 3156, 3157, 3158, 3159, 3160, 3161, 3164, 3165, 3166, 3167, 3168, 3169, 3170, 3171, 3172, 3173, 3174, 3175, 3176, 3177, 3178, 3179, 3180, 3181, 3182, 3183, 3184, 3185, 3192, 3193, 3194, 3195, 3196, 3197, 3198, 3203, 3204, 3205, 3206, 3207, 3208, 3209, 3210, 3211, 3212, 3213, 3214, 3215, 3216, 3217, 3218, 3219, 3220, 3221, 3222, 3223, 3224, 3231, 3232, 3233, 3234, 3235, 4000, 4001, 4002, 4005, 4006, 4008, 4009, 4010, 4011, 4012, 4013, 4015, 4016, 4017, 4018, 4019, 4020, 4027, 4028, 4029, 4030, 4031, 4036, 4037, 4038, 4045, 4046, 4047, 4048, 4049, 4054, 4055, 4056, 5071, 5128, 5129, 5130, 5131, 5132, 5133, 5153, 5154, 5155, 5156, 5157, 5168, 6013, 7145, 7146, 7147, 7148, 7149, 7150, 7151, 7152, 8094, 10134]) = true := by decide +kernel
theorem thr_3 : (exWs (234, "java/lang/IllegalStateException")).all (anyAt [2015, 2016, 2017, 2019, 2039, 2040, 2041, 2047, 2053, 2106, 2155, 2184, 2214, 3156, 3157, 3158, 3159, 3160, 3161, 3164, 3165, 3166, 3167, 3168, 3169, 3170, 3171, 3172, 3173, 3174, 3175, 3176, 3177, 3178, 3179, 3180, 3181, 3182, 3183, 3184, 3185, 3188, 3193, 3194, 3195, 3196, 3197, 3198, 3203, 3204, 3205, 3206, 3207, 3208, 3209, 3210, 3211, 3212, 3213, 3214, 3215, 3216, 3217, 3218, 3219, 3220, 3221, 3222, 3223, 3224, 3227, 3228, 3230, 3231, 3232, 3233, 3234, 3235, 3237, 3238, 3239, 4000, 4001, 4002, 4009, 4010, 4011, 4012, 4013, 4018, 4019, 4020, 4027, 4028, 4029, 4030, 4031, 4036, 4037, 4038, 4045, 4046, 4047, 4048, 4049, 4054, 4055, 4056, 5071, 5128, 5129, 5130, 5131, 5132, 5133, 5153, 5154, 5155, 5156, 5157, 5168, 5228, 7145, 7146, 7147, 7148, 7149, 7150, 7151, 7152, 8094, 10134]) = true := by decide +kernel
theorem thr_4 : (exWs (274, "java/lang/ArithmeticException")).all (anyAt [2015, 2016, 2017, 2028, 2039, 2040, 2041, 2047, 2053, 2106, 2155, 2184, 2214, 3156, 3157, 3158, 3159, 3160, 3161, 3164, 3165, 3166, 3167, 3168, 3169, 3170, 3171, 3172, 3173, 3174, 3175, 3176, 3177, 3178, 3179, 3180, 3181, 3182, 3183, 3184, 3185, 3186, 3193, 3194, 3195, 3196, 3197, 3198, 3203, 3204, 3205, 3206, 3207, 3208, 3209, 3210, 3211, 3212, 3213, 3214, 3215, 3216, 3217, 3218, 3219, 3220, 3221, 3222, 3223, 3224, 3231, 3232, 3233, 3234, 3235, 4000, 4001, 4002, 4009, 4010, 4011, 4012, 4013, 4018, 4019, 4020, 4027, 4028, 4029, 4030, 4031, 4036, 4037, 4038, 4045, 4046, 4047, 4048, 4049, 4054, 4055, 4056, 5071, 5128, 5129, 5130, 5131, 5132, 5133, 5153, 5154, 5155, 5156, 5157, 5168, 7141, 7142, 7143, 7144, 7145, 7146, 7147, 7148, 7149, 7150, 7151, 7152, 7154, 7159, 7161, 8094, 10134]) = true := by decide +kernel
theorem thr_5 : (exWs (349, "java/lang/UnsupportedOperationException")).all (anyAt [2015, 2016, 2017, 2022, 2039, 2040, 2041, 2047, 2053, 2106, 2155, 2184, 2214, 3156, 3157, 3158, 3159, 3160, 3161, 3164, 3165, 3166, 3167, 3168, 3169, 3170, 3171, 3172, 3173, 3174, 3175, 3176, 3177, 3178, 3179, 3180, 3181, 3182, 3183, 3184, 3185, 3191, 3193, 3194, 3195, 3196, 3197, 3198, 3203, 3204, 3205, 3206, 3207, 3208, 3209, 3210, 3211, 3212, 3213, 3214, 3215, 3216, 3217, 3218, 3219, 3220, 3221, 3222, 3223, 3224, 3231, 3232, 3233, 3234, 3235, 4000, 4001, 4002, 4009, 4010, 4011, 4012, 4013, 4018, 4019, 4020, 4027, 4028, 4029, 4030, 4031, 4036, 4037, 4038, 4041, 4042, 4044, 4045, 4046, 4047, 4048, 4049, 4051, 4052, 4053, 4054, 4055, 4056, 5071, 5128, 5129, 5130, 5131, 5132, 5133, 5153, 5154, 5155, 5156, 5157, 5168, 7087, 7145, 7146, 7147, 7148, 7149, 7150, 7151, 7152, 8094, 10134]) = true := by decide +kernel
theorem tab_T : ThrWords := by
  intro q hq w hw
  simp only [exL, List.mem_cons, List.not_mem_nil, or_false] at hq
  rcases hq with rfl | rfl | rfl | rfl | rfl | rfl
  · exact anyAt_ok (List.all_eq_true.mp thr_0 w hw)
  · exact anyAt_ok (List.all_eq_true.mp thr_1 w hw)
  · exact anyAt_ok (List.all_eq_true.mp thr_2 w hw)
  · exact anyAt_ok (List.all_eq_true.mp thr_3 w hw)
  · exact anyAt_ok (List.all_eq_true.mp thr_4 w hw)
  · exact anyAt_ok (List.all_eq_true.mp thr_5 w hw)
